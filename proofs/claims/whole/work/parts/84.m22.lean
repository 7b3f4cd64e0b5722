/-! L3: sow of the reference -/
theorem TH_fl {s0 s s' : ST} (h : TH s0 s) (hf : Fl s s') : TH s0 s' := by
  obtain ⟨h1, h2, h3, h4, h5⟩ := h
  refine ⟨(hf.1 65 75 (by omega) (by omega)).trans h1, fun k hk => (hf.1 113 k (by omega) (by omega)).trans (h2 k hk), fun o k q a b => ?_, fun o k q => ?_, hf.2.2.trans h5⟩
  · exact (hf.1 o k (by unfold QP at q; omega) (by unfold QP at q; omega)).trans (h3 o k q a b)
  · exact (hf.2.1 o k (by unfold QL at q; omega) (by unfold QL at q; omega) (by unfold QL at q; omega)).trans (h4 o k q)
theorem HMs_fd {H : Int → Int} {s s' : ST} (h : HMs H s) (hf : Fdy s s') : HMs H s' := fun k k1 k2 => (hf.2.1 119 _ (by omega) (by omega)).trans (h k k1 k2)
theorem m_sow0_L (K : Int32 → Int32 → ST → Option (Int32 × ST)) (a b : Int32) : ∀ (n F : Nat) (i : Int) (s : ST), 0 ≤ i → (n : Int) = 25 - i → n < F → (∀ k : Int, 0 ≤ k → k < i → s.2.1 119 k.toNat = Int64.ofInt 0) → ∃ s', s'.1 = s.1 ∧ s'.2.2 = s.2.2 ∧ (∀ o k : Nat, ¬ o = 119 → s'.2.1 o k = s.2.1 o k) ∧ HMs (fun _ => 0) s' ∧ f_X10_sow_L27 K F a b (Int32.ofInt i) s = K a b s' := by
  intro n
  induction n with
  | zero =>
    intro F i s h0 hn hF hz
    obtain ⟨F, rfl⟩ : ∃ F', F = F' + 1 := ⟨F - 1, by omega⟩
    refine ⟨s, rfl, rfl, fun _ _ _ => rfl, fun k k1 k2 => hz k k1 (by omega), ?_⟩
    simp (disch := omega) only [f_X10_sow_L27, n_i8, n_i16, n_0, n_31, n_add, n_sub, n_mul, n_neg, n_div, n_rem, n_le_t, n_le_f, n_lt_t, n_lt_f, n_eq_t, n_eq_f, n_cl, n_gd, n_gdt, n_nz, Int.reduceToNat, Int.reduceAdd, Int.reduceSub, Int.reduceMul, Int.reduceNeg, Int.reduceLT, Int.reduceLE, Int.reduceEq, Int.reduceDiv, Int.reduceMod, Nat.reduceAdd, Nat.reduceMul, ↓reduceIte]
  | succ n ih =>
    intro F i s h0 hn hF hz
    obtain ⟨F, rfl⟩ : ∃ F', F = F' + 1 := ⟨F - 1, by omega⟩
    obtain ⟨s', q1, q2, q3, q4, q5⟩ := ih F (i + 1) (uJ s 119 i.toNat (Int64.ofInt 0)) (by omega) (by omega) (by omega) (fun k k1 k2 => by
      by_cases e : k = i
      · subst e; rw [j_eq]
      · rw [j_nk (by omega)]; exact hz k k1 (by omega))
    refine ⟨s', q1, q2, fun o k ho => (q3 o k ho).trans (j_no ho), q4, ?_⟩
    rw [← q5]
    simp (disch := omega) only [f_X10_sow_L27, n_i8, n_i16, n_0, n_31, n_add, n_sub, n_mul, n_neg, n_div, n_rem, n_le_t, n_le_f, n_lt_t, n_lt_f, n_eq_t, n_eq_f, n_cl, n_gd, n_gdt, n_nz, Int.reduceToNat, Int.reduceAdd, Int.reduceSub, Int.reduceMul, Int.reduceNeg, Int.reduceLT, Int.reduceLE, Int.reduceEq, Int.reduceDiv, Int.reduceMod, Nat.reduceAdd, Nat.reduceMul, ↓reduceIte, l_0, l_1, l_00, l_i, l_j, l_add, l_sub, l_mul, l_gt, l_ceq, l_clt, l_nz, ltd]
theorem m_sow_L52 {B : Brd} {s0 : ST} (hH0 : MH B s0) (hV : Hv B) (hD : Bd B) (h78 : s0.1 65 78 = Int32.ofInt (-1)) {N : Int} {w : Int32} (hN : N ≤ 20) (K : Int32 → ST → Option (Int32 × ST)) : ∀ (c F : Nat) (i : Int) (p : Gam × (Int → Int)) (s : ST), TH s0 s → MA B p.1 s → HMs p.2 s → Hb p.2 (25000000 * i) → gd_ p.1 + c ≤ 1000 → s.1 65 78 = s0.1 65 78 → 0 ≤ i → (c : Int) = N - i → c < F → ∃ s', TH s0 s' ∧ s'.1 65 78 = s0.1 65 78 ∧ HMs (sowN B c p).2 s' ∧ Hb (sowN B c p).2 (25000000 * N) ∧ f_X10_sow_L52 K F (Int32.ofInt N) w (Int32.ofInt i) s = K w s' := by
  intro c
  induction c with
  | zero =>
    intro F i p s hT hA hs hb hd hq h0 hn hF
    obtain ⟨F, rfl⟩ : ∃ F', F = F' + 1 := ⟨F - 1, by omega⟩
    refine ⟨s, hT, hq, hs, ?_, ?_⟩
    · have : i = N := by omega
      rw [← this]; exact hb
    · simp (disch := omega) only [f_X10_sow_L52, n_i8, n_i16, n_0, n_31, n_add, n_sub, n_mul, n_neg, n_div, n_rem, n_le_t, n_le_f, n_lt_t, n_lt_f, n_eq_t, n_eq_f, n_cl, n_gd, n_gdt, n_nz, Int.reduceToNat, Int.reduceAdd, Int.reduceSub, Int.reduceMul, Int.reduceNeg, Int.reduceLT, Int.reduceLE, Int.reduceEq, Int.reduceDiv, Int.reduceMod, Nat.reduceAdd, Nat.reduceMul, ↓reduceIte]
  | succ c ih =>
    intro F i p s hT hA hs hb hd hq h0 hn hF
    obtain ⟨F, rfl⟩ : ∃ F', F = F' + 1 := ⟨F - 1, by omega⟩
    obtain ⟨s1, q1, q2, q3⟩ := m_today hA hD (ds := -1) (db := 0) ⟨hq.trans h78, Or.inl rfl⟩ (by omega) (by omega) (Or.inl rfl)
    have hA1 := MA_Sd hA q2
    have hT1 := TH_fd hT q2.fd
    have hs1 := HMs_fd hs q2.fd
    have hok : okA B p.1 (todA B (-1) 0 p.1) := okA_cb hA.1
    have hq1 : s1.1 65 78 = s0.1 65 78 := (q2.1 65 78 (by omega) (by omega)).trans hq
    have c68 := q3.1
    have hstep : sowN B (c + 1) p = sowN B c (dayB B (-1) 0 p.1, if (todA B (-1) 0 p.1).1 = -1 then p.2 else lay B p.1 (todA B (-1) 0 p.1) p.2) := rfl
    rw [hstep]
    have hday : dayB B (-1) 0 p.1 = dayG B p.1 (todA B (-1) 0 p.1) := rfl
    rw [hday]
    by_cases e : (todA B (-1) 0 p.1).1 = -1
    · rw [if_pos e]
      obtain ⟨s2, q4, q5, q6⟩ := m_dayT hA1 (MH_TH hH0 hT1) hV q3 hok (by omega) hT1.1
      obtain ⟨s3, w1, w2, w3, w4, w5⟩ := ih F (i + 1) (dayG B p.1 (todA B (-1) 0 p.1), p.2) s2 (TH_fd hT1 q5) q6 (HMs_fd hs1 q5) (fun k => by have := hb k; show 0 ≤ p.2 k ∧ p.2 k ≤ 25000000 * (i + 1); omega) (by show gd_ (dayG B p.1 (todA B (-1) 0 p.1)) + c ≤ 1000; rw [dayG_d]; omega) ((q5.1 65 78 (by omega) (by omega) (by omega)).trans hq1) (by omega) (by omega) (by omega)
      refine ⟨s3, w1, w2, w3, w4, ?_⟩
      rw [← w5]
      rw [e] at c68
      simp (disch := omega) only [f_X10_sow_L52, f_X10_sow_j73, q1, c68, q4, n_i8, n_i16, n_0, n_31, n_add, n_sub, n_mul, n_neg, n_div, n_rem, n_le_t, n_le_f, n_lt_t, n_lt_f, n_eq_t, n_eq_f, n_cl, n_gd, n_gdt, n_nz, Int.reduceToNat, Int.reduceAdd, Int.reduceSub, Int.reduceMul, Int.reduceNeg, Int.reduceLT, Int.reduceLE, Int.reduceEq, Int.reduceDiv, Int.reduceMod, Nat.reduceAdd, Nat.reduceMul, ↓reduceIte, u_eq, u_no, u_nk, u_ek, u_2, u_3, j_1, j_3, j_eq, j_no, j_nk, ltd, bnd]
    · rw [if_neg e]
      obtain ⟨s2, r1, r2, r3⟩ := m_lays hA1 (MH_TH hH0 hT1) hV q3 hok e hs1
      have hT2 := TH_fl hT1 r2
      have hA2 : MA B p.1 s2 := MA_fr hA1 (fun o k hk => r2.1 o k (by omega) (by omega))
      have hC2 : CH (todA B (-1) 0 p.1) s2 := CH_fr q3 (fun k k1 k2 => r2.1 65 k (by omega) (by omega))
      obtain ⟨s3, q4, q5, q6⟩ := m_dayT hA2 (MH_TH hH0 hT2) hV hC2 hok (by omega) hT2.1
      have hlb := lay_b hA.1 hV hA.2.1 hok e hb
      obtain ⟨s4, w1, w2, w3, w4, w5⟩ := ih F (i + 1) (dayG B p.1 (todA B (-1) 0 p.1), lay B p.1 (todA B (-1) 0 p.1) p.2) s3 (TH_fd hT2 q5) q6 (HMs_fd r3 q5) (fun k => by have := hlb k; show 0 ≤ lay B p.1 (todA B (-1) 0 p.1) p.2 k ∧ lay B p.1 (todA B (-1) 0 p.1) p.2 k ≤ 25000000 * (i + 1); omega) (by show gd_ (dayG B p.1 (todA B (-1) 0 p.1)) + c ≤ 1000; rw [dayG_d]; omega) ((q5.1 65 78 (by omega) (by omega) (by omega)).trans ((r2.1 65 78 (by omega) (by omega)).trans hq1)) (by omega) (by omega) (by omega)
      refine ⟨s4, w1, w2, w3, w4, ?_⟩
      rw [← w5]
      have hb1 : 0 ≤ (todA B (-1) 0 p.1).1 ∧ (todA B (-1) 0 p.1).1 ≤ 2147483647 := by
        rcases hok with hok | hok
        · exact absurd hok e
        · exact hok.1
      simp (disch := omega) only [f_X10_sow_L52, f_X10_sow_j73, q1, c68, r1, q4, n_i8, n_i16, n_0, n_31, n_add, n_sub, n_mul, n_neg, n_div, n_rem, n_le_t, n_le_f, n_lt_t, n_lt_f, n_eq_t, n_eq_f, n_cl, n_gd, n_gdt, n_nz, Int.reduceToNat, Int.reduceAdd, Int.reduceSub, Int.reduceMul, Int.reduceNeg, Int.reduceLT, Int.reduceLE, Int.reduceEq, Int.reduceDiv, Int.reduceMod, Nat.reduceAdd, Nat.reduceMul, ↓reduceIte, u_eq, u_no, u_nk, u_ek, u_2, u_3, j_1, j_3, j_eq, j_no, j_nk, ltd, bnd]
theorem m_sow_L92 {B : Brd} {G : Gam} {s : ST} (h : MA B G s) {H : Int → Int} (hs : HMs H s) (hb : Hb H 500000000) {w : Int32} (K : Int32 → Int32 → ST → Option (Int32 × ST)) : ∀ (c F : Nat) (i b : Int), 0 ≤ i → (c : Int) = bW B * bH B - i → c < F → 0 ≤ b → b < bW B * bH B → (0 ≤ (upto c i).foldl (lstS H) b ∧ (upto c i).foldl (lstS H) b < bW B * bH B) ∧ f_X10_sow_L92 K F w (Int32.ofInt b) (Int32.ofInt i) s = K w (Int32.ofInt ((upto c i).foldl (lstS H) b)) s := by
  have hpl := m_places h
  have hW : bW B ≤ 5 := h.1.1.1.2.1; have hH : bH B ≤ 5 := h.1.1.1.2.2.2.1; have hW0 : 0 ≤ bW B := h.1.1.1.1; have hH0 : 0 ≤ bH B := h.1.1.1.2.2.1; have hWH : bW B * bH B ≤ 25 := (Int.mul_le_mul hW hH hH0 (by omega)); have hWH0 : 0 ≤ bW B * bH B := Int.mul_nonneg hW0 hH0
  intro c
  induction c with
  | zero =>
    intro F i b h0 hn hF b1 b2
    obtain ⟨F, rfl⟩ : ∃ F', F = F' + 1 := ⟨F - 1, by omega⟩
    refine ⟨⟨b1, b2⟩, ?_⟩
    simp (disch := omega) only [f_X10_sow_L92, hpl, upto, List.foldl_nil, n_i8, n_i16, n_0, n_31, n_add, n_sub, n_mul, n_neg, n_div, n_rem, n_le_t, n_le_f, n_lt_t, n_lt_f, n_eq_t, n_eq_f, n_cl, n_gd, n_gdt, n_nz, Int.reduceToNat, Int.reduceAdd, Int.reduceSub, Int.reduceMul, Int.reduceNeg, Int.reduceLT, Int.reduceLE, Int.reduceEq, Int.reduceDiv, Int.reduceMod, Nat.reduceAdd, Nat.reduceMul, ↓reduceIte, u_eq, u_no, u_nk, u_ek, u_2, u_3, j_1, j_3, j_eq, j_no, j_nk, ltd, bnd]
  | succ c ih =>
    intro F i b h0 hn hF b1 b2
    obtain ⟨F, rfl⟩ : ∃ F', F = F' + 1 := ⟨F - 1, by omega⟩
    have ci := hs i h0 (by omega)
    have cb := hs b b1 (by omega)
    have hi := hb i
    have hbb := hb b
    simp only [upto, List.foldl_cons]
    have hst : lstS H b i = if H i < H b then i else b := rfl
    by_cases e : H i < H b
    · rw [if_pos e] at hst
      rw [hst]
      have w3 := ih F (i + 1) i (by omega) (by omega) (by omega) h0 (by omega)
      refine ⟨w3.1, ?_⟩
      rw [← w3.2]
      simp (disch := omega) only [f_X10_sow_L92, hpl, ci, cb, n_i8, n_i16, n_0, n_31, n_add, n_sub, n_mul, n_neg, n_div, n_rem, n_le_t, n_le_f, n_lt_t, n_lt_f, n_eq_t, n_eq_f, n_cl, n_gd, n_gdt, n_nz, Int.reduceToNat, Int.reduceAdd, Int.reduceSub, Int.reduceMul, Int.reduceNeg, Int.reduceLT, Int.reduceLE, Int.reduceEq, Int.reduceDiv, Int.reduceMod, Nat.reduceAdd, Nat.reduceMul, ↓reduceIte, l_0, l_1, l_00, l_i, l_j, l_add, l_sub, l_mul, l_gt, l_ceq, l_clt, l_nz, u_eq, u_no, u_nk, u_ek, u_2, u_3, j_1, j_3, j_eq, j_no, j_nk, ltd, bnd]
    · rw [if_neg e] at hst
      rw [hst]
      have w3 := ih F (i + 1) b (by omega) (by omega) (by omega) b1 b2
      refine ⟨w3.1, ?_⟩
      rw [← w3.2]
      by_cases e2 : H i = H b
      · simp (disch := omega) only [f_X10_sow_L92, hpl, ci, cb, n_i8, n_i16, n_0, n_31, n_add, n_sub, n_mul, n_neg, n_div, n_rem, n_le_t, n_le_f, n_lt_t, n_lt_f, n_eq_t, n_eq_f, n_cl, n_gd, n_gdt, n_nz, Int.reduceToNat, Int.reduceAdd, Int.reduceSub, Int.reduceMul, Int.reduceNeg, Int.reduceLT, Int.reduceLE, Int.reduceEq, Int.reduceDiv, Int.reduceMod, Nat.reduceAdd, Nat.reduceMul, ↓reduceIte, l_0, l_1, l_00, l_i, l_j, l_add, l_sub, l_mul, l_gt, l_ceq, l_clt, l_nz, u_eq, u_no, u_nk, u_ek, u_2, u_3, j_1, j_3, j_eq, j_no, j_nk, ltd, bnd]
      · simp (disch := omega) only [f_X10_sow_L92, hpl, ci, cb, n_i8, n_i16, n_0, n_31, n_add, n_sub, n_mul, n_neg, n_div, n_rem, n_le_t, n_le_f, n_lt_t, n_lt_f, n_eq_t, n_eq_f, n_cl, n_gd, n_gdt, n_nz, Int.reduceToNat, Int.reduceAdd, Int.reduceSub, Int.reduceMul, Int.reduceNeg, Int.reduceLT, Int.reduceLE, Int.reduceEq, Int.reduceDiv, Int.reduceMod, Nat.reduceAdd, Nat.reduceMul, ↓reduceIte, l_0, l_1, l_00, l_i, l_j, l_add, l_sub, l_mul, l_gt, l_ceq, l_clt, l_nz, u_eq, u_no, u_nk, u_ek, u_2, u_3, j_1, j_3, j_eq, j_no, j_nk, ltd, bnd]
def lst (B : Brd) (H : Int → Int) : Int := (upto (bW B * bH B - 1).toNat 1).foldl (lstS H) 0
def aSow (B : Brd) (H : Int → Int) (w : Int) : Int := if w = 0 then lst B H % bW B else if w = 1 then lst B H / bW B else if H (lst B H) ≤ 999999 then H (lst B H) else 999999
def sowH (B : Brd) (G : Gam) (n : Int) : Int → Int := (sowN B n.toNat (G, fun _ => 0)).2
theorem m_sow {B : Brd} {G : Gam} {brd : Bool} {s : ST} (hR : RS B G brd s) {n w : Int} (n1 : -2147483648 ≤ n) (n2 : n ≤ 2147483647) (w1 : -2147483648 ≤ w) (w2 : w ≤ 2147483647) : (ahd G brd n 0 20 ∧ (0 ≤ w ∧ w ≤ 2) → ∃ s', f_X10_sow (Int32.ofInt n) (Int32.ofInt w) s = some (Int32.ofInt (aSow B (sowH B G n) w), s') ∧ QF s s') ∧ (¬ (ahd G brd n 0 20 ∧ (0 ≤ w ∧ w ≤ 2)) → f_X10_sow (Int32.ofInt n) (Int32.ofInt w) s = some (Int32.ofInt (-1), s)) := by
  have hi := m_isAheadR hR n1 n2 (a := 0) (b := 20) (by omega) (by omega) (by omega) (by omega)
  have hj := m_isIn (s := s) (v := w) (a := 0) (b := 2) (by omega) (by omega) (by omega) (by omega) (by omega) (by omega)
  constructor
  · intro ⟨c1, c2⟩
    have hi := hi.1 c1
    rw [decide_eq_true c2] at hj
    have e1 := c1.2.1
    have e2 := c1.2.2
    have hbd := hR.2.2.2.2.1 c1.1
    obtain ⟨s1, z1, z2, z3, z4, z5⟩ := m_sow0_L f_X10_sow_j46 (Int32.ofInt n) (Int32.ofInt w) 25 fuel 0 s (by omega) (by omega) (by unfold fuel; omega) (fun k k1 k2 => by omega)
    have hQ1 : QF s s1 := ⟨fun o k _ => by rw [z1], fun o k q => z3 o k (by unfold QL at q; omega), z2⟩
    have hR1 := RS_QF hR hQ1
    obtain ⟨s2, q1, q2, q3, q4, q5, q6, q7⟩ := m_think hR1
    have hs2 : HMs (fun _ => 0) s2 := fun k k1 k2 => by rw [q7]; exact z4 k k1 k2
    obtain ⟨s3, r1, r2, r3, r4, r5⟩ := m_sow_L52 (s0 := s1) hR1.1.2.1 hR.1.2.2 hbd.1 hR1.2.2.2.1 (N := n) (w := Int32.ofInt w) (by omega) f_X10_sow_j83 n.toNat fuel 0 (G, fun _ => 0) s2 q2 q3 hs2 (fun k => by show (0 : Int) ≤ 0 ∧ (0 : Int) ≤ _; omega) (by show gd_ G + _ ≤ 1000; omega) q6 (by omega) (by omega) (by unfold fuel; omega)
    obtain ⟨s4, t1, t2, t3⟩ := m_takesBack r1 hR1.2.2.1 r2
    have hs4 : HMs (sowH B G n) s4 := fun k k1 k2 => by rw [t3]; exact r3 k k1 k2
    have hb4 : Hb (sowH B G n) 500000000 := fun k => by have a := r4 k; have b : 0 ≤ sowH B G n k ∧ sowH B G n k ≤ 25000000 * n := a; omega
    have hR4 := RS_QF hR1 t2
    have h := hR4.1.1
    have hW : bW B ≤ 5 := h.1.1.1.2.1; have hH : bH B ≤ 5 := h.1.1.1.2.2.2.1; have hW0 : 0 ≤ bW B := h.1.1.1.1; have hH0 : 0 ≤ bH B := h.1.1.1.2.2.1; have hWH : bW B * bH B ≤ 25 := (Int.mul_le_mul hW hH hH0 (by omega)); have hWH0 : 0 ≤ bW B * bH B := Int.mul_nonneg hW0 hH0
    have hWH4 : 4 ≤ bW B * bH B := by
      have := Int.mul_le_mul hbd.2.1 hbd.2.2 (by omega) hW0
      omega
    have hl := m_sow_L92 h hs4 hb4 (w := Int32.ofInt w) f_X10_sow_j127 (bW B * bH B - 1).toNat fuel 1 0 (by omega) (by omega) (by unfold fuel; omega) (by omega) (by omega)
    obtain ⟨hl1, hl2⟩ := hl
    have hld : (upto (bW B * bH B - 1).toNat 1).foldl (lstS (sowH B G n)) 0 = lst B (sowH B G n) := rfl
    rw [hld] at hl1 hl2
    have hc := hs4 _ hl1.1 (by omega)
    have hcb := hb4 (lst B (sowH B G n))
    have c4 : s4.1 103 4 = Int32.ofInt (bW B) := h.2.2.1.1.2.2.2.1
    have hRm : lst B (sowH B G n) - lst B (sowH B G n) / bW B * bW B = lst B (sowH B G n) % bW B := n_rem _ _
    unfold aSow
    generalize lst B (sowH B G n) = b at *
    generalize hz : sowH B G n b = z at *
    refine ⟨s4, ?_, hQ1.tr t2⟩
    have hw : w = 0 ∨ w = 1 ∨ w = 2 := by omega
    rcases hw with rfl | rfl | rfl
    · simp (disch := omega) only [f_X10_sow, f_X10_sow_j46, f_X10_sow_j83, f_X10_sow_j127, hi, hj, z5, q1, r5, t1, hl2, c4, hRm, bI_t, n_i8, n_i16, n_0, n_31, n_add, n_sub, n_mul, n_neg, n_div, n_rem, n_le_t, n_le_f, n_lt_t, n_lt_f, n_eq_t, n_eq_f, n_cl, n_gd, n_gdt, n_nz, Int.reduceToNat, Int.reduceAdd, Int.reduceSub, Int.reduceMul, Int.reduceNeg, Int.reduceLT, Int.reduceLE, Int.reduceEq, Int.reduceDiv, Int.reduceMod, Nat.reduceAdd, Nat.reduceMul, ↓reduceIte, l_0, l_1, l_00, l_i, l_j, l_add, l_sub, l_mul, l_gt, l_ceq, l_clt, l_nz, u_eq, u_no, u_nk, u_ek, u_2, u_3, j_1, j_3, j_eq, j_no, j_nk, ltd, bnd]
    · simp (disch := omega) only [f_X10_sow, f_X10_sow_j46, f_X10_sow_j83, f_X10_sow_j127, hi, hj, z5, q1, r5, t1, hl2, c4, bI_t, n_i8, n_i16, n_0, n_31, n_add, n_sub, n_mul, n_neg, n_div, n_rem, n_le_t, n_le_f, n_lt_t, n_lt_f, n_eq_t, n_eq_f, n_cl, n_gd, n_gdt, n_nz, Int.reduceToNat, Int.reduceAdd, Int.reduceSub, Int.reduceMul, Int.reduceNeg, Int.reduceLT, Int.reduceLE, Int.reduceEq, Int.reduceDiv, Int.reduceMod, Nat.reduceAdd, Nat.reduceMul, ↓reduceIte, l_0, l_1, l_00, l_i, l_j, l_add, l_sub, l_mul, l_gt, l_ceq, l_clt, l_nz, u_eq, u_no, u_nk, u_ek, u_2, u_3, j_1, j_3, j_eq, j_no, j_nk, ltd, bnd]
    · by_cases e : z ≤ 999999
      · by_cases e3 : z = 999999
        · simp (disch := omega) only [f_X10_sow, f_X10_sow_j46, f_X10_sow_j83, f_X10_sow_j127, hi, hj, z5, q1, r5, t1, hl2, hc, if_pos e, bI_t, n_i8, n_i16, n_0, n_31, n_add, n_sub, n_mul, n_neg, n_div, n_rem, n_le_t, n_le_f, n_lt_t, n_lt_f, n_eq_t, n_eq_f, n_cl, n_gd, n_gdt, n_nz, Int.reduceToNat, Int.reduceAdd, Int.reduceSub, Int.reduceMul, Int.reduceNeg, Int.reduceLT, Int.reduceLE, Int.reduceEq, Int.reduceDiv, Int.reduceMod, Nat.reduceAdd, Nat.reduceMul, ↓reduceIte, l_0, l_1, l_00, l_i, l_j, l_add, l_sub, l_mul, l_gt, l_ceq, l_clt, l_nz, u_eq, u_no, u_nk, u_ek, u_2, u_3, j_1, j_3, j_eq, j_no, j_nk, ltd, bnd]
        · simp (disch := omega) only [f_X10_sow, f_X10_sow_j46, f_X10_sow_j83, f_X10_sow_j127, hi, hj, z5, q1, r5, t1, hl2, hc, if_pos e, bI_t, n_i8, n_i16, n_0, n_31, n_add, n_sub, n_mul, n_neg, n_div, n_rem, n_le_t, n_le_f, n_lt_t, n_lt_f, n_eq_t, n_eq_f, n_cl, n_gd, n_gdt, n_nz, Int.reduceToNat, Int.reduceAdd, Int.reduceSub, Int.reduceMul, Int.reduceNeg, Int.reduceLT, Int.reduceLE, Int.reduceEq, Int.reduceDiv, Int.reduceMod, Nat.reduceAdd, Nat.reduceMul, ↓reduceIte, l_0, l_1, l_00, l_i, l_j, l_add, l_sub, l_mul, l_gt, l_ceq, l_clt, l_nz, u_eq, u_no, u_nk, u_ek, u_2, u_3, j_1, j_3, j_eq, j_no, j_nk, ltd, bnd]
      · simp (disch := omega) only [f_X10_sow, f_X10_sow_j46, f_X10_sow_j83, f_X10_sow_j127, hi, hj, z5, q1, r5, t1, hl2, hc, if_neg e, bI_t, n_i8, n_i16, n_0, n_31, n_add, n_sub, n_mul, n_neg, n_div, n_rem, n_le_t, n_le_f, n_lt_t, n_lt_f, n_eq_t, n_eq_f, n_cl, n_gd, n_gdt, n_nz, Int.reduceToNat, Int.reduceAdd, Int.reduceSub, Int.reduceMul, Int.reduceNeg, Int.reduceLT, Int.reduceLE, Int.reduceEq, Int.reduceDiv, Int.reduceMod, Nat.reduceAdd, Nat.reduceMul, ↓reduceIte, l_0, l_1, l_00, l_i, l_j, l_add, l_sub, l_mul, l_gt, l_ceq, l_clt, l_nz, u_eq, u_no, u_nk, u_ek, u_2, u_3, j_1, j_3, j_eq, j_no, j_nk, ltd, bnd]
  · intro c
    by_cases c1 : ahd G brd n 0 20
    · have hi := hi.1 c1
      rw [decide_eq_false (fun d => c ⟨c1, d⟩)] at hj
      simp (disch := omega) only [f_X10_sow, hi, hj, bI_f, n_i8, n_i16, n_0, n_31, n_add, n_sub, n_mul, n_neg, n_div, n_rem, n_le_t, n_le_f, n_lt_t, n_lt_f, n_eq_t, n_eq_f, n_cl, n_gd, n_gdt, n_nz, Int.reduceToNat, Int.reduceAdd, Int.reduceSub, Int.reduceMul, Int.reduceNeg, Int.reduceLT, Int.reduceLE, Int.reduceEq, Int.reduceDiv, Int.reduceMod, Nat.reduceAdd, Nat.reduceMul, ↓reduceIte, l_0, l_1, l_00, l_i, l_j, l_add, l_sub, l_mul, l_gt, l_ceq, l_clt, l_nz, u_eq, u_no, u_nk, u_ek, u_2, u_3, j_1, j_3, j_eq, j_no, j_nk, ltd, bnd]
    · have hi := hi.2 c1
      simp (disch := omega) only [f_X10_sow, hi, n_i8, n_i16, n_0, n_31, n_add, n_sub, n_mul, n_neg, n_div, n_rem, n_le_t, n_le_f, n_lt_t, n_lt_f, n_eq_t, n_eq_f, n_cl, n_gd, n_gdt, n_nz, Int.reduceToNat, Int.reduceAdd, Int.reduceSub, Int.reduceMul, Int.reduceNeg, Int.reduceLT, Int.reduceLE, Int.reduceEq, Int.reduceDiv, Int.reduceMod, Nat.reduceAdd, Nat.reduceMul, ↓reduceIte, l_0, l_1, l_00, l_i, l_j, l_add, l_sub, l_mul, l_gt, l_ceq, l_clt, l_nz, u_eq, u_no, u_nk, u_ek, u_2, u_3, j_1, j_3, j_eq, j_no, j_nk, ltd, bnd]
