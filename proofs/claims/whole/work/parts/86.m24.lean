/-! L3: acts of the reference -/
/-- what acts leave alone -/
def AF (s s' : ST) : Prop := (∀ o k : Nat, QP o k → ¬ o = 112 → ¬ o = 122 → ¬ (o = 65 ∧ (k = 84 ∨ k = 85)) → s'.1 o k = s.1 o k) ∧ (∀ k : Nat, s'.2.1 102 k = s.2.1 102 k) ∧ s'.2.2 = s.2.2
theorem AF.rf (s : ST) : AF s s := ⟨fun _ _ _ _ _ _ => rfl, fun _ => rfl, rfl⟩
theorem AF.tr {s t u : ST} (h1 : AF s t) (h2 : AF t u) : AF s u := ⟨fun o k a b c d => (h2.1 o k a b c d).trans (h1.1 o k a b c d), fun k => (h2.2.1 k).trans (h1.2.1 k), h2.2.2.trans h1.2.2⟩
theorem QF.af {s t : ST} (h : QF s t) : AF s t := ⟨fun o k a _ _ _ => h.1 o k a, fun k => h.2.1 102 k (Or.inl rfl), h.2.2⟩
theorem kpF.af {s t : ST} (h : kpF s t) : AF s t := ⟨fun o k a b c d => h.1 o k c d, fun k => by rw [h.2], by rw [h.2]⟩
theorem Fk.af {s t : ST} (h : Fk s t) : AF s t := ⟨fun o k a b c d => h.1 o k b (by unfold QP at a; omega) (by unfold QP at a; omega), fun k => h.2.1 102 k (by omega) (by omega), h.2.2⟩
theorem MA_kp {B : Brd} {G : Gam} {s s' : ST} (h : MA B G s) (hf : kpF s s') : MA B G s' := MA_fr h (fun o k hk => hf.1 o k (by omega) (by omega))
theorem MH_kp {B : Brd} {s s' : ST} (h : MH B s) (hf : kpF s s') : MH B s' := MH_fr h (fun o k o1 o2 => hf.1 o k (by omega) (by omega))
theorem RK_kp {K : List Ent} {s s' : ST} (h : RK K s) (hf : kpF s s') : RK K s' := RK_fr h (fun k hk => hf.1 112 k (by omega) (by omega))
theorem CH_kp {A : CA} {s s' : ST} (h : CH A s) (hf : kpF s s') : CH A s' := CH_fr h (fun k k1 k2 => hf.1 65 k (by omega) (by omega))
theorem RS_af {B : Brd} {G G' : Gam} {brd : Bool} {s s' : ST} (h : RS B G brd s) (hf : AF s s') (hA : MA B G' s') (hd : gd_ G' ≤ 999) : RS B G' brd s' := by
  obtain ⟨⟨h1, h2, h3⟩, h4, h5, h6, h7, h8, h9⟩ := h
  refine ⟨⟨hA, MH_fr h2 (fun o k o1 o2 => hf.1 o k (by unfold QP; omega) (by omega) (by omega) (by omega)), h3⟩, (hf.1 65 58 (by unfold QP; omega) (by omega) (by omega) (by omega)).trans h4, (hf.1 65 75 (by unfold QP; omega) (by omega) (by omega) (by omega)).trans h5, (hf.1 65 78 (by unfold QP; omega) (by omega) (by omega) (by omega)).trans h6, h7, h8, hd⟩
theorem RU_Fk {B : Brd} {U : USn} {nw : Int} {s s' : ST} (h : RU B U nw s) (hf : Fk s s') : RU B U nw s' := RU_fr h (hf.1 65 84 (by omega) (by omega) (by omega)) (hf.1 65 85 (by omega) (by omega) (by omega)) (fun k => hf.1 122 k (by omega) (by omega) (by omega))
theorem RU_Sd {B : Brd} {U : USn} {nw : Int} {s s' : ST} (h : RU B U nw s) (hf : Sd s s') : RU B U nw s' := RU_Fk h hf.fd.fk
def rfS (s : ST) (j : Nat) : ST := uI s 67 j (s.1 67 j + Int32.ofInt 1)
theorem m_refuses {s : ST} {j : Int} (j0 : 0 ≤ j) (j1 : j ≤ 5) : f_X10_refuses (Int32.ofInt j) s = some (Int32.ofInt (-1), rfS s j.toNat) := by
  unfold rfS
  simp (disch := omega) only [f_X10_refuses, n_i8, n_i16, n_0, n_31, n_add, n_sub, n_mul, n_neg, n_div, n_rem, n_le_t, n_le_f, n_lt_t, n_lt_f, n_eq_t, n_eq_f, n_cl, n_gd, n_gdt, n_nz, Int.reduceToNat, Int.reduceAdd, Int.reduceSub, Int.reduceMul, Int.reduceNeg, Int.reduceLT, Int.reduceLE, Int.reduceEq, Int.reduceDiv, Int.reduceMod, Nat.reduceAdd, Nat.reduceMul, ↓reduceIte, u_eq, u_no, u_nk, u_ek, u_2, u_3, j_1, j_3, j_eq, j_no, j_nk, ltd, bnd]
/-- an act: the game, what is kept, what can be undone behind it -/
def Act (B : Brd) (G : Gam) (brd : Bool) (K : List Ent) (U : USn) (s s' : ST) : Prop := RS B G brd s' ∧ RK K s' ∧ (∃ nw, RU B U nw s') ∧ AF s s'
theorem m_play {B : Brd} {G : Gam} {brd : Bool} {K : List Ent} {U : USn} {nw : Int} {s : ST} (hR : RS B G brd s) (hK : RK K s) (hU : RU B U nw s) {k : Int} (k1 : -2147483648 ≤ k) (k2 : k ≤ 2147483647) : (¬ (chz B G k).1 = -1 ∧ gd_ G < 999 → ∃ s', f_X10_play (Int32.ofInt k) s = some (Int32.ofInt (tkb B G (chz B G k).2.2.2.2), s') ∧ Act B (dayG B G (chz B G k)) brd (keepA B G (chz B G k) K) ((G, K) :: U.take 19) s s' ∧ s'.2.1 65 86 = s.2.1 65 86) ∧ (¬ (¬ (chz B G k).1 = -1 ∧ gd_ G < 999) → ∃ s1, f_X10_play (Int32.ofInt k) s = some (Int32.ofInt (-1), rfS s1 2) ∧ Sd s s1) := by
  have hd9 := hR.2.2.2.2.2.2
  obtain ⟨s1, q1, q2, q3⟩ := m_chooses hR.1.1 k1 k2
  have hA1 := MA_Sd hR.1.1 q2
  have hday := m_day hA1
  have hok := okA_chz (B := B) (G := G) hR.1.1.1.1.1.2.2.2.2.2.2.1 k2
  have c68 := q3.1
  have hrf := m_refuses (s := s1) (j := 2) (by omega) (by omega)
  have hdd := hR.1.1.2.1.1
  constructor
  · intro ⟨e, hd⟩
    have hR1 := RS_QF hR q2.qf
    obtain ⟨s2, nw2, r1, r2, r3⟩ := m_keeps hA1.1 hA1.2.1 hd9 hA1.2.2.2 (RK_fr hK (fun k hk => q2.1 112 k (by omega) (by omega))) (RU_Sd hU q2)
    obtain ⟨s3, t1, t2, t3, t4, t5⟩ := m_dayK (MA_kp hA1 r3) (MH_kp hR1.1.2.1 r3) hR.1.2.2 (RK_kp (RK_fr hK (fun k hk => q2.1 112 k (by omega) (by omega))) r3) (CH_kp q3 r3) hok hd9 ((r3.1 65 75 (by omega) (by omega)).trans hR1.2.2.1)
    have haf : AF s s3 := (q2.qf.af.tr r3.af).tr t2.af
    refine ⟨s3, ?_, ⟨RS_af hR haf t3 (by rw [dayG_d]; omega), t4, ⟨nw2, RU_Fk r2 t2⟩, haf⟩, ?_⟩
    · have hne : (Int32.ofInt (chz B G k).1 = Int32.ofInt (-1)) = False := by
        rcases hok with hok | hok
        · exact absurd hok e
        · exact n_eq_f e (by omega) (by omega) (by omega) (by omega)
      have h77 := t5 e
      simp (disch := omega) only [f_X10_play, q1, c68, hne, hday, r1, t1, h77, n_i8, n_i16, n_0, n_31, n_add, n_sub, n_mul, n_neg, n_div, n_rem, n_le_t, n_le_f, n_lt_t, n_lt_f, n_eq_t, n_eq_f, n_cl, n_gd, n_gdt, n_nz, Int.reduceToNat, Int.reduceAdd, Int.reduceSub, Int.reduceMul, Int.reduceNeg, Int.reduceLT, Int.reduceLE, Int.reduceEq, Int.reduceDiv, Int.reduceMod, Nat.reduceAdd, Nat.reduceMul, ↓reduceIte, u_eq, u_no, u_nk, u_ek, u_2, u_3, j_1, j_3, j_eq, j_no, j_nk, ltd, bnd, Int.toNat_zero]
    · rw [t2.2.1 65 86 (by omega) (by omega), r3.2, q2.2]
  · intro e
    refine ⟨s1, ?_, q2⟩
    have hrf : f_X10_refuses (Int32.ofInt 2) s1 = some (Int32.ofInt (-1), rfS s1 2) := hrf
    by_cases e1 : (chz B G k).1 = -1
    · rw [e1] at c68
      simp (disch := omega) only [f_X10_play, f_X10_play_j25, q1, c68, hrf, n_i8, n_i16, n_0, n_31, n_add, n_sub, n_mul, n_neg, n_div, n_rem, n_le_t, n_le_f, n_lt_t, n_lt_f, n_eq_t, n_eq_f, n_cl, n_gd, n_gdt, n_nz, Int.reduceToNat, Int.reduceAdd, Int.reduceSub, Int.reduceMul, Int.reduceNeg, Int.reduceLT, Int.reduceLE, Int.reduceEq, Int.reduceDiv, Int.reduceMod, Nat.reduceAdd, Nat.reduceMul, ↓reduceIte, u_eq, u_no, u_nk, u_ek, u_2, u_3, j_1, j_3, j_eq, j_no, j_nk, ltd, bnd]
    · have hd : gd_ G = 999 := by
        have : ¬ gd_ G < 999 := fun c => e ⟨e1, c⟩
        omega
      have hne : (Int32.ofInt (chz B G k).1 = Int32.ofInt (-1)) = False := by
        rcases hok with hok | hok
        · exact absurd hok e1
        · exact n_eq_f e1 (by omega) (by omega) (by omega) (by omega)
      rw [hd] at hday
      simp (disch := omega) only [f_X10_play, f_X10_play_j25, q1, c68, hne, hday, hrf, n_i8, n_i16, n_0, n_31, n_add, n_sub, n_mul, n_neg, n_div, n_rem, n_le_t, n_le_f, n_lt_t, n_lt_f, n_eq_t, n_eq_f, n_cl, n_gd, n_gdt, n_nz, Int.reduceToNat, Int.reduceAdd, Int.reduceSub, Int.reduceMul, Int.reduceNeg, Int.reduceLT, Int.reduceLE, Int.reduceEq, Int.reduceDiv, Int.reduceMod, Nat.reduceAdd, Nat.reduceMul, ↓reduceIte, u_eq, u_no, u_nk, u_ek, u_2, u_3, j_1, j_3, j_eq, j_no, j_nk, ltd, bnd, Int.toNat_zero]
def tendV (G : Gam) (f m : Int) : Int := if gb G f + m ≤ 999 then gb G f + m else 999
theorem m_tend {B : Brd} {G : Gam} {brd : Bool} {K : List Ent} {U : USn} {nw : Int} {s : ST} (hR : RS B G brd s) (hK : RK K s) (hU : RU B U nw s) {f m : Int} (f1 : -2147483648 ≤ f) (f2 : f ≤ 2147483647) (m1 : -2147483648 ≤ m) (m2 : m ≤ 2147483647) : ((0 ≤ f ∧ f < bF B) ∧ (1 ≤ m ∧ m ≤ 99) → ∃ s', f_X10_tend (Int32.ofInt f) (Int32.ofInt m) s = some (Int32.ofInt (tendV G f m), s') ∧ Act B (setb G f (tendV G f m)) brd K ((G, K) :: U.take 19) s s' ∧ s'.2.1 65 86 = s.2.1 65 86) ∧ (¬ ((0 ≤ f ∧ f < bF B) ∧ (1 ≤ m ∧ m ≤ 99)) → f_X10_tend (Int32.ofInt f) (Int32.ofInt m) s = some (Int32.ofInt (-1), rfS s 2)) := by
  have hd9 := hR.2.2.2.2.2.2
  have hA := hR.1.1
  have hF6 : bF B ≤ 6 := hA.1.1.1.2.2.2.2.2.2.2.2.2
  have hj := m_isField hA f1 f2
  have hi := m_isIn (s := s) (v := m) (a := 1) (b := 99) (by omega) (by omega) (by omega) (by omega) (by omega) (by omega)
  have hrf : f_X10_refuses (Int32.ofInt 2) s = some (Int32.ofInt (-1), rfS s 2) := m_refuses (s := s) (j := 2) (by omega) (by omega)
  constructor
  · intro ⟨c1, c2⟩
    rw [decide_eq_true c1] at hj
    rw [decide_eq_true c2] at hi
    obtain ⟨s2, nw2, r1, r2, r3⟩ := m_keeps hA.1 hA.2.1 hd9 hA.2.2.2 hK hU
    have hA2 := MA_kp hA r3
    have hc := hA2.2.2.2.2.2 f c1.1 c1.2
    have hgb := hA.2.1.2.2.2 f c1.1 c1.2
    have hv : 0 ≤ tendV G f m ∧ tendV G f m ≤ 999 := by unfold tendV; split <;> omega
    have hA3 := MA_setb hA2 c1.1 c1.2 hv.1 hv.2
    have haf : AF s (uI s2 112 (18 + f).toNat (Int32.ofInt (tendV G f m))) := r3.af.tr ⟨fun o k a b c d => by rw [u_no b], fun _ => rfl, rfl⟩
    refine ⟨uI s2 112 (18 + f).toNat (Int32.ofInt (tendV G f m)), ?_, ⟨RS_af hR haf hA3 hd9, RK_fr (RK_kp hK r3) (fun k hk => u_nk (by omega)), ⟨nw2, RU_fr r2 (u_no (by omega)) (u_no (by omega)) (fun k => u_no (by omega))⟩, haf⟩, by rw [u_2, r3.2]⟩
    by_cases e : gb G f + m ≤ 999
    · have hv2 : tendV G f m = gb G f + m := by unfold tendV; rw [if_pos e]
      rw [hv2]
      simp (disch := omega) only [f_X10_tend, f_X10_tend_j64, hj, hi, r1, hc, bI_t, n_i8, n_i16, n_0, n_31, n_add, n_sub, n_mul, n_neg, n_div, n_rem, n_le_t, n_le_f, n_lt_t, n_lt_f, n_eq_t, n_eq_f, n_cl, n_gd, n_gdt, n_nz, Int.reduceToNat, Int.reduceAdd, Int.reduceSub, Int.reduceMul, Int.reduceNeg, Int.reduceLT, Int.reduceLE, Int.reduceEq, Int.reduceDiv, Int.reduceMod, Nat.reduceAdd, Nat.reduceMul, ↓reduceIte, l_0, l_1, l_00, l_i, l_j, l_add, l_sub, l_mul, l_gt, l_ceq, l_clt, l_nz, u_eq, u_no, u_nk, u_ek, u_2, u_3, j_1, j_3, j_eq, j_no, j_nk, ltd, bnd]
    · have hv2 : tendV G f m = 999 := by unfold tendV; rw [if_neg e]
      rw [hv2]
      simp (disch := omega) only [f_X10_tend, f_X10_tend_j64, hj, hi, r1, hc, bI_t, n_i8, n_i16, n_0, n_31, n_add, n_sub, n_mul, n_neg, n_div, n_rem, n_le_t, n_le_f, n_lt_t, n_lt_f, n_eq_t, n_eq_f, n_cl, n_gd, n_gdt, n_nz, Int.reduceToNat, Int.reduceAdd, Int.reduceSub, Int.reduceMul, Int.reduceNeg, Int.reduceLT, Int.reduceLE, Int.reduceEq, Int.reduceDiv, Int.reduceMod, Nat.reduceAdd, Nat.reduceMul, ↓reduceIte, l_0, l_1, l_00, l_i, l_j, l_add, l_sub, l_mul, l_gt, l_ceq, l_clt, l_nz, u_eq, u_no, u_nk, u_ek, u_2, u_3, j_1, j_3, j_eq, j_no, j_nk, ltd, bnd]
  · intro c
    by_cases c1 : 0 ≤ f ∧ f < bF B
    · rw [decide_eq_true c1] at hj
      rw [decide_eq_false (fun d => c ⟨c1, d⟩)] at hi
      simp (disch := omega) only [f_X10_tend, f_X10_tend_j20, hj, hi, hrf, bI_t, bI_f, n_i8, n_i16, n_0, n_31, n_add, n_sub, n_mul, n_neg, n_div, n_rem, n_le_t, n_le_f, n_lt_t, n_lt_f, n_eq_t, n_eq_f, n_cl, n_gd, n_gdt, n_nz, Int.reduceToNat, Int.reduceAdd, Int.reduceSub, Int.reduceMul, Int.reduceNeg, Int.reduceLT, Int.reduceLE, Int.reduceEq, Int.reduceDiv, Int.reduceMod, Nat.reduceAdd, Nat.reduceMul, ↓reduceIte, l_0, l_1, l_00, l_i, l_j, l_add, l_sub, l_mul, l_gt, l_ceq, l_clt, l_nz, u_eq, u_no, u_nk, u_ek, u_2, u_3, j_1, j_3, j_eq, j_no, j_nk, ltd, bnd]
    · rw [decide_eq_false c1] at hj
      simp (disch := omega) only [f_X10_tend, f_X10_tend_j20, hj, hrf, bI_f, n_i8, n_i16, n_0, n_31, n_add, n_sub, n_mul, n_neg, n_div, n_rem, n_le_t, n_le_f, n_lt_t, n_lt_f, n_eq_t, n_eq_f, n_cl, n_gd, n_gdt, n_nz, Int.reduceToNat, Int.reduceAdd, Int.reduceSub, Int.reduceMul, Int.reduceNeg, Int.reduceLT, Int.reduceLE, Int.reduceEq, Int.reduceDiv, Int.reduceMod, Nat.reduceAdd, Nat.reduceMul, ↓reduceIte, l_0, l_1, l_00, l_i, l_j, l_add, l_sub, l_mul, l_gt, l_ceq, l_clt, l_nz, u_eq, u_no, u_nk, u_ek, u_2, u_3, j_1, j_3, j_eq, j_no, j_nk, ltd, bnd]
def ddS (B : Brd) (p : Gam × List Ent × Int) : Gam × List Ent × Int := (dayG B p.1 (todA B (-1) 0 p.1), keepA B p.1 (todA B (-1) 0 p.1) p.2.1, if (todA B (-1) 0 p.1).1 = -1 then p.2.2 else p.2.2 + 1)
def ddN (B : Brd) : Nat → Gam × List Ent × Int → Gam × List Ent × Int
  | 0, p => p
  | n + 1, p => ddN B n (ddS B p)
theorem ddN_d (B : Brd) : ∀ (n : Nat) (p : Gam × List Ent × Int), gd_ (ddN B n p).1 = gd_ p.1 + n
  | 0, p => by simp [ddN]
  | n + 1, p => by
    rw [ddN, ddN_d B n]
    show gd_ (dayG B p.1 (todA B (-1) 0 p.1)) + (n : Int) = _
    rw [dayG_d]
    omega
theorem m_days_L {B : Brd} (hV : Hv B) (hD : Bd B) {N : Int} (hN : N ≤ 30) : ∀ (c F : Nat) (i : Int) (p : Gam × List Ent × Int) (s : ST), MA B p.1 s → MH B s → RK p.2.1 s → s.1 65 75 = Int32.ofInt 0 → s.1 65 78 = Int32.ofInt (-1) → gd_ p.1 + c ≤ 999 → 0 ≤ i → (c : Int) = N - i → c < F → ∃ s', f_X10_days_L25 F (Int32.ofInt N) (Int32.ofInt p.2.2) (Int32.ofInt i) s = some (Int32.ofInt (ddN B c p).2.2, s') ∧ MA B (ddN B c p).1 s' ∧ RK (ddN B c p).2.1 s' ∧ Fk s s' := by
  intro c
  induction c with
  | zero =>
    intro F i p s hA hM hK h75 h78 hd h0 hn hF
    obtain ⟨F, rfl⟩ : ∃ F', F = F' + 1 := ⟨F - 1, by omega⟩
    refine ⟨s, ?_, hA, hK, Fk.rf s⟩
    simp (disch := omega) only [f_X10_days_L25, ddN, n_i8, n_i16, n_0, n_31, n_add, n_sub, n_mul, n_neg, n_div, n_rem, n_le_t, n_le_f, n_lt_t, n_lt_f, n_eq_t, n_eq_f, n_cl, n_gd, n_gdt, n_nz, Int.reduceToNat, Int.reduceAdd, Int.reduceSub, Int.reduceMul, Int.reduceNeg, Int.reduceLT, Int.reduceLE, Int.reduceEq, Int.reduceDiv, Int.reduceMod, Nat.reduceAdd, Nat.reduceMul, ↓reduceIte]
  | succ c ih =>
    intro F i p s hA hM hK h75 h78 hd h0 hn hF
    obtain ⟨F, rfl⟩ : ∃ F', F = F' + 1 := ⟨F - 1, by omega⟩
    obtain ⟨s1, q1, q2, q3⟩ := m_today hA hD (ds := -1) (db := 0) ⟨h78, Or.inl rfl⟩ (by omega) (by omega) (Or.inl rfl)
    have hA1 := MA_Sd hA q2
    have hok : okA B p.1 (todA B (-1) 0 p.1) := okA_cb hA.1
    have c68 := q3.1
    obtain ⟨s2, t1, t2, t3, t4, t5⟩ := m_dayK hA1 (MH_Fdy hM q2.fd) hV (RK_fr hK (fun k hk => q2.1 112 k (by omega) (by omega))) q3 hok (by omega) ((q2.1 65 75 (by omega) (by omega)).trans h75)
    have f2 : Fk s s2 := q2.fd.fk.tr t2
    have hstep : ddN B (c + 1) p = ddN B c (dayG B p.1 (todA B (-1) 0 p.1), keepA B p.1 (todA B (-1) 0 p.1) p.2.1, if (todA B (-1) 0 p.1).1 = -1 then p.2.2 else p.2.2 + 1) := rfl
    rw [hstep]
    obtain ⟨s3, w1, w2, w3, w4⟩ := ih F (i + 1) (dayG B p.1 (todA B (-1) 0 p.1), keepA B p.1 (todA B (-1) 0 p.1) p.2.1, if (todA B (-1) 0 p.1).1 = -1 then p.2.2 else p.2.2 + 1) s2 t3 (MH_Fk hM f2) t4 ((f2.1 65 75 (by omega) (by omega) (by omega)).trans h75) ((f2.1 65 78 (by omega) (by omega) (by omega)).trans h78) (by show gd_ (dayG B p.1 (todA B (-1) 0 p.1)) + c ≤ 999; rw [dayG_d]; omega) (by omega) (by omega) (by omega)
    refine ⟨s3, ?_, w2, w3, f2.tr w4⟩
    rw [← w1]
    by_cases e : (todA B (-1) 0 p.1).1 = -1
    · rw [e] at c68
      simp (disch := omega) only [f_X10_days_L25, f_X10_days_j45, q1, c68, t1, if_pos e, n_i8, n_i16, n_0, n_31, n_add, n_sub, n_mul, n_neg, n_div, n_rem, n_le_t, n_le_f, n_lt_t, n_lt_f, n_eq_t, n_eq_f, n_cl, n_gd, n_gdt, n_nz, Int.reduceToNat, Int.reduceAdd, Int.reduceSub, Int.reduceMul, Int.reduceNeg, Int.reduceLT, Int.reduceLE, Int.reduceEq, Int.reduceDiv, Int.reduceMod, Nat.reduceAdd, Nat.reduceMul, ↓reduceIte, u_eq, u_no, u_nk, u_ek, u_2, u_3, j_1, j_3, j_eq, j_no, j_nk, ltd, bnd]
    · have hne : (Int32.ofInt (todA B (-1) 0 p.1).1 = Int32.ofInt (-1)) = False := by
        rcases hok with hok | hok
        · exact absurd hok e
        · exact n_eq_f e (by omega) (by omega) (by omega) (by omega)
      simp (disch := omega) only [f_X10_days_L25, f_X10_days_j45, q1, c68, hne, t1, if_neg e, n_i8, n_i16, n_0, n_31, n_add, n_sub, n_mul, n_neg, n_div, n_rem, n_le_t, n_le_f, n_lt_t, n_lt_f, n_eq_t, n_eq_f, n_cl, n_gd, n_gdt, n_nz, Int.reduceToNat, Int.reduceAdd, Int.reduceSub, Int.reduceMul, Int.reduceNeg, Int.reduceLT, Int.reduceLE, Int.reduceEq, Int.reduceDiv, Int.reduceMod, Nat.reduceAdd, Nat.reduceMul, ↓reduceIte, u_eq, u_no, u_nk, u_ek, u_2, u_3, j_1, j_3, j_eq, j_no, j_nk, ltd, bnd]
theorem m_days {B : Brd} {G : Gam} {brd : Bool} {K : List Ent} {U : USn} {nw : Int} {s : ST} (hR : RS B G brd s) (hK : RK K s) (hU : RU B U nw s) {n : Int} (n1 : -2147483648 ≤ n) (n2 : n ≤ 2147483647) : (ahd G brd n 1 30 → ∃ s', f_X10_days (Int32.ofInt n) s = some (Int32.ofInt (ddN B n.toNat (G, K, 0)).2.2, s') ∧ Act B (ddN B n.toNat (G, K, 0)).1 brd (ddN B n.toNat (G, K, 0)).2.1 ((G, K) :: U.take 19) s s' ∧ s'.2.1 65 86 = s.2.1 65 86) ∧ (¬ ahd G brd n 1 30 → f_X10_days (Int32.ofInt n) s = some (Int32.ofInt (-1), rfS s 3)) := by
  have hd9 := hR.2.2.2.2.2.2
  have hA := hR.1.1
  have hi := m_isAheadR hR n1 n2 (a := 1) (b := 30) (by omega) (by omega) (by omega) (by omega)
  have hrf : f_X10_refuses (Int32.ofInt 3) s = some (Int32.ofInt (-1), rfS s 3) := m_refuses (s := s) (j := 3) (by omega) (by omega)
  constructor
  · intro c1
    have hi := hi.1 c1
    have e1 := c1.2.1
    have e2 := c1.2.2
    obtain ⟨s2, nw2, r1, r2, r3⟩ := m_keeps hA.1 hA.2.1 hd9 hA.2.2.2 hK hU
    obtain ⟨s3, w1, w2, w3, w4⟩ := m_days_L hR.1.2.2 (hR.2.2.2.2.1 c1.1).1 (N := n) e1.2 n.toNat fuel 0 (G, K, 0) s2 (MA_kp hA r3) (MH_kp hR.1.2.1 r3) (RK_kp hK r3) ((r3.1 65 75 (by omega) (by omega)).trans hR.2.2.1) ((r3.1 65 78 (by omega) (by omega)).trans hR.2.2.2.1) (by show gd_ G + _ ≤ 999; omega) (by omega) (by omega) (by unfold fuel; omega)
    have haf : AF s s3 := r3.af.tr w4.af
    have hdn := ddN_d B n.toNat (G, K, 0)
    have hdn : gd_ (ddN B n.toNat (G, K, 0)).1 = gd_ G + (n.toNat : Int) := hdn
    refine ⟨s3, ?_, ⟨RS_af hR haf w2 (by omega), w3, ⟨nw2, RU_Fk r2 w4⟩, haf⟩, by rw [w4.2.1 65 86 (by omega) (by omega), r3.2]⟩
    have w1 : f_X10_days_L25 fuel (Int32.ofInt n) (Int32.ofInt 0) (Int32.ofInt 0) s2 = some (Int32.ofInt (ddN B n.toNat (G, K, 0)).2.2, s3) := w1
    simp (disch := omega) only [f_X10_days, hi, r1, w1, n_i8, n_i16, n_0, n_31, n_add, n_sub, n_mul, n_neg, n_div, n_rem, n_le_t, n_le_f, n_lt_t, n_lt_f, n_eq_t, n_eq_f, n_cl, n_gd, n_gdt, n_nz, Int.reduceToNat, Int.reduceAdd, Int.reduceSub, Int.reduceMul, Int.reduceNeg, Int.reduceLT, Int.reduceLE, Int.reduceEq, Int.reduceDiv, Int.reduceMod, Nat.reduceAdd, Nat.reduceMul, ↓reduceIte, u_eq, u_no, u_nk, u_ek, u_2, u_3, j_1, j_3, j_eq, j_no, j_nk, ltd, bnd]
  · intro c
    have hi := hi.2 c
    simp (disch := omega) only [f_X10_days, hi, hrf, n_i8, n_i16, n_0, n_31, n_add, n_sub, n_mul, n_neg, n_div, n_rem, n_le_t, n_le_f, n_lt_t, n_lt_f, n_eq_t, n_eq_f, n_cl, n_gd, n_gdt, n_nz, Int.reduceToNat, Int.reduceAdd, Int.reduceSub, Int.reduceMul, Int.reduceNeg, Int.reduceLT, Int.reduceLE, Int.reduceEq, Int.reduceDiv, Int.reduceMod, Nat.reduceAdd, Nat.reduceMul, ↓reduceIte, u_eq, u_no, u_nk, u_ek, u_2, u_3, j_1, j_3, j_eq, j_no, j_nk, ltd, bnd]
/-! draws -/
def rnd (x : Int) : Int := (1103515245 * x + 12345) % 2147483648
def drw (x m : Int) : Int := rnd x / 64 % m
theorem rnd_b (x : Int) : 0 ≤ rnd x ∧ rnd x < 2147483648 := by unfold rnd; omega
def SE (x : Int) (s : ST) : Prop := s.2.1 65 86 = Int64.ofInt x ∧ 0 ≤ x ∧ x < 2147483648
theorem m_drawOf {x m : Int} {s : ST} (h : SE x s) (m1 : 0 < m) (m2 : m ≤ 1000) : f_X10_drawOf (Int32.ofInt m) s = some (Int32.ofInt (drw x m), uJ s 65 86 (Int64.ofInt (rnd x))) := by
  obtain ⟨h1, h2, h3⟩ := h
  have hr := rnd_b x
  have e1 : Int64.ofInt (1103515245 * x + 12345) / Int64.ofInt 2147483648 = Int64.ofInt ((1103515245 * x + 12345) / 2147483648) := by
    rw [l_div (by omega) (by omega) (by omega) (by omega), Int.tdiv_eq_ediv_of_nonneg (by omega)]
  have e2 : 1103515245 * x + 12345 - (1103515245 * x + 12345) / 2147483648 * 2147483648 = rnd x := n_rem _ _
  have e3 : Int64.ofInt (rnd x) / Int64.ofInt 64 = Int64.ofInt (rnd x / 64) := by
    rw [l_div (by omega) (by omega) (by omega) (by omega), Int.tdiv_eq_ediv_of_nonneg (by omega)]
  have e4 : Int64.ofInt (rnd x / 64) / Int64.ofInt m = Int64.ofInt (rnd x / 64 / m) := by
    rw [l_div (by omega) (by omega) (by omega) (by omega), Int.tdiv_eq_ediv_of_nonneg (by omega)]
  have e5 : rnd x / 64 - rnd x / 64 / m * m = drw x m := n_rem _ _
  simp (disch := omega) only [f_X10_drawOf, h1, e1, e2, e3, e4, e5, l_i, l_j, l_add, l_sub, l_mul, l_nz, n_i8, n_i16, n_0, n_31, n_add, n_sub, n_mul, n_neg, n_div, n_rem, n_le_t, n_le_f, n_lt_t, n_lt_f, n_eq_t, n_eq_f, n_cl, n_gd, n_gdt, n_nz, Int.reduceToNat, Int.reduceAdd, Int.reduceSub, Int.reduceMul, Int.reduceNeg, Int.reduceLT, Int.reduceLE, Int.reduceEq, Int.reduceDiv, Int.reduceMod, Nat.reduceAdd, Nat.reduceMul, ↓reduceIte, u_eq, u_no, u_nk, u_ek, u_2, u_3, j_1, j_3, j_eq, j_no, j_nk, ltd, bnd]
theorem mvN_pos {B : Brd} {G : Gam} (h : ovr B G = false) : 0 < mvN B G := by
  unfold ovr at h
  rw [Bool.or_eq_false_iff] at h
  obtain ⟨h1, h2⟩ := h
  have h2 : hasMv B G = true := by
    cases e : hasMv B G with
    | true => rfl
    | false => rw [e] at h2; cases h2
  unfold mvN
  rw [if_neg (by rw [h1]; decide)]
  unfold hasMv at h2
  obtain ⟨m, hm, hh⟩ := List.any_eq_true.mp h2
  rw [Bool.and_eq_true] at hh
  have hp : ∀ j, 0 ≤ mvN1 B G j := by
    intro j
    unfold mvN1 nMov
    split <;> omega
  have hz : 0 < mvN1 B G m := by
    unfold mvN1
    rw [if_pos (of_decide_eq_true hh.1)]
    exact of_decide_eq_true hh.2
  have nn : ∀ l : List Int, 0 ≤ smL (mvN1 B G) l := by
    intro l
    induction l with
    | nil => exact Int.le_refl 0
    | cons a l ih => have := hp a; simp only [smL]; omega
  have key : ∀ l : List Int, m ∈ l → 0 < smL (mvN1 B G) l := by
    intro l
    induction l with
    | nil => intro h; cases h
    | cons a l ih =>
      intro h
      simp only [smL]
      rcases List.mem_cons.mp h with e | e
      · rw [← e]; have := nn l; omega
      · have := ih e; have := hp a; omega
  exact key _ hm
/-- what is played on a day by the seed, the seed behind it, whether it was sleepy -/
def chA (B : Brd) (G : Gam) (x : Int) : CA × Int × Int := if ovr B G = true then (todA B (-1) 0 G, x, 0) else if drw x 100 < bSl B then (chz B G (drw (rnd x) (mvN B G)), rnd (rnd x), 1) else (todA B (-1) 0 G, rnd x, 0)
def chS (B : Brd) (p : Gam × List Ent × Int × Int) : Gam × List Ent × Int × Int := (dayG B p.1 (chA B p.1 p.2.2.1).1, keepA B p.1 (chA B p.1 p.2.2.1).1 p.2.1, (chA B p.1 p.2.2.1).2.1, p.2.2.2 + (chA B p.1 p.2.2.1).2.2)
def chN (B : Brd) : Nat → Gam × List Ent × Int × Int → Gam × List Ent × Int × Int
  | 0, p => p
  | n + 1, p => chN B n (chS B p)
theorem chN_d (B : Brd) : ∀ (n : Nat) (p : Gam × List Ent × Int × Int), gd_ (chN B n p).1 = gd_ p.1 + n
  | 0, p => by simp [chN]
  | n + 1, p => by
    rw [chN, chN_d B n]
    show gd_ (dayG B p.1 (chA B p.1 p.2.2.1).1) + (n : Int) = _
    rw [dayG_d]
    omega
