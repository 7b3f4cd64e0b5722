/-! L3: days by the seed, of the reference -/
def Fc (s s' : ST) : Prop := (∀ o k : Nat, ¬ (o = 112) → ¬ (114 ≤ o ∧ o ≤ 117) → ¬ (o = 65 ∧ (k = 59 ∨ k = 117 ∨ (68 ≤ k ∧ k ≤ 70) ∨ k = 77)) → s'.1 o k = s.1 o k) ∧ (∀ o k : Nat, ¬ o = 148 → ¬ (o = 65 ∧ 71 ≤ k ∧ k ≤ 73) → ¬ (o = 65 ∧ k = 86) → s'.2.1 o k = s.2.1 o k) ∧ s'.2.2 = s.2.2
theorem Fc.rf (s : ST) : Fc s s := ⟨fun _ _ _ _ _ => rfl, fun _ _ _ _ _ => rfl, rfl⟩
theorem Fc.tr {s t u : ST} (h1 : Fc s t) (h2 : Fc t u) : Fc s u := ⟨fun o k a b c => (h2.1 o k a b c).trans (h1.1 o k a b c), fun o k a b c => (h2.2.1 o k a b c).trans (h1.2.1 o k a b c), h2.2.2.trans h1.2.2⟩
theorem Fk.fc {s t : ST} (h : Fk s t) : Fc s t := ⟨h.1, fun o k a b _ => h.2.1 o k a b, h.2.2⟩
theorem Fc_J (s : ST) (x : Int64) : Fc s (uJ s 65 86 x) := ⟨fun _ _ _ _ _ => rfl, fun o k a b c => by (simp only [ua, ja, u_2, u_3, j_1, j_3]; (repeat' split) <;> first | rfl | (exfalso; omega)), rfl⟩
theorem Fc.af {s t : ST} (h : Fc s t) : AF s t := ⟨fun o k a b c d => h.1 o k b (by unfold QP at a; omega) (by unfold QP at a; omega), fun k => h.2.1 102 k (by omega) (by omega) (by omega), h.2.2⟩
theorem MH_Fc {B : Brd} {s s' : ST} (h : MH B s) (hf : Fc s s') : MH B s' := MH_fr h (fun o k o1 o2 => hf.1 o k (by omega) (by omega) (by omega))
theorem RU_Fc {B : Brd} {U : USn} {nw : Int} {s s' : ST} (h : RU B U nw s) (hf : Fc s s') : RU B U nw s' := RU_fr h (hf.1 65 84 (by omega) (by omega) (by omega)) (hf.1 65 85 (by omega) (by omega) (by omega)) (fun k => hf.1 122 k (by omega) (by omega) (by omega))
theorem SE_J (s : ST) (x : Int) : SE (rnd x) (uJ s 65 86 (Int64.ofInt (rnd x))) := ⟨j_eq _ _ _ _, (rnd_b x).1, (rnd_b x).2⟩
theorem SE_2 {x : Int} {s s' : ST} (h : SE x s) (hf : s'.2.1 65 86 = s.2.1 65 86) : SE x s' := ⟨hf.trans h.1, h.2⟩
theorem m_chance_L {B : Brd} (hV : Hv B) (hD : Bd B) {N : Int} (hN : N ≤ 30) : ∀ (c F : Nat) (i : Int) (p : Gam × List Ent × Int × Int) (s : ST), MA B p.1 s → MH B s → RK p.2.1 s → SE p.2.2.1 s → s.1 65 75 = Int32.ofInt 0 → s.1 65 78 = Int32.ofInt (-1) → gd_ p.1 + c ≤ 999 → 0 ≤ i → (c : Int) = N - i → c < F → ∃ s', f_X10_chance_L25 F (Int32.ofInt N) (Int32.ofInt p.2.2.2) (Int32.ofInt i) s = some (Int32.ofInt (chN B c p).2.2.2, s') ∧ MA B (chN B c p).1 s' ∧ RK (chN B c p).2.1 s' ∧ SE (chN B c p).2.2.1 s' ∧ Fc s s' := by
  intro c
  induction c with
  | zero =>
    intro F i p s hA hM hK hS h75 h78 hd h0 hn hF
    obtain ⟨F, rfl⟩ : ∃ F', F = F' + 1 := ⟨F - 1, by omega⟩
    refine ⟨s, ?_, hA, hK, hS, Fc.rf s⟩
    simp (disch := omega) only [f_X10_chance_L25, chN, n_i8, n_i16, n_0, n_31, n_add, n_sub, n_mul, n_neg, n_div, n_rem, n_le_t, n_le_f, n_lt_t, n_lt_f, n_eq_t, n_eq_f, n_cl, n_gd, n_gdt, n_nz, Int.reduceToNat, Int.reduceAdd, Int.reduceSub, Int.reduceMul, Int.reduceNeg, Int.reduceLT, Int.reduceLE, Int.reduceEq, Int.reduceDiv, Int.reduceMod, Nat.reduceAdd, Nat.reduceMul, ↓reduceIte]
  | succ c ih =>
    intro F i p s hA hM hK hS h75 h78 hd h0 hn hF
    obtain ⟨F, rfl⟩ : ∃ F', F = F' + 1 := ⟨F - 1, by omega⟩
    have hov := m_isOver hA
    have hsl := hA.1.2.2.2.2.2
    -- from the chosen move on
    have go : ∀ (s1 : ST) (A : CA) (x y : Int), chA B p.1 p.2.2.1 = (A, x, y) → Fc s s1 → MA B p.1 s1 → CH A s1 → okA B p.1 A → (∀ k : Nat, s1.1 112 k = s.1 112 k) → SE x s1 → ∃ s', f_X10_chance_j86 (f_X10_chance_L25 F) (Int32.ofInt N) (Int32.ofInt (p.2.2.2 + y)) (Int32.ofInt i) s1 = some (Int32.ofInt (chN B (c + 1) p).2.2.2, s') ∧ MA B (chN B (c + 1) p).1 s' ∧ RK (chN B (c + 1) p).2.1 s' ∧ SE (chN B (c + 1) p).2.2.1 s' ∧ Fc s s' := by
      intro s1 A x y hch f1 hA1 hC hok h112 hS1
      obtain ⟨s2, t1, t2, t3, t4, t5⟩ := m_dayK hA1 (MH_Fc hM f1) hV (RK_fr hK (fun k hk => h112 k)) hC hok (by omega) ((f1.1 65 75 (by omega) (by omega) (by omega)).trans h75)
      have f2 : Fc s s2 := f1.tr t2.fc
      have hstep : chN B (c + 1) p = chN B c (dayG B p.1 (chA B p.1 p.2.2.1).1, keepA B p.1 (chA B p.1 p.2.2.1).1 p.2.1, (chA B p.1 p.2.2.1).2.1, p.2.2.2 + (chA B p.1 p.2.2.1).2.2) := rfl
      rw [hch] at hstep
      have hstep : chN B (c + 1) p = chN B c (dayG B p.1 A, keepA B p.1 A p.2.1, x, p.2.2.2 + y) := hstep
      rw [hstep]
      obtain ⟨s3, w1, w2, w3, w4, w5⟩ := ih F (i + 1) (dayG B p.1 A, keepA B p.1 A p.2.1, x, p.2.2.2 + y) s2 t3 (MH_Fc hM f2) t4 (SE_2 hS1 (t2.2.1 65 86 (by omega) (by omega))) ((f2.1 65 75 (by omega) (by omega) (by omega)).trans h75) ((f2.1 65 78 (by omega) (by omega) (by omega)).trans h78) (by show gd_ (dayG B p.1 A) + c ≤ 999; rw [dayG_d]; omega) (by omega) (by omega) (by omega)
      refine ⟨s3, ?_, w2, w3, w4, f2.tr w5⟩
      rw [← w1]
      simp (disch := omega) only [f_X10_chance_j86, t1, n_i8, n_i16, n_0, n_31, n_add, n_sub, n_mul, n_neg, n_div, n_rem, n_le_t, n_le_f, n_lt_t, n_lt_f, n_eq_t, n_eq_f, n_cl, n_gd, n_gdt, n_nz, Int.reduceToNat, Int.reduceAdd, Int.reduceSub, Int.reduceMul, Int.reduceNeg, Int.reduceLT, Int.reduceLE, Int.reduceEq, Int.reduceDiv, Int.reduceMod, Nat.reduceAdd, Nat.reduceMul, ↓reduceIte, bnd]
    cases eo : ovr B p.1 with
    | true =>
      rw [eo] at hov
      obtain ⟨s1, q1, q2, q3⟩ := m_today hA hD (ds := -1) (db := 0) ⟨h78, Or.inl rfl⟩ (by omega) (by omega) (Or.inl rfl)
      obtain ⟨s', w1, w2⟩ := go s1 (todA B (-1) 0 p.1) p.2.2.1 0 (by unfold chA; rw [if_pos eo]) q2.fd.fk.fc (MA_Sd hA q2) q3 (okA_cb hA.1) (fun k => q2.1 112 k (by omega) (by omega)) (SE_2 hS (by rw [q2.2]))
      refine ⟨s', ?_, w2⟩
      rw [Int.add_zero] at w1
      rw [← w1]
      simp (disch := omega) only [f_X10_chance_L25, f_X10_chance_j56, f_X10_chance_j57, hov, q1, bI_t, n_i8, n_i16, n_0, n_31, n_add, n_sub, n_mul, n_neg, n_div, n_rem, n_le_t, n_le_f, n_lt_t, n_lt_f, n_eq_t, n_eq_f, n_cl, n_gd, n_gdt, n_nz, Int.reduceToNat, Int.reduceAdd, Int.reduceSub, Int.reduceMul, Int.reduceNeg, Int.reduceLT, Int.reduceLE, Int.reduceEq, Int.reduceDiv, Int.reduceMod, Nat.reduceAdd, Nat.reduceMul, ↓reduceIte, u_eq, u_no, u_nk, u_ek, u_2, u_3, j_1, j_3, j_eq, j_no, j_nk, ltd, bnd]
    | false =>
      rw [eo] at hov
      have hdr := m_drawOf hS (m := 100) (by omega) (by omega)
      have hA1 : MA B p.1 (uJ s 65 86 (Int64.ofInt (rnd p.2.2.1))) := MA_o hA (fun _ _ _ => rfl)
      have c3 : s.1 108 3 = Int32.ofInt (bSl B) := hA.2.2.1.1.2.2.2.2.2.2.2.2
      have hdb : 0 ≤ drw p.2.2.1 100 ∧ drw p.2.2.1 100 < 100 := by unfold drw; omega
      by_cases es : drw p.2.2.1 100 < bSl B
      · have hmv := m_movesNow hA1
        have hmb := mvN_b (G := p.1) hA.1
        have hmp := mvN_pos eo
        have hdr2 := m_drawOf (SE_J s p.2.2.1) (m := mvN B p.1) hmp (by omega)
        have hdb2 : 0 ≤ drw (rnd p.2.2.1) (mvN B p.1) ∧ drw (rnd p.2.2.1) (mvN B p.1) < mvN B p.1 := by
          unfold drw
          exact ⟨Int.emod_nonneg _ (by omega), Int.emod_lt_of_pos _ hmp⟩
        have hch : chA B p.1 p.2.2.1 = (chz B p.1 (drw (rnd p.2.2.1) (mvN B p.1)), rnd (rnd p.2.2.1), 1) := by unfold chA; rw [if_neg (by rw [eo]; decide), if_pos es]
        generalize mvN B p.1 = M at *
        have hA2 : MA B p.1 (uJ (uJ s 65 86 (Int64.ofInt (rnd p.2.2.1))) 65 86 (Int64.ofInt (rnd (rnd p.2.2.1)))) := MA_o hA (fun _ _ _ => rfl)
        obtain ⟨s1, q1, q2, q3⟩ := m_chooses hA2 (w := drw (rnd p.2.2.1) M) (by omega) (by omega)
        obtain ⟨s', w1, w2⟩ := go s1 _ _ _ hch (((Fc_J _ _).tr (Fc_J _ _)).tr q2.fd.fk.fc) (MA_Sd hA2 q2) q3 (okA_chz hA.1.1.1.2.2.2.2.2.2.1 (by omega)) (fun k => q2.1 112 k (by omega) (by omega)) (SE_2 (SE_J _ _) (by rw [q2.2]))
        refine ⟨s', ?_, w2⟩
        rw [← w1]
        have d3 : (uJ s 65 86 (Int64.ofInt (rnd p.2.2.1))).1 108 3 = Int32.ofInt (bSl B) := c3
        simp (disch := omega) only [f_X10_chance_L25, f_X10_chance_j57, hov, hdr, d3, hmv, hdr2, q1, bI_f, n_i8, n_i16, n_0, n_31, n_add, n_sub, n_mul, n_neg, n_div, n_rem, n_le_t, n_le_f, n_lt_t, n_lt_f, n_eq_t, n_eq_f, n_cl, n_gd, n_gdt, n_nz, Int.reduceToNat, Int.reduceAdd, Int.reduceSub, Int.reduceMul, Int.reduceNeg, Int.reduceLT, Int.reduceLE, Int.reduceEq, Int.reduceDiv, Int.reduceMod, Nat.reduceAdd, Nat.reduceMul, ↓reduceIte, ltd, bnd]
      · have hch : chA B p.1 p.2.2.1 = (todA B (-1) 0 p.1, rnd p.2.2.1, 0) := by unfold chA; rw [if_neg (by rw [eo]; decide), if_neg es]
        obtain ⟨s1, q1, q2, q3⟩ := m_today hA1 hD (ds := -1) (db := 0) ⟨h78, Or.inl rfl⟩ (by omega) (by omega) (Or.inl rfl)
        obtain ⟨s', w1, w2⟩ := go s1 _ _ _ hch ((Fc_J _ _).tr q2.fd.fk.fc) (MA_Sd hA1 q2) q3 (okA_cb hA.1) (fun k => q2.1 112 k (by omega) (by omega)) (SE_2 (SE_J _ _) (by rw [q2.2]))
        refine ⟨s', ?_, w2⟩
        rw [Int.add_zero] at w1
        rw [← w1]
        have d3 : (uJ s 65 86 (Int64.ofInt (rnd p.2.2.1))).1 108 3 = Int32.ofInt (bSl B) := c3
        simp (disch := omega) only [f_X10_chance_L25, f_X10_chance_j56, f_X10_chance_j57, hov, hdr, d3, q1, bI_f, n_i8, n_i16, n_0, n_31, n_add, n_sub, n_mul, n_neg, n_div, n_rem, n_le_t, n_le_f, n_lt_t, n_lt_f, n_eq_t, n_eq_f, n_cl, n_gd, n_gdt, n_nz, Int.reduceToNat, Int.reduceAdd, Int.reduceSub, Int.reduceMul, Int.reduceNeg, Int.reduceLT, Int.reduceLE, Int.reduceEq, Int.reduceDiv, Int.reduceMod, Nat.reduceAdd, Nat.reduceMul, ↓reduceIte, ltd, bnd]
theorem m_chance {B : Brd} {G : Gam} {brd : Bool} {K : List Ent} {U : USn} {nw x : Int} {s : ST} (hR : RS B G brd s) (hK : RK K s) (hU : RU B U nw s) (hS : SE x s) {n : Int} (n1 : -2147483648 ≤ n) (n2 : n ≤ 2147483647) : (ahd G brd n 1 30 → ∃ s', f_X10_chance (Int32.ofInt n) s = some (Int32.ofInt (chN B n.toNat (G, K, x, 0)).2.2.2, s') ∧ Act B (chN B n.toNat (G, K, x, 0)).1 brd (chN B n.toNat (G, K, x, 0)).2.1 ((G, K) :: U.take 19) s s' ∧ SE (chN B n.toNat (G, K, x, 0)).2.2.1 s') ∧ (¬ ahd G brd n 1 30 → f_X10_chance (Int32.ofInt n) s = some (Int32.ofInt (-1), rfS s 3)) := by
  have hd9 := hR.2.2.2.2.2.2
  have hA := hR.1.1
  have hi := m_isAheadR hR n1 n2 (a := 1) (b := 30) (by omega) (by omega) (by omega) (by omega)
  have hrf : f_X10_refuses (Int32.ofInt 3) s = some (Int32.ofInt (-1), rfS s 3) := m_refuses (s := s) (j := 3) (by omega) (by omega)
  constructor
  · intro c1
    have hi := hi.1 c1
    have e1 := c1.2.1
    have e2 := c1.2.2
    obtain ⟨s2, nw2, r1, r2, r3⟩ := m_keeps hA.1 hA.2.1 hd9 hA.2.2.2 hK hU
    obtain ⟨s3, w1, w2, w3, w4, w5⟩ := m_chance_L hR.1.2.2 (hR.2.2.2.2.1 c1.1).1 (N := n) e1.2 n.toNat fuel 0 (G, K, x, 0) s2 (MA_kp hA r3) (MH_kp hR.1.2.1 r3) (RK_kp hK r3) (SE_2 hS (by rw [r3.2])) ((r3.1 65 75 (by omega) (by omega)).trans hR.2.2.1) ((r3.1 65 78 (by omega) (by omega)).trans hR.2.2.2.1) (by show gd_ G + _ ≤ 999; omega) (by omega) (by omega) (by unfold fuel; omega)
    have haf : AF s s3 := r3.af.tr w5.af
    have hdn : gd_ (chN B n.toNat (G, K, x, 0)).1 = gd_ G + (n.toNat : Int) := chN_d B n.toNat (G, K, x, 0)
    refine ⟨s3, ?_, ⟨RS_af hR haf w2 (by omega), w3, ⟨nw2, RU_Fc r2 w5⟩, haf⟩, w4⟩
    have w1 : f_X10_chance_L25 fuel (Int32.ofInt n) (Int32.ofInt 0) (Int32.ofInt 0) s2 = some (Int32.ofInt (chN B n.toNat (G, K, x, 0)).2.2.2, s3) := w1
    simp (disch := omega) only [f_X10_chance, hi, r1, w1, n_i8, n_i16, n_0, n_31, n_add, n_sub, n_mul, n_neg, n_div, n_rem, n_le_t, n_le_f, n_lt_t, n_lt_f, n_eq_t, n_eq_f, n_cl, n_gd, n_gdt, n_nz, Int.reduceToNat, Int.reduceAdd, Int.reduceSub, Int.reduceMul, Int.reduceNeg, Int.reduceLT, Int.reduceLE, Int.reduceEq, Int.reduceDiv, Int.reduceMod, Nat.reduceAdd, Nat.reduceMul, ↓reduceIte, u_eq, u_no, u_nk, u_ek, u_2, u_3, j_1, j_3, j_eq, j_no, j_nk, ltd, bnd]
  · intro c
    have hi := hi.2 c
    simp (disch := omega) only [f_X10_chance, hi, hrf, n_i8, n_i16, n_0, n_31, n_add, n_sub, n_mul, n_neg, n_div, n_rem, n_le_t, n_le_f, n_lt_t, n_lt_f, n_eq_t, n_eq_f, n_cl, n_gd, n_gdt, n_nz, Int.reduceToNat, Int.reduceAdd, Int.reduceSub, Int.reduceMul, Int.reduceNeg, Int.reduceLT, Int.reduceLE, Int.reduceEq, Int.reduceDiv, Int.reduceMod, Nat.reduceAdd, Nat.reduceMul, ↓reduceIte, u_eq, u_no, u_nk, u_ek, u_2, u_3, j_1, j_3, j_eq, j_no, j_nk, ltd, bnd]
