/-! L3: see, reached, on: both answer alike -/
/-- refused, and the tape has gone -/
theorem inv_no0 {i : Nat} {B : Brd} {G : Gam} {brd : Bool} {K : List Ent} {U : USn} {rn : Int} {rf rv : Int → Int} {x : Int} {T : Int → Int} {n : Int} {L : List Int} {N : Int → Int → List Int} {p : Nat} {s sA : ST} (hR : IR B G brd K U rn rf rv x T n L N s) (hb : IB s) (hp : IP B G K U L) {j : Nat} (hj : j < 6) (hC : IC B G brd K U rn rf rv x T 0 L N p sA) (hf : ∀ o k : Nat, 65 ≤ o → sA.1 o k = s.1 o k) (h2 : sA.2 = s.2) (a1 : sA.1 61 j = s.1 61 j + Int32.ofInt 1) (a2 : ∀ k : Nat, ¬ k = j → sA.1 61 k = s.1 61 k) (a4 : ∀ k : Nat, k = 13 ∨ k = 14 → sA.1 0 k = s.1 0 k) : Inv i (rfS (uI sA 65 1 (Int32.ofInt 0)) j) := by
  have hRA := IR_c hR hf (by rw [h2])
  have w : ∀ o k : Nat, ¬ o = 65 → (uI sA 65 1 (Int32.ofInt 0)).1 o k = sA.1 o k := fun o k ho => u_no ho
  refine ⟨B, G, brd, K, U, rn, rf, rv, x, T, 0, L, N, p, IR_rf (IR_0 hRA) j, IC_r hC (fun o k ho => by rw [rfS_o (by omega), w o k (by omega)]) rfl, ?_, hp⟩
  exact IB_bump hb hj a1 a2 (fun k => hf 67 k (by omega)) a4 (fun k _ => hf 65 k (by omega)) (by rw [rfS_j, w 67 j (by omega)]) (fun k hk => by rw [rfS_n hk, w 67 k (by omega)]) (fun k => by rw [rfS_o (by omega), w 61 k (by omega)]) (fun k _ => by rw [rfS_o (by omega), w 0 k (by omega)]) (fun k hk => by rw [rfS_o (by omega), u_nk (by omega)])
theorem k_see (i : Nat) : ok_see Inv i := by
  intro s hI
  obtain ⟨B, G, brd, K, U, rn, rf, rv, x, T, n, L, N, p, hR, hC, hb, hp⟩ := hI
  by_cases e : seeOK B T n
  · obtain ⟨s1, q1, q2, q3, q4, q5⟩ := (c_see hC.1 hC.2.2.2.2.2.1).1 e
    have hR1 := IR_c hR (s' := s1) (fun o k ho => q4 o k (by omega) (by omega) (by omega) (by omega)) (by rw [q5])
    obtain ⟨s2, r1, r2, r3, r4, r5⟩ := (m_see hR1.1.1.1 hR1.2.2.2.2.2.1).1 e
    refine ⟨_, s1, s2, q1, r1, B, G, brd, K, U, n / 3, seeF T, seeV T, x, T, 0, L, N, p, ?_, IC_r (s := s1) ?_ (fun o k ho => r3 o k (by omega) (by omega)) (by rw [r5]), ?_, hp⟩
    · obtain ⟨a, b, ⟨nw, c⟩, d, e', f, g, l⟩ := hR1
      exact ⟨RS_g a (fun o k ho => r3 o k (by omega) (by omega)), RK_fr b (fun k _ => r3 112 k (by omega) (by omega)), ⟨nw, RU_fr c (r3 65 84 (by omega) (by omega)) (r3 65 85 (by omega) (by omega)) (fun k => r3 122 k (by omega) (by omega))⟩, r2, SE_2 e' (by rw [r5]), ⟨r4, by omega, fun j j1 j2 => by omega⟩, WR_fr2 g (r3 65 121 (by omega) (by omega)) (fun k => r3 149 k (by omega) (by omega)), NR_fr l.1 (fun k => by rw [r5]), WDS_fr l.2 (fun o k ho => r3 o k (by omega) (by omega))⟩
    · obtain ⟨a, b, c, d, e', f, g, l, j⟩ := hC
      have hpp := a.1.1.1.2.1.2
      have hB := a.1.1.1.1.1
      exact ⟨CQ_x a (fun o k ho => q4 o k (by omega) (by omega) (by omega) (by omega)) q5, CK_fr b (q4 56 1 (by omega) (by omega) (by omega) (by omega)) (fun k => q4 57 k (by omega) (by omega) (by omega) (by omega)), ⟨(q4 56 3 (by omega) (by omega) (by omega) (by omega)).trans c.1, c.2.1, CUl_fr hB c.2.2 (fun k _ => q4 58 k (by omega) (by omega) (by omega) (by omega))⟩, q2, (q4 0 12 (by omega) (by omega) (by omega) (by omega)).trans e', ⟨q3, by omega, fun j j1 j2 => by omega⟩, WC_fr g (q4 0 17 (by omega) (by omega) (by omega) (by omega)) (fun k => q4 62 k (by omega) (by omega) (by omega) (by omega)), NC_fr l (fun k => q4 (p + 11) k (by omega) (by omega) (by omega) (by omega)), by rw [q5]; exact j⟩
    · exact IB_two hb (fun k => q4 61 k (by omega) (by omega) (by omega) (by omega)) (fun k => q4 67 k (by omega) (by omega) (by omega) (by omega)) (fun k hk => q4 0 k (by omega) (by omega) (by omega) (by omega)) (fun k hk => q4 65 k (by omega) (by omega) (by omega) (by omega)) (fun k => r3 61 k (by omega) (by omega)) (fun k => r3 67 k (by omega) (by omega)) (fun k hk => r3 0 k (by omega) (by omega)) (fun k hk => r3 65 k (by omega) (by omega))
  · have hR1 : IR B G brd K U rn rf rv x T n L N (crf (uI s 1 1 (Int32.ofInt 0)) 1) := IR_c hR (fun o k ho => by rw [crf_o (by omega), u_no (by omega)]) rfl
    exact ⟨_, crf (uI s 1 1 (Int32.ofInt 0)) 1, _, (c_see hC.1 hC.2.2.2.2.2.1).2 e, (m_see hR1.1.1.1 hR1.2.2.2.2.2.1).2 e, inv_no0 hR hb hp (by omega) (IC_x (IC_0 hC) (fun o k h1 _ => crf_o h1) rfl) (fun o k ho => by rw [crf_o (by omega), u_no (by omega)]) rfl (by rw [crf_j, u_no (by omega)]) (fun k hk => by rw [crf_n hk, u_no (by omega)]) (fun k _ => by rw [crf_o (by omega), u_no (by omega)])⟩
theorem k_reached (i : Nat) : ok_reached Inv i := by
  intro s a1 hI
  obtain ⟨B, G, brd, K, U, rn, rf, rv, x, T, n, L, N, p, hR, hC, hb, hp⟩ := hI
  obtain ⟨z, rfl, z1, z2⟩ := i32 a1
  by_cases e : rchOK B brd T n z
  · obtain ⟨s1, q1, q2, q3, q4, q5⟩ := (c_reached hC.1 hC.2.2.2.2.2.1 z1 z2).1 e
    have hR1 := IR_c hR (s' := s1) (fun o k ho => q4 o k (by omega) (by omega) (by omega)) (by rw [q5])
    obtain ⟨s2, r1, r2⟩ := (m_reached hR1.1 hR1.2.2.2.2.2.1 z1 z2).1 e
    have w : ∀ o k : Nat, QP o k → ¬ o = 65 → s2.1 o k = s1.1 o k := fun o k ho h5 => (r2.1 o k ho).trans (u_no h5)
    refine ⟨_, s1, s2, q1, r1, B, G, brd, K, U, rn, rf, rv, x, T, 0, L, N, p, IR_q (IR_0 hR1) r2, IC_r (s := s1) ?_ (fun o k ho => w o k (Or.inl ho) (by omega)) r2.2.2, ?_, hp⟩
    · obtain ⟨a, b, c, d, e', f, g, l, j⟩ := hC
      have hpp := a.1.1.1.2.1.2
      have hB := a.1.1.1.1.1
      exact ⟨q2, CK_fr b (q4 56 1 (by omega) (by omega) (by omega)) (fun k => q4 57 k (by omega) (by omega) (by omega)), ⟨(q4 56 3 (by omega) (by omega) (by omega)).trans c.1, c.2.1, CUl_fr hB c.2.2 (fun k _ => q4 58 k (by omega) (by omega) (by omega))⟩, CW_fr d (q4 0 11 (by omega) (by omega) (by omega)) (fun k => ⟨q4 59 k (by omega) (by omega) (by omega), q4 60 k (by omega) (by omega) (by omega)⟩), (q4 0 12 (by omega) (by omega) (by omega)).trans e', ⟨q3, by omega, fun j j1 j2 => by omega⟩, WC_fr g (q4 0 17 (by omega) (by omega) (by omega)) (fun k => q4 62 k (by omega) (by omega) (by omega)), NC_fr l (fun k => q4 (p + 11) k (by omega) (by omega) (by omega)), by rw [q5]; exact j⟩
    · exact IB_two hb (fun k => q4 61 k (by omega) (by omega) (by omega)) (fun k => q4 67 k (by omega) (by omega) (by omega)) (fun k hk => q4 0 k (by omega) (by omega) (by omega)) (fun k hk => q4 65 k (by omega) (by omega) (by omega)) (fun k => w 61 k (by unfold QP; omega) (by omega)) (fun k => w 67 k (by unfold QP; omega) (by omega)) (fun k hk => w 0 k (by unfold QP; omega) (by omega)) (fun k hk => (r2.1 65 k (by unfold QP; omega)).trans (u_nk (by omega)))
  · obtain ⟨s1, q1, q2, q3⟩ := (c_reached hC.1 hC.2.2.2.2.2.1 z1 z2).2 e
    have hf : ∀ o k : Nat, 65 ≤ o → (crf (uI s1 1 1 (Int32.ofInt 0)) 1).1 o k = s.1 o k := fun o k ho => by rw [crf_o (by omega), u_no (by omega), q2 o k (by omega)]
    have hR1 : IR B G brd K U rn rf rv x T n L N (crf (uI s1 1 1 (Int32.ofInt 0)) 1) := IR_c hR hf (by show s1.2.1 = _; rw [q3])
    have hC1 : IC B G brd K U rn rf rv x T n L N p s1 := IC_x hC (fun o k _ h3 => q2 o k h3) q3
    exact ⟨_, _, _, q1, (m_reached hR1.1 hR1.2.2.2.2.2.1 z1 z2).2 e, inv_no0 hR hb hp (by omega) (IC_x (IC_0 hC1) (fun o k h1 _ => crf_o h1) rfl) hf q3 (by rw [crf_j, u_no (by omega), q2 61 1 (by omega)]) (fun k hk => by rw [crf_n hk, u_no (by omega), q2 61 k (by omega)]) (fun k _ => by rw [crf_o (by omega), u_no (by omega), q2 0 k (by omega)])⟩
theorem k_on (i : Nat) : ok_on Inv i := by
  intro s hI
  obtain ⟨B, G, brd, K, U, rn, rf, rv, x, T, n, L, N, p, hR, hC, hb, hp⟩ := hI
  by_cases e : imgOK B brd T n
  · have hGv : Gv B (imgG B T) := by
      obtain ⟨s0, -, h1, -⟩ := (m_on hR.1 hR.2.2.2.2.2.1).1 e
      exact h1.2.1
    obtain ⟨s1, q1, q2, q2b, q2c, q3, q4, q5⟩ := (c_on hC.1 hC.2.2.2.2.2.1).1 e hGv
    have hR1 := IR_c hR (s' := s1) (fun o k ho => q4 o k (by omega) (by omega) (by omega) (by omega)) (by rw [q5])
    obtain ⟨s2, r1, r2, r2b, r2c, r4, r3, r5⟩ := (m_on hR1.1 hR1.2.2.2.2.2.1).1 e
    refine ⟨_, s1, s2, q1, r1, B, imgG B T, brd, [], [], rn, rf, rv, x, T, 0, L, N, p, ?_, IC_r (s := s1) ?_ (fun o k ho => r3 o k (by omega) (by omega)) (by rw [r5]), ?_, ⟨?_, trivial, hp.2.2⟩⟩
    · obtain ⟨⟨⟨a1, a2, a3⟩, a4, a5, a6, a7, a8, a9⟩, b, ⟨nw, c⟩, d, e', f, g, l⟩ := hR1
      refine ⟨⟨⟨r2, MH_fr a2 (fun o k o1 o2 => r3 o k (by omega) (by omega)), a3⟩, (r3 65 58 (by omega) (by omega)).trans a4, (r3 65 75 (by omega) (by omega)).trans a5, (r3 65 78 (by omega) (by omega)).trans a6, a7, a8, e.2.2.2.1⟩, r2b, ⟨nw, r2c, (r3 65 85 (by omega) (by omega)).trans c.2.1, c.2.2.1, by simp, trivial⟩, RW_fr2 d (r3 65 80 (by omega) (by omega)) (fun k => r3 120 k (by omega) (by omega)), SE_2 e' (by rw [r5]), ⟨r4, by omega, fun j j1 j2 => by omega⟩, WR_fr2 g (r3 65 121 (by omega) (by omega)) (fun k => r3 149 k (by omega) (by omega)), NR_fr l.1 (fun k => by rw [r5]), WDS_fr l.2 (fun o k ho => r3 o k (by omega) (by omega))⟩
    · obtain ⟨a, b, c, d, e', f, g, l, j⟩ := hC
      have hpp := a.1.1.1.2.1.2
      exact ⟨q2, q2b, q2c, CW_fr d (q4 0 11 (by omega) (by omega) (by omega) (by omega)) (fun k => ⟨q4 59 k (by omega) (by omega) (by omega) (by omega), q4 60 k (by omega) (by omega) (by omega) (by omega)⟩), (q4 0 12 (by omega) (by omega) (by omega) (by omega)).trans e', ⟨q3, by omega, fun j j1 j2 => by omega⟩, WC_fr g (q4 0 17 (by omega) (by omega) (by omega) (by omega)) (fun k => q4 62 k (by omega) (by omega) (by omega) (by omega)), NC_fr l (fun k => q4 (p + 11) k (by omega) (by omega) (by omega) (by omega)), by rw [q5]; exact j⟩
    · exact IB_two hb (fun k => q4 61 k (by omega) (by omega) (by omega) (by omega)) (fun k => q4 67 k (by omega) (by omega) (by omega) (by omega)) (fun k hk => q4 0 k (by omega) (by omega) (by omega) (by omega)) (fun k hk => q4 65 k (by omega) (by omega) (by omega) (by omega)) (fun k => r3 61 k (by omega) (by omega)) (fun k => r3 67 k (by omega) (by omega)) (fun k hk => r3 0 k (by omega) (by omega)) (fun k hk => r3 65 k (by omega) (by omega))
    · have := hGv.1.1
      simpa using this
  · obtain ⟨s1, q1, q2, q3⟩ := (c_on hC.1 hC.2.2.2.2.2.1).2 e
    have hf : ∀ o k : Nat, 65 ≤ o → (uI (crf s1 5) 1 1 (Int32.ofInt 0)).1 o k = s.1 o k := fun o k ho => by rw [u_no (by omega), crf_o (by omega), q2 o k (by omega)]
    have hR1 : IR B G brd K U rn rf rv x T n L N (uI (crf s1 5) 1 1 (Int32.ofInt 0)) := IR_c hR hf (by show s1.2.1 = _; rw [q3])
    have hC1 : IC B G brd K U rn rf rv x T n L N p (crf s1 5) := IC_x hC (fun o k h1 h3 => by rw [crf_o h1, q2 o k h3]) q3
    exact ⟨_, _, _, q1, (m_on hR1.1 hR1.2.2.2.2.2.1).2 e, inv_no0 hR hb hp (by omega) (IC_0 hC1) hf q3 (by rw [u_no (by omega), crf_j, q2 61 5 (by omega)]) (fun k hk => by rw [u_no (by omega), crf_n hk, q2 61 k (by omega)]) (fun k _ => by rw [u_no (by omega), crf_o (by omega), q2 0 k (by omega)])⟩
