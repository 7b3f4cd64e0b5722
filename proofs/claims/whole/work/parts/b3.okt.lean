/-! L3: tape, seed, images: both answer alike -/
/-- the class and the reference have changed what they hold, but not faults and refusals -/
theorem IB_two {s sA sB : ST} (h : IB s) (a1 : ∀ k : Nat, sA.1 61 k = s.1 61 k) (a2 : ∀ k : Nat, sA.1 67 k = s.1 67 k) (a3 : ∀ k : Nat, k = 13 ∨ k = 14 → sA.1 0 k = s.1 0 k) (a4 : ∀ k : Nat, k = 7 ∨ k = 8 → sA.1 65 k = s.1 65 k) (b1 : ∀ k : Nat, sB.1 61 k = sA.1 61 k) (b2 : ∀ k : Nat, sB.1 67 k = sA.1 67 k) (b3 : ∀ k : Nat, k = 13 ∨ k = 14 → sB.1 0 k = sA.1 0 k) (b4 : ∀ k : Nat, k = 7 ∨ k = 8 → sB.1 65 k = sA.1 65 k) : IB sB :=
  IB_fr h ((b3 13 (by omega)).trans (a3 13 (by omega))) ((b3 14 (by omega)).trans (a3 14 (by omega))) ((b4 7 (by omega)).trans (a4 7 (by omega))) ((b4 8 (by omega)).trans (a4 8 (by omega))) (fun k => (b1 k).trans (a1 k)) (fun k => (b2 k).trans (a2 k))
theorem k_feed (i : Nat) : ok_feed Inv i := by
  intro s a1 a2 a3 a4 a5 hI
  obtain ⟨B, G, brd, K, U, rn, rf, rv, x, T, n, L, N, p, hR, hC, hb, hp⟩ := hI
  by_cases e : n + 20 ≤ 1600
  · obtain ⟨s1, q1, q2, q3⟩ := (c_feed hC.2.2.2.2.2.1 a1 a2 a3 a4 a5).1 e
    have y : ∀ o k : Nat, ¬ o = 2 → ¬ (o = 1 ∧ k = 1) → s1.1 o k = s.1 o k := q3.1
    have hR1 := IR_c hR (s' := s1) (fun o k ho => y o k (by omega) (by omega)) (by rw [q3.2])
    obtain ⟨s2, r1, r2, r3⟩ := (m_feed hR1.2.2.2.2.2.1 a1 a2 a3 a4 a5).1 e
    have w : ∀ o k : Nat, ¬ o = 66 → ¬ (o = 65 ∧ k = 1) → s2.1 o k = s1.1 o k := r3.1
    refine ⟨_, s1, s2, q1, r1, B, G, brd, K, U, rn, rf, rv, x, fedT T n a1 a2 a3 a4 a5, n + 20, L, N, p, ?_, IC_r (s := s1) ?_ (fun o k ho => w o k (by omega) (by omega)) (by rw [r3.2]), ?_, hp⟩
    · obtain ⟨a, b, ⟨nw, c⟩, d, e', f, g, l⟩ := hR1
      exact ⟨RS_g a (fun o k ho => w o k (by omega) (by omega)), RK_fr b (fun k _ => w 112 k (by omega) (by omega)), ⟨nw, RU_fr c (w 65 84 (by omega) (by omega)) (w 65 85 (by omega) (by omega)) (fun k => w 122 k (by omega) (by omega))⟩, RW_fr2 d (w 65 80 (by omega) (by omega)) (fun k => w 120 k (by omega) (by omega)), SE_2 e' (by rw [r3.2]), r2, WR_fr2 g (w 65 121 (by omega) (by omega)) (fun k => w 149 k (by omega) (by omega)), NR_fr l.1 (fun k => by rw [r3.2]), WDS_fr l.2 (fun o k ho => w o k (by omega) (by omega))⟩
    · obtain ⟨a, b, c, d, e', f, g, l, j⟩ := hC
      have hpp := a.1.1.1.2.1.2
      have hB := a.1.1.1.1.1
      exact ⟨CQ_x a (fun o k ho => y o k (by omega) (by omega)) q3.2, CK_fr b (y 56 1 (by omega) (by omega)) (fun k => y 57 k (by omega) (by omega)), ⟨(y 56 3 (by omega) (by omega)).trans c.1, c.2.1, CUl_fr hB c.2.2 (fun k _ => y 58 k (by omega) (by omega))⟩, CW_fr d (y 0 11 (by omega) (by omega)) (fun k => ⟨y 59 k (by omega) (by omega), y 60 k (by omega) (by omega)⟩), (y 0 12 (by omega) (by omega)).trans e', q2, WC_fr g (y 0 17 (by omega) (by omega)) (fun k => y 62 k (by omega) (by omega)), NC_fr l (fun k => y (p + 11) k (by omega) (by omega)), by rw [q3.2]; exact j⟩
    · exact IB_two hb (fun k => y 61 k (by omega) (by omega)) (fun k => y 67 k (by omega) (by omega)) (fun k _ => y 0 k (by omega) (by omega)) (fun k _ => y 65 k (by omega) (by omega)) (fun k => w 61 k (by omega) (by omega)) (fun k => w 67 k (by omega) (by omega)) (fun k _ => w 0 k (by omega) (by omega)) (fun k _ => w 65 k (by omega) (by omega))
  · have hR1 := IR_crf hR 0
    exact ⟨_, crf s 0, _, (c_feed hC.2.2.2.2.2.1 a1 a2 a3 a4 a5).2 e, (m_feed hR1.2.2.2.2.2.1 a1 a2 a3 a4 a5).2 e, inv_no hR hC hb hp (by omega) (QF.rf _)⟩
theorem k_end (i : Nat) : ok_end Inv i := by
  intro s a1 hI
  obtain ⟨B, G, brd, K, U, rn, rf, rv, x, T, n, L, N, p, hR, hC, hb, hp⟩ := hI
  obtain ⟨z, rfl, z1, z2⟩ := i32 a1
  by_cases e : 0 ≤ z ∧ z ≤ n
  · obtain ⟨q1, q2⟩ := (c_end hC.2.2.2.2.2.1 z1 z2).1 e
    have y : ∀ o k : Nat, ¬ o = 1 → (uI s 1 1 (Int32.ofInt z)).1 o k = s.1 o k := fun o k ho => u_no ho
    have hR1 := IR_c hR (s' := uI s 1 1 (Int32.ofInt z)) (fun o k ho => y o k (by omega)) rfl
    obtain ⟨r1, r2⟩ := (m_end hR1.2.2.2.2.2.1 z1 z2).1 e
    have w : ∀ o k : Nat, ¬ (o = 65 ∧ k = 1) → (uI (uI s 1 1 (Int32.ofInt z)) 65 1 (Int32.ofInt z)).1 o k = (uI s 1 1 (Int32.ofInt z)).1 o k := fun o k ho => by rw [ua, if_neg ho]
    refine ⟨_, _, _, q1, r1, B, G, brd, K, U, rn, rf, rv, x, T, z, L, N, p, ?_, IC_r (s := uI s 1 1 (Int32.ofInt z)) ?_ (fun o k ho => w o k (by omega)) rfl, ?_, hp⟩
    · obtain ⟨a, b, ⟨nw, c⟩, d, e', f, g, l⟩ := hR1
      exact ⟨RS_g a (fun o k ho => w o k (by omega)), RK_fr b (fun k _ => w 112 k (by omega)), ⟨nw, RU_fr c (w 65 84 (by omega)) (w 65 85 (by omega)) (fun k => w 122 k (by omega))⟩, RW_fr2 d (w 65 80 (by omega)) (fun k => w 120 k (by omega)), SE_2 e' rfl, r2, WR_fr2 g (w 65 121 (by omega)) (fun k => w 149 k (by omega)), NR_fr l.1 (fun k => rfl), WDS_fr l.2 (fun o k ho => w o k (by omega))⟩
    · obtain ⟨a, b, c, d, e', f, g, l, j⟩ := hC
      have hpp := a.1.1.1.2.1.2
      have hB := a.1.1.1.1.1
      exact ⟨CQ_x a (fun o k ho => y o k (by omega)) rfl, CK_fr b (y 56 1 (by omega)) (fun k => y 57 k (by omega)), ⟨(y 56 3 (by omega)).trans c.1, c.2.1, CUl_fr hB c.2.2 (fun k _ => y 58 k (by omega))⟩, CW_fr d (y 0 11 (by omega)) (fun k => ⟨y 59 k (by omega), y 60 k (by omega)⟩), (y 0 12 (by omega)).trans e', q2, WC_fr g (y 0 17 (by omega)) (fun k => y 62 k (by omega)), NC_fr l (fun k => y (p + 11) k (by omega)), j⟩
    · exact IB_two hb (fun k => y 61 k (by omega)) (fun k => y 67 k (by omega)) (fun k _ => y 0 k (by omega)) (fun k _ => y 65 k (by omega)) (fun k => w 61 k (by omega)) (fun k => w 67 k (by omega)) (fun k _ => w 0 k (by omega)) (fun k _ => w 65 k (by omega))
  · have hR1 := IR_crf hR 0
    exact ⟨_, crf s 0, _, (c_end hC.2.2.2.2.2.1 z1 z2).2 e, (m_end hR1.2.2.2.2.2.1 z1 z2).2 e, inv_no hR hC hb hp (by omega) (QF.rf _)⟩
theorem k_seed (i : Nat) : ok_seed Inv i := by
  intro s a1 hI
  obtain ⟨B, G, brd, K, U, rn, rf, rv, x, T, n, L, N, p, hR, hC, hb, hp⟩ := hI
  obtain ⟨z, rfl, z1, z2⟩ := i32 a1
  by_cases e : 0 ≤ z
  · have y : ∀ o k : Nat, ¬ (o = 0 ∧ k = 12) → (uI s 0 12 (Int32.ofInt z)).1 o k = s.1 o k := fun o k ho => by rw [ua, if_neg ho]
    have hR1 := IR_c hR (s' := uI s 0 12 (Int32.ofInt z)) (fun o k ho => y o k (by omega)) rfl
    refine ⟨_, _, _, (c_seed z1 z2).1 e, (m_seed z1 z2).1 e, B, G, brd, K, U, rn, rf, rv, z, T, n, L, N, p, ?_, IC_r (s := uI s 0 12 (Int32.ofInt z)) ?_ (fun o k ho => rfl) rfl, ?_, hp⟩
    · obtain ⟨a, b, ⟨nw, c⟩, d, e', f, g, l⟩ := hR1
      exact ⟨RS_g a (fun o k ho => rfl), RK_fr b (fun k _ => rfl), ⟨nw, RU_fr c rfl rfl (fun k => rfl)⟩, RW_fr2 d rfl (fun k => rfl), ⟨j_eq _ _ _ _, e, by omega⟩, TP_fr f rfl (fun k => rfl), WR_fr2 g rfl (fun k => rfl), NR_fr l.1 (fun k => by rw [j_no (by omega)]), WDS_fr l.2 (fun o k ho => rfl)⟩
    · obtain ⟨a, b, c, d, e', f, g, l, j⟩ := hC
      have hpp := a.1.1.1.2.1.2
      have hB := a.1.1.1.1.1
      exact ⟨CQ_x a (fun o k ho => y o k (by omega)) rfl, CK_fr b (y 56 1 (by omega)) (fun k => y 57 k (by omega)), ⟨(y 56 3 (by omega)).trans c.1, c.2.1, CUl_fr hB c.2.2 (fun k _ => y 58 k (by omega))⟩, CW_fr d (y 0 11 (by omega)) (fun k => ⟨y 59 k (by omega), y 60 k (by omega)⟩), u_eq _ _ _ _, CT_fr f (y 1 1 (by omega)) (fun k => y 2 k (by omega)), WC_fr g (y 0 17 (by omega)) (fun k => y 62 k (by omega)), NC_fr l (fun k => y (p + 11) k (by omega)), j⟩
    · exact IB_two hb (fun k => y 61 k (by omega)) (fun k => y 67 k (by omega)) (fun k _ => y 0 k (by omega)) (fun k _ => y 65 k (by omega)) (fun k => rfl) (fun k => rfl) (fun k _ => rfl) (fun k _ => rfl)
  · exact ⟨_, crf s 5, _, (c_seed z1 z2).2 e, (m_seed z1 z2).2 e, inv_no hR hC hb hp (by omega) (QF.rf _)⟩
theorem k_image (i : Nat) : ok_image Inv i := by
  intro s hI
  obtain ⟨B, G, brd, K, U, rn, rf, rv, x, T, n, L, N, p, hR, hC, hb, hp⟩ := hI
  obtain ⟨s1, q1, q2, q3⟩ := c_image hC.1
  have y : ∀ o k : Nat, ¬ o = 62 → ¬ (o = 0 ∧ k = 17) → s1.1 o k = s.1 o k := q3.1
  have hR1 := IR_c hR (s' := s1) (fun o k ho => y o k (by omega) (by omega)) (by rw [q3.2])
  obtain ⟨s2, r1, r2, r3⟩ := m_image hR1.1.1.1
  have w : ∀ o k : Nat, ¬ o = 149 → ¬ (o = 65 ∧ k = 121) → s2.1 o k = s1.1 o k := r3.1
  have hB := hC.1.1.1.1.1.1
  have hM0 : 0 ≤ bM B := hB.1.1.2.2.2.2.2.2.1
  have hM8 : bM B ≤ 8 := hB.1.1.2.2.2.2.2.2.2.1
  have hF0 : 0 ≤ bF B := hB.1.1.2.2.2.2.2.2.2.2.1
  have hF6 : bF B ≤ 6 := hB.1.1.2.2.2.2.2.2.2.2.2
  have hlen : (img B G).length ≤ 32 := by
    have := im0_len (G := G) hM0 hF0
    unfold img
    rw [List.length_append, List.length_singleton]
    omega
  refine ⟨_, s1, s2, q1, r1, B, G, brd, K, U, rn, rf, rv, x, T, n, img B G, N, p, ?_, IC_r (s := s1) ?_ (fun o k ho => w o k (by omega) (by omega)) (by rw [r3.2]), ?_, ⟨hp.1, hp.2.1, hlen⟩⟩
  · obtain ⟨a, b, ⟨nw, c⟩, d, e', f, g, l⟩ := hR1
    exact ⟨RS_g a (fun o k ho => w o k (by omega) (by omega)), RK_fr b (fun k _ => w 112 k (by omega) (by omega)), ⟨nw, RU_fr c (w 65 84 (by omega) (by omega)) (w 65 85 (by omega) (by omega)) (fun k => w 122 k (by omega) (by omega))⟩, RW_fr2 d (w 65 80 (by omega) (by omega)) (fun k => w 120 k (by omega) (by omega)), SE_2 e' (by rw [r3.2]), TP_fr f (w 65 1 (by omega) (by omega)) (fun k => w 66 k (by omega) (by omega)), r2, NR_fr l.1 (fun k => by rw [r3.2]), WDS_fr l.2 (fun o k ho => w o k (by omega) (by omega))⟩
  · obtain ⟨a, b, c, d, e', f, g, l, j⟩ := hC
    have hpp := a.1.1.1.2.1.2
    exact ⟨CQ_w a q3, CK_fr b (y 56 1 (by omega) (by omega)) (fun k => y 57 k (by omega) (by omega)), ⟨(y 56 3 (by omega) (by omega)).trans c.1, c.2.1, CUl_fr hB c.2.2 (fun k _ => y 58 k (by omega) (by omega))⟩, CW_fr d (y 0 11 (by omega) (by omega)) (fun k => ⟨y 59 k (by omega) (by omega), y 60 k (by omega) (by omega)⟩), (y 0 12 (by omega) (by omega)).trans e', CT_fr f (y 1 1 (by omega) (by omega)) (fun k => y 2 k (by omega) (by omega)), q2, NC_fr l (fun k => y (p + 11) k (by omega) (by omega)), by rw [q3.2]; exact j⟩
  · exact IB_two hb (fun k => y 61 k (by omega) (by omega)) (fun k => y 67 k (by omega) (by omega)) (fun k _ => y 0 k (by omega) (by omega)) (fun k _ => y 65 k (by omega) (by omega)) (fun k => w 61 k (by omega) (by omega)) (fun k => w 67 k (by omega) (by omega)) (fun k _ => w 0 k (by omega) (by omega)) (fun k _ => w 65 k (by omega) (by omega))
