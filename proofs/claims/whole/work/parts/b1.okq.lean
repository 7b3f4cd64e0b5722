/-! L3: questions: both answer alike -/
theorem k_has (i : Nat) : ok_has Inv i := by
  intro s a1 hI
  obtain ⟨B, G, brd, K, U, rn, rf, rv, x, T, n, L, N, p, hR, hC, hb, hp⟩ := hI
  obtain ⟨z, rfl, z1, z2⟩ := i32 a1
  obtain ⟨nw, hU⟩ := hR.2.2.1
  exact ⟨_, s, s, c_has hC.1 hC.2.1 hC.2.2.2.1.1 hC.2.2.1.1 z1 z2, m_has hR.1 hR.2.1.1 hR.2.2.2.1.1 hU.1 z1 z2, inv_q hR hC hb hp hC.1 (XF.rf s) (QF.rf s)⟩
theorem k_fault (i : Nat) : ok_fault Inv i := by
  intro s a1 hI
  obtain ⟨B, G, brd, K, U, rn, rf, rv, x, T, n, L, N, p, hR, hC, hb, hp⟩ := hI
  obtain ⟨z, rfl, z1, z2⟩ := i32 a1
  refine ⟨_, s, s, c_fault z1 z2, ?_, inv_q hR hC hb hp hC.1 (XF.rf s) (QF.rf s)⟩
  rw [hb.1, hb.2.1]
  exact m_fault z1 z2
theorem k_kind (i : Nat) : ok_kind Inv i := by
  intro s a1 a2 hI
  obtain ⟨B, G, brd, K, U, rn, rf, rv, x, T, n, L, N, p, hR, hC, hb, hp⟩ := hI
  obtain ⟨z, rfl, z1, z2⟩ := i32 a1
  obtain ⟨w, rfl, w1, w2⟩ := i32 a2
  exact ⟨_, s, s, c_kind hC.1 z1 z2 w1 w2, m_kind hR.1.1.1 z1 z2 w1 w2, inv_q hR hC hb hp hC.1 (XF.rf s) (QF.rf s)⟩
theorem k_man (i : Nat) : ok_man Inv i := by
  intro s a1 a2 hI
  obtain ⟨B, G, brd, K, U, rn, rf, rv, x, T, n, L, N, p, hR, hC, hb, hp⟩ := hI
  obtain ⟨z, rfl, z1, z2⟩ := i32 a1
  obtain ⟨w, rfl, w1, w2⟩ := i32 a2
  exact ⟨_, s, s, c_manQ hC.1 z1 z2 w1 w2, m_man hR.1.1.1 z1 z2 w1 w2, inv_q hR hC hb hp hC.1 (XF.rf s) (QF.rf s)⟩
theorem k_field (i : Nat) : ok_field Inv i := by
  intro s a1 a2 hI
  obtain ⟨B, G, brd, K, U, rn, rf, rv, x, T, n, L, N, p, hR, hC, hb, hp⟩ := hI
  obtain ⟨z, rfl, z1, z2⟩ := i32 a1
  obtain ⟨w, rfl, w1, w2⟩ := i32 a2
  exact ⟨_, s, s, c_fieldQ hC.1 z1 z2 w1 w2, m_field hR.1.1.1 z1 z2 w1 w2, inv_q hR hC hb hp hC.1 (XF.rf s) (QF.rf s)⟩
theorem k_at (i : Nat) : ok_at Inv i := by
  intro s a1 a2 hI
  obtain ⟨B, G, brd, K, U, rn, rf, rv, x, T, n, L, N, p, hR, hC, hb, hp⟩ := hI
  obtain ⟨z, rfl, z1, z2⟩ := i32 a1
  obtain ⟨w, rfl, w1, w2⟩ := i32 a2
  exact ⟨_, s, s, c_at hC.1 z1 z2 w1 w2, m_at hR.1 z1 z2 w1 w2, inv_q hR hC hb hp hC.1 (XF.rf s) (QF.rf s)⟩
theorem k_option (i : Nat) : ok_option Inv i := by
  intro s a1 a2 hI
  obtain ⟨B, G, brd, K, U, rn, rf, rv, x, T, n, L, N, p, hR, hC, hb, hp⟩ := hI
  obtain ⟨z, rfl, z1, z2⟩ := i32 a1
  obtain ⟨w, rfl, w1, w2⟩ := i32 a2
  obtain ⟨s1, q1, q2, q3⟩ := c_option hC.1 z1 z2 w1 w2
  obtain ⟨s2, r1, r2⟩ := m_option (RS_c hR.1 q3).1.1 z1 z2 w1 w2
  exact ⟨_, s1, s2, q1, r1, inv_q hR hC hb hp q2 q3 r2⟩
theorem k_kept (i : Nat) : ok_kept Inv i := by
  intro s a1 a2 hI
  obtain ⟨B, G, brd, K, U, rn, rf, rv, x, T, n, L, N, p, hR, hC, hb, hp⟩ := hI
  obtain ⟨z, rfl, z1, z2⟩ := i32 a1
  obtain ⟨w, rfl, w1, w2⟩ := i32 a2
  exact ⟨_, s, s, c_keptQ hC.2.1 z1 z2 w1 w2, m_kept hR.2.1 z1 z2 w1 w2, inv_q hR hC hb hp hC.1 (XF.rf s) (QF.rf s)⟩
theorem k_balance (i : Nat) : ok_balance Inv i := by
  intro s a1 hI
  obtain ⟨B, G, brd, K, U, rn, rf, rv, x, T, n, L, N, p, hR, hC, hb, hp⟩ := hI
  obtain ⟨z, rfl, z1, z2⟩ := i32 a1
  exact ⟨_, s, s, c_balance hC.1 z1 z2, m_balance hR.1 z1 z2, inv_q hR hC hb hp hC.1 (XF.rf s) (QF.rf s)⟩
theorem k_value (i : Nat) : ok_value Inv i := by
  intro s a1 hI
  obtain ⟨B, G, brd, K, U, rn, rf, rv, x, T, n, L, N, p, hR, hC, hb, hp⟩ := hI
  obtain ⟨z, rfl, z1, z2⟩ := i32 a1
  obtain ⟨s1, q1, q2, q3⟩ := c_value hC.1 z1 z2
  obtain ⟨s2, r1, r2⟩ := m_value (RS_c hR.1 q3) z1 z2
  exact ⟨_, s1, s2, q1, r1, inv_q hR hC hb hp q2 q3 r2⟩
theorem k_best (i : Nat) : ok_best Inv i := by
  intro s a1 hI
  obtain ⟨B, G, brd, K, U, rn, rf, rv, x, T, n, L, N, p, hR, hC, hb, hp⟩ := hI
  obtain ⟨z, rfl, z1, z2⟩ := i32 a1
  obtain ⟨s1, q1, q2, q3⟩ := c_bestQ hC.1 z1 z2
  obtain ⟨s2, r1, r2⟩ := m_best (RS_c hR.1 q3) z1 z2
  exact ⟨_, s1, s2, q1, r1, inv_q hR hC hb hp q2 q3 r2⟩
theorem k_forced (i : Nat) : ok_forced Inv i := by
  intro s hI
  obtain ⟨B, G, brd, K, U, rn, rf, rv, x, T, n, L, N, p, hR, hC, hb, hp⟩ := hI
  obtain ⟨s1, q1, q2, q3⟩ := c_forcedQ hC.1
  obtain ⟨s2, r1, r2⟩ := m_forcedQ (RS_c hR.1 q3)
  exact ⟨_, s1, s2, q1, r1, inv_q hR hC hb hp q2 q3 r2⟩
theorem k_later (i : Nat) : ok_later Inv i := by
  intro s a1 a2 hI
  obtain ⟨B, G, brd, K, U, rn, rf, rv, x, T, n, L, N, p, hR, hC, hb, hp⟩ := hI
  obtain ⟨z, rfl, z1, z2⟩ := i32 a1
  obtain ⟨w, rfl, w1, w2⟩ := i32 a2
  by_cases e : ahd G brd z 0 20 ∧ (0 ≤ w ∧ w ≤ 3)
  · obtain ⟨s1, q1, q2, q3⟩ := (c_later hC.1 z1 z2 w1 w2).1 e
    obtain ⟨s2, r1, r2⟩ := (m_later (RS_c hR.1 q3) z1 z2 w1 w2).1 e
    exact ⟨_, s1, s2, q1, r1, inv_q hR hC hb hp q2 q3 r2⟩
  · exact ⟨_, s, s, (c_later hC.1 z1 z2 w1 w2).2 e, (m_later hR.1 z1 z2 w1 w2).2 e, inv_q hR hC hb hp hC.1 (XF.rf s) (QF.rf s)⟩
theorem k_crop (i : Nat) : ok_crop Inv i := by
  intro s a1 a2 hI
  obtain ⟨B, G, brd, K, U, rn, rf, rv, x, T, n, L, N, p, hR, hC, hb, hp⟩ := hI
  obtain ⟨z, rfl, z1, z2⟩ := i32 a1
  obtain ⟨w, rfl, w1, w2⟩ := i32 a2
  by_cases e : (0 ≤ z ∧ z < bF B) ∧ ahd G brd w 0 20
  · obtain ⟨s1, q1, q2, q3⟩ := (c_crop hC.1 z1 z2 w1 w2).1 e
    obtain ⟨s2, r1, r2⟩ := (m_crop (RS_c hR.1 q3) z1 z2 w1 w2).1 e
    exact ⟨_, s1, s2, q1, r1, inv_q hR hC hb hp q2 q3 r2⟩
  · exact ⟨_, s, s, (c_crop hC.1 z1 z2 w1 w2).2 e, (m_crop hR.1 z1 z2 w1 w2).2 e, inv_q hR hC hb hp hC.1 (XF.rf s) (QF.rf s)⟩
theorem k_spare (i : Nat) : ok_spare Inv i := by
  intro s a1 a2 a3 hI
  obtain ⟨B, G, brd, K, U, rn, rf, rv, x, T, n, L, N, p, hR, hC, hb, hp⟩ := hI
  obtain ⟨z, rfl, z1, z2⟩ := i32 a1
  obtain ⟨w, rfl, w1, w2⟩ := i32 a2
  obtain ⟨v, rfl, v1, v2⟩ := i32 a3
  by_cases e : (0 ≤ z ∧ z < bF B) ∧ ahd G brd w 1 6 ∧ (0 ≤ v ∧ v ≤ 1)
  · obtain ⟨s1, q1, q2, q3⟩ := (c_spare hC.1 z1 z2 w1 w2 v1 v2).1 e
    obtain ⟨s2, r1, r2⟩ := (m_spare (RS_c hR.1 q3) z1 z2 w1 w2 v1 v2).1 e
    exact ⟨_, s1, s2, q1, r1, inv_q hR hC hb hp q2 q3 r2⟩
  · exact ⟨_, s, s, (c_spare hC.1 z1 z2 w1 w2 v1 v2).2 e, (m_spare hR.1 z1 z2 w1 w2 v1 v2).2 e, inv_q hR hC hb hp hC.1 (XF.rf s) (QF.rf s)⟩
theorem k_sow (i : Nat) : ok_sow Inv i := by
  intro s a1 a2 hI
  obtain ⟨B, G, brd, K, U, rn, rf, rv, x, T, n, L, N, p, hR, hC, hb, hp⟩ := hI
  obtain ⟨z, rfl, z1, z2⟩ := i32 a1
  obtain ⟨w, rfl, w1, w2⟩ := i32 a2
  by_cases e : ahd G brd z 0 20 ∧ (0 ≤ w ∧ w ≤ 2)
  · obtain ⟨s1, q1, q2, q3⟩ := (c_sow hC.1 z1 z2 w1 w2).1 e
    obtain ⟨s2, r1, r2⟩ := (m_sow (RS_c hR.1 q3) z1 z2 w1 w2).1 e
    exact ⟨_, s1, s2, q1, r1, inv_q hR hC hb hp q2 q3 r2⟩
  · exact ⟨_, s, s, (c_sow hC.1 z1 z2 w1 w2).2 e, (m_sow hR.1 z1 z2 w1 w2).2 e, inv_q hR hC hb hp hC.1 (XF.rf s) (QF.rf s)⟩
theorem k_deeper (i : Nat) : ok_deeper Inv i := by
  intro s a1 a2 a3 hI
  obtain ⟨B, G, brd, K, U, rn, rf, rv, x, T, n, L, N, p, hR, hC, hb, hp⟩ := hI
  obtain ⟨z, rfl, z1, z2⟩ := i32 a1
  obtain ⟨w, rfl, w1, w2⟩ := i32 a2
  obtain ⟨v, rfl, v1, v2⟩ := i32 a3
  by_cases e : (0 ≤ z ∧ z ≤ 1) ∧ (1 ≤ w ∧ w ≤ 2) ∧ ahd G brd v 0 20
  · obtain ⟨s1, q1, q2, q3⟩ := (c_deeper hC.1 z1 z2 w1 w2 v1 v2).1 e
    obtain ⟨s2, r1, r2⟩ := (m_deeper (RS_c hR.1 q3) z1 z2 w1 w2 v1 v2).1 e
    exact ⟨_, s1, s2, q1, r1, inv_q hR hC hb hp q2 q3 r2⟩
  · exact ⟨_, s, s, (c_deeper hC.1 z1 z2 w1 w2 v1 v2).2 e, (m_deeper hR.1 z1 z2 w1 w2 v1 v2).2 e, inv_q hR hC hb hp hC.1 (XF.rf s) (QF.rf s)⟩
theorem k_played (i : Nat) : ok_played Inv i := by
  intro s a1 hI
  obtain ⟨B, G, brd, K, U, rn, rf, rv, x, T, n, L, N, p, hR, hC, hb, hp⟩ := hI
  obtain ⟨z, rfl, z1, z2⟩ := i32 a1
  by_cases e : 0 ≤ z ∧ z ≤ 2
  · obtain ⟨s1, q1, q2, q3⟩ := (c_played hC.1 hC.2.2.2.1 z1 z2).1 e
    obtain ⟨s2, r1, r2⟩ := (m_played (RS_c hR.1 q3) (RW_fr2 hR.2.2.2.1 (q3.1 65 80 (by omega) (by omega)) (fun k => q3.1 120 k (by omega) (by omega))) z1 z2).1 e
    exact ⟨_, s1, s2, q1, r1, inv_q hR hC hb hp q2 q3 r2⟩
  · exact ⟨_, s, s, (c_played hC.1 hC.2.2.2.1 z1 z2).2 e, (m_played hR.1 hR.2.2.2.1 z1 z2).2 e, inv_q hR hC hb hp hC.1 (XF.rf s) (QF.rf s)⟩
theorem k_octet (i : Nat) : ok_octet Inv i := by
  intro s a1 hI
  obtain ⟨B, G, brd, K, U, rn, rf, rv, x, T, n, L, N, p, hR, hC, hb, hp⟩ := hI
  obtain ⟨z, rfl, z1, z2⟩ := i32 a1
  exact ⟨_, s, s, c_octet hC.2.2.2.2.2.2.1 hp.2.2 z1 z2, m_octet hR.2.2.2.2.2.2.1 hp.2.2 z1 z2, inv_q hR hC hb hp hC.1 (XF.rf s) (QF.rf s)⟩
theorem k_status (i : Nat) : ok_status Inv i := by
  intro s a1 hI
  obtain ⟨B, G, brd, K, U, rn, rf, rv, x, T, n, L, N, p, hR, hC, hb, hp⟩ := hI
  obtain ⟨z, rfl, z1, z2⟩ := i32 a1
  refine ⟨_, s, s, c_status z1 z2, ?_, inv_q hR hC hb hp hC.1 (XF.rf s) (QF.rf s)⟩
  rw [m_status z1 z2]
  by_cases e : 0 ≤ z ∧ z ≤ 5
  · rw [if_pos e, if_pos e, hb.2.2 z.toNat (by omega)]
  · rw [if_neg e, if_neg e]
