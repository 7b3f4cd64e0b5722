/-! L3: acts, tape, images: both answer alike -/
theorem UPv_new {B : Brd} {G : Gam} {K K' : List Ent} {U : USn} (h1 : K <+: K') (h2 : (K.length : Int) ≤ gd_ G) (h3 : Gv B G) (h4 : gd_ G ≤ 999) (h5 : UPv B K U) : UPv B K' ((G, K) :: U.take 19) := ⟨h1, h2, h3, h4, UPv_take 19 K U h5⟩
theorem inv_act {i : Nat} {B : Brd} {G G' : Gam} {brd : Bool} {K K' : List Ent} {U U' : USn} {rn : Int} {rf rv : Int → Int} {x x' : Int} {T : Int → Int} {n : Int} {L : List Int} {N : Int → Int → List Int} {p : Nat} {s s1 s2 : ST} (hR : IR B G brd K U rn rf rv x T n L N s) (hC : IC B G brd K U rn rf rv x T n L N p s) (hb : IB s) (hp : IP B G' K' U' L) (hq : CQ B G' brd p s1) (hk : CK K' s1) (hu : CU B U' s1) (hx : AX s s1) (hx1 : s1.1 0 12 = Int32.ofInt x') (ha : Act B G' brd K' U' s1 s2) (hse : SE x' s2) : Inv i s2 := by
  have hpp := hC.1.1.1.1.2.1.2
  have y : ∀ a k : Nat, ¬ (36 ≤ a ∧ a ≤ 45) → ¬ a = 56 → ¬ a = 57 → ¬ a = 58 → ¬ (a = 0 ∧ k = 12) → s1.1 a k = s.1 a k := hx.1
  have hR1 := IR_c hR (s' := s1) (fun o k ho => y o k (by omega) (by omega) (by omega) (by omega) (by omega)) (by rw [hx.2])
  obtain ⟨a1, a2, a3, a4⟩ := ha
  have q : ∀ o k : Nat, QP o k → ¬ o = 112 → ¬ o = 122 → ¬ (o = 65 ∧ (k = 84 ∨ k = 85)) → s2.1 o k = s1.1 o k := a4.1
  have hR2 : IR B G' brd K' U' rn rf rv x' T n L N s2 := by
    obtain ⟨-, -, -, d, -, f, g, l⟩ := hR1
    exact ⟨a1, a2, a3, RW_fr2 d (q 65 80 (by unfold QP; omega) (by omega) (by omega) (by omega)) (fun k => q 120 k (by unfold QP; omega) (by omega) (by omega) (by omega)), hse, TP_fr f (q 65 1 (by unfold QP; omega) (by omega) (by omega) (by omega)) (fun k => q 66 k (by unfold QP; omega) (by omega) (by omega) (by omega)), WR_fr2 g (q 65 121 (by unfold QP; omega) (by omega) (by omega) (by omega)) (fun k => q 149 k (by unfold QP; omega) (by omega) (by omega) (by omega)), NR_fr l.1 (fun k => a4.2.1 k), WDS_fr l.2 (fun o k ho => q o k (by unfold QP; omega) (by omega) (by omega) (by omega))⟩
  have hC1 : IC B G' brd K' U' rn rf rv x' T n L N p s1 := by
    obtain ⟨-, -, -, d, -, f, g, l, j⟩ := hC
    exact ⟨hq, hk, hu, CW_fr d (y 0 11 (by omega) (by omega) (by omega) (by omega) (by omega)) (fun k => ⟨y 59 k (by omega) (by omega) (by omega) (by omega) (by omega), y 60 k (by omega) (by omega) (by omega) (by omega) (by omega)⟩), hx1, CT_fr f (y 1 1 (by omega) (by omega) (by omega) (by omega) (by omega)) (fun k => y 2 k (by omega) (by omega) (by omega) (by omega) (by omega)), WC_fr g (y 0 17 (by omega) (by omega) (by omega) (by omega) (by omega)) (fun k => y 62 k (by omega) (by omega) (by omega) (by omega) (by omega)), NC_fr l (fun k => y (p + 11) k (by omega) (by omega) (by omega) (by omega) (by omega)), by rw [hx.2]; exact j⟩
  have w : ∀ o k : Nat, o < 65 → s2.1 o k = s1.1 o k := fun o k ho => q o k (Or.inl ho) (by omega) (by omega) (by omega)
  refine ⟨B, G', brd, K', U', rn, rf, rv, x', T, n, L, N, p, hR2, IC_r hC1 w a4.2.2, ?_, hp⟩
  exact IB_fr hb ((w 0 13 (by omega)).trans (y 0 13 (by omega) (by omega) (by omega) (by omega) (by omega))) ((w 0 14 (by omega)).trans (y 0 14 (by omega) (by omega) (by omega) (by omega) (by omega))) ((q 65 7 (by unfold QP; omega) (by omega) (by omega) (by omega)).trans (y 65 7 (by omega) (by omega) (by omega) (by omega) (by omega))) ((q 65 8 (by unfold QP; omega) (by omega) (by omega) (by omega)).trans (y 65 8 (by omega) (by omega) (by omega) (by omega) (by omega))) (fun k => (w 61 k (by omega)).trans (y 61 k (by omega) (by omega) (by omega) (by omega) (by omega))) (fun k => (q 67 k (by unfold QP; omega) (by omega) (by omega) (by omega)).trans (y 67 k (by omega) (by omega) (by omega) (by omega) (by omega)))
theorem IR_a {B : Brd} {G : Gam} {brd : Bool} {K : List Ent} {U : USn} {rn : Int} {rf rv : Int → Int} {x : Int} {T : Int → Int} {n : Int} {L : List Int} {N : Int → Int → List Int} {s s1 : ST} (hR : IR B G brd K U rn rf rv x T n L N s) (hx : AX s s1) : IR B G brd K U rn rf rv x T n L N s1 := IR_c hR (fun o k ho => hx.1 o k (by omega) (by omega) (by omega) (by omega) (by omega)) (by rw [hx.2])
theorem IR_crf {B : Brd} {G : Gam} {brd : Bool} {K : List Ent} {U : USn} {rn : Int} {rf rv : Int → Int} {x : Int} {T : Int → Int} {n : Int} {L : List Int} {N : Int → Int → List Int} {s : ST} (hR : IR B G brd K U rn rf rv x T n L N s) (j : Nat) : IR B G brd K U rn rf rv x T n L N (crf s j) := IR_c hR (fun o k ho => u_no (by omega)) rfl
/-- the class's cells but those of refusals and of places read -/
theorem IC_x {B : Brd} {G : Gam} {brd : Bool} {K : List Ent} {U : USn} {rn : Int} {rf rv : Int → Int} {x : Int} {T : Int → Int} {n : Int} {L : List Int} {N : Int → Int → List Int} {p : Nat} {s s' : ST} (h : IC B G brd K U rn rf rv x T n L N p s) (hf : ∀ o k : Nat, ¬ o = 61 → ¬ o = 63 → s'.1 o k = s.1 o k) (h2 : s'.2 = s.2) : IC B G brd K U rn rf rv x T n L N p s' := by
  obtain ⟨a, b, c, d, e, f, g, l, j⟩ := h
  have hp := a.1.1.1.2.1.2
  have hB := a.1.1.1.1.1
  exact ⟨CQ_x a (fun o k ho => hf o k (by omega) (by omega)) h2, CK_fr b (hf 56 1 (by omega) (by omega)) (fun k => hf 57 k (by omega) (by omega)), ⟨(hf 56 3 (by omega) (by omega)).trans c.1, c.2.1, CUl_fr hB c.2.2 (fun k _ => hf 58 k (by omega) (by omega))⟩, CW_fr d (hf 0 11 (by omega) (by omega)) (fun k => ⟨hf 59 k (by omega) (by omega), hf 60 k (by omega) (by omega)⟩), (hf 0 12 (by omega) (by omega)).trans e, CT_fr f (hf 1 1 (by omega) (by omega)) (fun k => hf 2 k (by omega) (by omega)), WC_fr g (hf 0 17 (by omega) (by omega)) (fun k => hf 62 k (by omega) (by omega)), NC_fr l (fun k => hf (p + 11) k (by omega) (by omega)), by rw [h2]; exact j⟩
theorem IC_0 {B : Brd} {G : Gam} {brd : Bool} {K : List Ent} {U : USn} {rn : Int} {rf rv : Int → Int} {x : Int} {T : Int → Int} {n : Int} {L : List Int} {N : Int → Int → List Int} {p : Nat} {s : ST} (h : IC B G brd K U rn rf rv x T n L N p s) : IC B G brd K U rn rf rv x T 0 L N p (uI s 1 1 (Int32.ofInt 0)) := by
  obtain ⟨a, b, c, d, e, f, g, l, j⟩ := h
  have hp := a.1.1.1.2.1.2
  have hB := a.1.1.1.1.1
  have hf : ∀ o k : Nat, ¬ o = 1 → (uI s 1 1 (Int32.ofInt 0)).1 o k = s.1 o k := fun o k ho => u_no ho
  exact ⟨CQ_x a (fun o k ho => hf o k (by omega)) rfl, CK_fr b (hf 56 1 (by omega)) (fun k => hf 57 k (by omega)), ⟨(hf 56 3 (by omega)).trans c.1, c.2.1, CUl_fr hB c.2.2 (fun k _ => hf 58 k (by omega))⟩, CW_fr d (hf 0 11 (by omega)) (fun k => ⟨hf 59 k (by omega), hf 60 k (by omega)⟩), (hf 0 12 (by omega)).trans e, CT_0 (n := n), WC_fr g (hf 0 17 (by omega)) (fun k => hf 62 k (by omega)), NC_fr l (fun k => hf (p + 11) k (by omega)), j⟩
theorem IR_0 {B : Brd} {G : Gam} {brd : Bool} {K : List Ent} {U : USn} {rn : Int} {rf rv : Int → Int} {x : Int} {T : Int → Int} {n : Int} {L : List Int} {N : Int → Int → List Int} {s : ST} (h : IR B G brd K U rn rf rv x T n L N s) : IR B G brd K U rn rf rv x T 0 L N (uI s 65 1 (Int32.ofInt 0)) := by
  obtain ⟨a, b, ⟨nw, c⟩, d, e, f, g, l⟩ := h
  have hf : ∀ o k : Nat, ¬ (o = 65 ∧ k = 1) → (uI s 65 1 (Int32.ofInt 0)).1 o k = s.1 o k := fun o k ho => by rw [ua, if_neg ho]
  exact ⟨RS_g a (fun o k ho => hf o k (by omega)), RK_fr b (fun k _ => hf 112 k (by omega)), ⟨nw, RU_fr c (hf 65 84 (by omega)) (hf 65 85 (by omega)) (fun k => hf 122 k (by omega))⟩, RW_fr2 d (hf 65 80 (by omega)) (fun k => hf 120 k (by omega)), SE_2 e rfl, ⟨u_eq _ _ _ _, by omega, fun j j1 j2 => by omega⟩, WR_fr2 g (hf 65 121 (by omega)) (fun k => hf 149 k (by omega)), NR_fr l.1 (fun k => rfl), WDS_fr l.2 (fun o k ho => hf o k (by omega))⟩
theorem IR_rf {B : Brd} {G : Gam} {brd : Bool} {K : List Ent} {U : USn} {rn : Int} {rf rv : Int → Int} {x : Int} {T : Int → Int} {n : Int} {L : List Int} {N : Int → Int → List Int} {s : ST} (h : IR B G brd K U rn rf rv x T n L N s) (j : Nat) : IR B G brd K U rn rf rv x T n L N (rfS s j) := by
  obtain ⟨a, b, ⟨nw, c⟩, d, e, f, g, l⟩ := h
  have f2 : ∀ o k : Nat, ¬ o = 67 → (rfS s j).1 o k = s.1 o k := fun o k ho => u_no ho
  exact ⟨RS_g a (fun o k ho => f2 o k (by omega)), RK_fr b (fun k _ => f2 112 k (by omega)), ⟨nw, RU_fr c (f2 65 84 (by omega)) (f2 65 85 (by omega)) (fun k => f2 122 k (by omega))⟩, RW_fr2 d (f2 65 80 (by omega)) (fun k => f2 120 k (by omega)), SE_2 e rfl, TP_fr f (f2 65 1 (by omega)) (fun k => f2 66 k (by omega)), WR_fr2 g (f2 65 121 (by omega)) (fun k => f2 149 k (by omega)), NR_fr l.1 (fun k => rfl), WDS_fr l.2 (fun o k ho => f2 o k (by omega))⟩
/-- both count one more refusal -/
theorem IB_bump {s sA sB : ST} {j : Nat} (h : IB s) (hj : j < 6) (a1 : sA.1 61 j = s.1 61 j + Int32.ofInt 1) (a2 : ∀ k : Nat, ¬ k = j → sA.1 61 k = s.1 61 k) (a3 : ∀ k : Nat, sA.1 67 k = s.1 67 k) (a4 : ∀ k : Nat, k = 13 ∨ k = 14 → sA.1 0 k = s.1 0 k) (a5 : ∀ k : Nat, k = 7 ∨ k = 8 → sA.1 65 k = s.1 65 k) (b1 : sB.1 67 j = sA.1 67 j + Int32.ofInt 1) (b2 : ∀ k : Nat, ¬ k = j → sB.1 67 k = sA.1 67 k) (b3 : ∀ k : Nat, sB.1 61 k = sA.1 61 k) (b4 : ∀ k : Nat, k = 13 ∨ k = 14 → sB.1 0 k = sA.1 0 k) (b5 : ∀ k : Nat, k = 7 ∨ k = 8 → sB.1 65 k = sA.1 65 k) : IB sB := by
  refine ⟨?_, ?_, fun k hk => ?_⟩
  · rw [b4 13 (by omega), a4 13 (by omega), b5 7 (by omega), a5 7 (by omega)]; exact h.1
  · rw [b4 14 (by omega), a4 14 (by omega), b5 8 (by omega), a5 8 (by omega)]; exact h.2.1
  · rw [b3]
    by_cases e : k = j
    · rw [e, a1, b1, a3, h.2.2 j hj]
    · rw [a2 k e, b2 k e, a3]; exact h.2.2 k hk
theorem crf_j (s : ST) (j : Nat) : (crf s j).1 61 j = s.1 61 j + Int32.ofInt 1 := u_eq _ _ _ _
theorem crf_n {s : ST} {j k : Nat} (h : ¬ k = j) : (crf s j).1 61 k = s.1 61 k := u_nk h
theorem crf_o {s : ST} {j o k : Nat} (h : ¬ o = 61) : (crf s j).1 o k = s.1 o k := u_no h
theorem rfS_j (s : ST) (j : Nat) : (rfS s j).1 67 j = s.1 67 j + Int32.ofInt 1 := u_eq _ _ _ _
theorem rfS_n {s : ST} {j k : Nat} (h : ¬ k = j) : (rfS s j).1 67 k = s.1 67 k := u_nk h
theorem rfS_o {s : ST} {j o k : Nat} (h : ¬ o = 67) : (rfS s j).1 o k = s.1 o k := u_no h
/-- refused: the class at once, the reference behind a question -/
theorem inv_no {i : Nat} {B : Brd} {G : Gam} {brd : Bool} {K : List Ent} {U : USn} {rn : Int} {rf rv : Int → Int} {x : Int} {T : Int → Int} {n : Int} {L : List Int} {N : Int → Int → List Int} {p : Nat} {s s2 : ST} (hR : IR B G brd K U rn rf rv x T n L N s) (hC : IC B G brd K U rn rf rv x T n L N p s) (hb : IB s) (hp : IP B G K U L) {j : Nat} (hj : j < 6) (hf : QF (crf s j) s2) : Inv i (rfS s2 j) := by
  have q : ∀ o k : Nat, QP o k → s2.1 o k = (crf s j).1 o k := hf.1
  have hC1 := IC_x hC (s' := crf s j) (fun o k h1 _ => crf_o h1) rfl
  refine ⟨B, G, brd, K, U, rn, rf, rv, x, T, n, L, N, p, IR_rf (IR_q (IR_crf hR j) hf) j, IC_r hC1 (fun o k ho => by rw [rfS_o (by omega)]; exact q o k (Or.inl ho)) hf.2.2, ?_, hp⟩
  exact IB_bump hb hj (crf_j s j) (fun k hk => crf_n hk) (fun k => crf_o (by omega)) (fun k _ => crf_o (by omega)) (fun k _ => crf_o (by omega)) (by rw [rfS_j, q 67 j (by unfold QP; omega)]) (fun k hk => by rw [rfS_n hk, q 67 k (by unfold QP; omega)]) (fun k => by rw [rfS_o (by omega), q 61 k (by unfold QP; omega)]) (fun k hk => by rw [rfS_o (by omega), q 0 k (by unfold QP; omega)]) (fun k hk => by rw [rfS_o (by omega), q 65 k (by unfold QP; omega)])
theorem k_play (i : Nat) : ok_play Inv i := by
  intro s a1 hI
  obtain ⟨B, G, brd, K, U, rn, rf, rv, x, T, n, L, N, p, hR, hC, hb, hp⟩ := hI
  obtain ⟨z, rfl, z1, z2⟩ := i32 a1
  by_cases e : ¬ (chz B G z).1 = -1 ∧ gd_ G < 999
  · obtain ⟨s1, q1, q2, q3, q4, q5⟩ := (c_play hC.1 hC.2.1 hC.2.2.1 hp.1 z1 z2).1 e
    have hR1 := IR_a hR q5.ax
    obtain ⟨nw, hU⟩ := hR1.2.2.1
    obtain ⟨s2, r1, r2, r3⟩ := (m_play hR1.1 hR1.2.1 hU z1 z2).1 e
    exact ⟨_, s1, s2, q1, r1, inv_act hR hC hb ⟨keepA_len hp.1, UPv_new (keepA_pre B G _ K) hp.1 hC.1.1.1.1.1.2 hC.1.2.2.2.2 hp.2.1, hp.2.2⟩ q2 q3 q4 q5.ax ((q5.1 0 12 (by omega) (by omega) (by omega) (by omega)).trans hC.2.2.2.2.1) r2 (SE_2 hR1.2.2.2.2.1 r3)⟩
  · have hR1 := IR_crf hR 2
    obtain ⟨nw, hU⟩ := hR1.2.2.1
    obtain ⟨s2, r1, r2⟩ := (m_play hR1.1 hR1.2.1 hU z1 z2).2 e
    exact ⟨_, crf s 2, rfS s2 2, (c_play hC.1 hC.2.1 hC.2.2.1 hp.1 z1 z2).2 e, r1, inv_no hR hC hb hp (by omega) r2.qf⟩
theorem k_tend (i : Nat) : ok_tend Inv i := by
  intro s a1 a2 hI
  obtain ⟨B, G, brd, K, U, rn, rf, rv, x, T, n, L, N, p, hR, hC, hb, hp⟩ := hI
  obtain ⟨z, rfl, z1, z2⟩ := i32 a1
  obtain ⟨w, rfl, w1, w2⟩ := i32 a2
  by_cases e : (0 ≤ z ∧ z < bF B) ∧ (1 ≤ w ∧ w ≤ 99)
  · obtain ⟨s1, q1, q2, q3, q4, q5⟩ := (c_tend hC.1 hC.2.1 hC.2.2.1 z1 z2 w1 w2).1 e
    have hR1 := IR_a hR q5.ax
    obtain ⟨nw, hU⟩ := hR1.2.2.1
    obtain ⟨s2, r1, r2, r3⟩ := (m_tend hR1.1 hR1.2.1 hU z1 z2 w1 w2).1 e
    exact ⟨_, s1, s2, q1, r1, inv_act (G' := setb G z (tendV G z w)) hR hC hb ⟨hp.1, UPv_new (List.prefix_refl K) hp.1 hC.1.1.1.1.1.2 hC.1.2.2.2.2 hp.2.1, hp.2.2⟩ q2 q3 q4 q5.ax ((q5.1 0 12 (by omega) (by omega) (by omega) (by omega)).trans hC.2.2.2.2.1) r2 (SE_2 hR1.2.2.2.2.1 r3)⟩
  · have hR1 := IR_crf hR 2
    obtain ⟨nw, hU⟩ := hR1.2.2.1
    exact ⟨_, crf s 2, _, (c_tend hC.1 hC.2.1 hC.2.2.1 z1 z2 w1 w2).2 e, (m_tend hR1.1 hR1.2.1 hU z1 z2 w1 w2).2 e, inv_no hR hC hb hp (by omega) (QF.rf _)⟩
theorem k_days (i : Nat) : ok_days Inv i := by
  intro s a1 hI
  obtain ⟨B, G, brd, K, U, rn, rf, rv, x, T, n, L, N, p, hR, hC, hb, hp⟩ := hI
  obtain ⟨z, rfl, z1, z2⟩ := i32 a1
  by_cases e : ahd G brd z 1 30
  · obtain ⟨s1, q1, q2, q3, q4, q5, q6, q7⟩ := (c_daysA hC.1 hC.2.1 hC.2.2.1 hp.1 z1 z2).1 e
    have hR1 := IR_a hR q5.ax
    obtain ⟨nw, hU⟩ := hR1.2.2.1
    obtain ⟨s2, r1, r2, r3⟩ := (m_days hR1.1 hR1.2.1 hU z1 z2).1 e
    exact ⟨_, s1, s2, q1, r1, inv_act hR hC hb ⟨q6, UPv_new (q7) hp.1 hC.1.1.1.1.1.2 hC.1.2.2.2.2 hp.2.1, hp.2.2⟩ q2 q3 q4 q5.ax ((q5.1 0 12 (by omega) (by omega) (by omega) (by omega)).trans hC.2.2.2.2.1) r2 (SE_2 hR1.2.2.2.2.1 r3)⟩
  · have hR1 := IR_crf hR 3
    obtain ⟨nw, hU⟩ := hR1.2.2.1
    exact ⟨_, crf s 3, _, (c_daysA hC.1 hC.2.1 hC.2.2.1 hp.1 z1 z2).2 e, (m_days hR1.1 hR1.2.1 hU z1 z2).2 e, inv_no hR hC hb hp (by omega) (QF.rf _)⟩
theorem k_chance (i : Nat) : ok_chance Inv i := by
  intro s a1 hI
  obtain ⟨B, G, brd, K, U, rn, rf, rv, x, T, n, L, N, p, hR, hC, hb, hp⟩ := hI
  obtain ⟨z, rfl, z1, z2⟩ := i32 a1
  have hse := hR.2.2.2.2.1
  by_cases e : ahd G brd z 1 30
  · obtain ⟨s1, q1, q2, q3, q4, q5, q5b, q6, q7⟩ := (c_chance hC.1 hC.2.1 hC.2.2.1 hp.1 hC.2.2.2.2.1 hse.2 z1 z2).1 e
    have hR1 := IR_a hR q5
    obtain ⟨nw, hU⟩ := hR1.2.2.1
    obtain ⟨s2, r1, r2, r3⟩ := (m_chance hR1.1 hR1.2.1 hU hR1.2.2.2.2.1 z1 z2).1 e
    exact ⟨_, s1, s2, q1, r1, inv_act hR hC hb ⟨q6, UPv_new (q7) hp.1 hC.1.1.1.1.1.2 hC.1.2.2.2.2 hp.2.1, hp.2.2⟩ q2 q3 q4 q5 q5b r2 r3⟩
  · have hR1 := IR_crf hR 3
    obtain ⟨nw, hU⟩ := hR1.2.2.1
    exact ⟨_, crf s 3, _, (c_chance hC.1 hC.2.1 hC.2.2.1 hp.1 hC.2.2.2.2.1 hse.2 z1 z2).2 e, (m_chance hR1.1 hR1.2.1 hU hR1.2.2.2.2.1 z1 z2).2 e, inv_no hR hC hb hp (by omega) (QF.rf _)⟩
theorem k_undo (i : Nat) : ok_undo Inv i := by
  intro s hI
  obtain ⟨B, G, brd, K, U, rn, rf, rv, x, T, n, L, N, p, hR, hC, hb, hp⟩ := hI
  match U, hR, hC, hp with
  | [], hR, hC, hp =>
    have hR1 := IR_crf hR 4
    obtain ⟨nw, hU⟩ := hR1.2.2.1
    exact ⟨_, crf s 4, _, c_undo0 hC.2.2.1, (m_undo hR1.1.1.1 hR1.2.1 hU).1 rfl, inv_no hR hC hb hp (by omega) (QF.rf _)⟩
  | (G', K') :: U', hR, hC, hp =>
    have hup := hp.2.1
    obtain ⟨s1, q1, q2, q3, q4, q5⟩ := c_undo hC.1 hup.2.2.1 hup.2.2.2.1 hC.2.1 hup.1 hC.2.2.1
    have hR1 := IR_a hR q5.ax
    obtain ⟨nw, hU⟩ := hR1.2.2.1
    obtain ⟨s2, nw', r1, r2, r3, r4, r5, r6⟩ := (m_undo hR1.1.1.1 hR1.2.1 hU).2 G' K' U' rfl
    have haf : AF s1 s2 := ⟨fun o k _ x _ y => r5 o k x y, fun k => by rw [r6], by rw [r6]⟩
    exact ⟨_, s1, s2, q1, r1, inv_act hR hC hb ⟨hup.2.1, hup.2.2.2.2, hp.2.2⟩ q2 q3 q4 q5.ax ((q5.1 0 12 (by omega) (by omega) (by omega) (by omega)).trans hC.2.2.2.2.1) ⟨RS_af hR1.1 haf r2 hup.2.2.2.1, r3, ⟨nw', r4⟩, haf⟩ (SE_2 hR1.2.2.2.2.1 (by rw [r6]))⟩
