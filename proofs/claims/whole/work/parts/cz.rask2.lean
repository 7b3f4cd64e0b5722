/-! L3: ask of the reference, whole -/
variable {T : Int → Int} {n : Int}
def askS (T : Int → Int) (n : Int) : EX (Int × List Int) := if isW T n (0, false) = true ∧ 33 ≤ wix T n (0, false) ∧ wix T n (0, false) ≤ 38 then eb (if wix T n (0, false) ≤ 35 then testT T n 6 (nxW T n (0, false)) else sumT T n true 6 (nxW T n (0, false))) (fun a => if frm T n a.2 < n then .error (1, frm T n a.2) else .ok (wix T n (0, false) - 33, a.1)) else .error (1, frm T n (0, false))
def aqS (s : ST) (n : Int) : ST := uI (uI (uI (uI (uI (rdS s n) 65 59 (Int32.ofInt 0)) 65 111 (Int32.ofInt 0)) 65 113 (Int32.ofInt 0)) 65 114 (Int32.ofInt 0)) 65 115 (Int32.ofInt 0)
theorem aqS_f {s : ST} {n : Int} {o k : Nat} (h : ¬ (o = 65 ∧ (k = 59 ∨ k = 111 ∨ k = 113 ∨ k = 114 ∨ k = 115))) : (aqS s n).1 o k = (rdS s n).1 o k := by
  unfold aqS
  generalize rdS s n = t
  (simp only [ua, ja, u_2, u_3, j_1, j_3]; (repeat' split) <;> first | rfl | (exfalso; omega))
theorem aqS_v (s : ST) (n : Int) : (aqS s n).1 65 59 = Int32.ofInt 0 ∧ (aqS s n).1 65 111 = Int32.ofInt 0 ∧ (aqS s n).1 65 113 = Int32.ofInt 0 ∧ (aqS s n).1 65 114 = Int32.ofInt 0 ∧ (aqS s n).1 65 115 = Int32.ofInt 0 := by
  unfold aqS
  refine ⟨?_, ?_, ?_, ?_, u_eq _ _ _ _⟩
  · rw [u_nk (by omega), u_nk (by omega), u_nk (by omega), u_nk (by omega), u_eq]
  · rw [u_nk (by omega), u_nk (by omega), u_nk (by omega), u_eq]
  · rw [u_nk (by omega), u_nk (by omega), u_eq]
  · rw [u_nk (by omega), u_eq]
def akK (q4 : Int32 × ST) : Option (Int64 × ST) := if (q4.2.1 65 5) = 0 then (if (Int32.ofInt 3) ≤ q4.1 then f_X10_ask_j98 q4.1 q4.2 else (f_X10_qTest q4.2).bind (fun q7 => f_X10_ask_j109 q4.1 q7)) else f_X10_ask_j98 q4.1 q4.2
/-- what the codes of a question are worth -/
def AV (k : Int) (l : List Int) : Prop := (0 ≤ k ∧ k ≤ 5) ∧ (l.length : Int) ≤ 1600 ∧ tyL l [] = some [decide (k < 3)] ∧ ∀ v ∈ l, cdP true v
theorem ask_AV (n0 : 0 ≤ n) (n16 : n ≤ 1600) {a : Int × List Int} (h : askS T n = .ok a) : AV a.1 a.2 := by
  unfold askS at h
  by_cases e : isW T n (0, false) = true ∧ 33 ≤ wix T n (0, false) ∧ wix T n (0, false) ≤ 38
  · rw [if_pos e] at h
    have hwb := wd_b (c := (0, false)) e.1 (by show (0 : Int) ≤ 0; omega) n0
    have hwb1 : (0 : Int) < (nxW T n (0, false)).1 := hwb.1
    by_cases e2 : wix T n (0, false) ≤ 35
    · rw [if_pos e2] at h
      have hb := testT_b (T := T) (n := n) 6 (nxW T n (0, false)) (by omega) hwb.2
      have hy := y_testT (T := T) (n := n) 6 (nxW T n (0, false))
      cases e3 : testT T n 6 (nxW T n (0, false)) with
      | error x => rw [e3] at h; cases h
      | ok z =>
        rw [e3] at h hb hy
        have h : (if frm T n z.2 < n then (.error (1, frm T n z.2) : EX (Int × List Int)) else .ok (wix T n (0, false) - 33, z.1)) = .ok a := h
        split at h
        · cases h
        · cases h
          obtain ⟨b1, b2, b3⟩ := (hb : (nxW T n (0, false)).1 + z.1.length ≤ z.2.1 ∧ (nxW T n (0, false)).1 < z.2.1 ∧ z.2.1 ≤ n)
          have hy : TW true (3 * 6 + 6) true z.1 := hy
          refine ⟨⟨by show 0 ≤ wix T n (0, false) - 33; omega, by show wix T n (0, false) - 33 ≤ 5; omega⟩, by show (z.1.length : Int) ≤ 1600; omega, ?_, hy.2⟩
          show tyL z.1 [] = some [decide (wix T n (0, false) - 33 < 3)]
          rw [decide_eq_true (by omega)]
          exact hy.1 [] (by show 0 + 24 ≤ 60; omega)
    · rw [if_neg e2] at h
      have hb := sumT_b (T := T) (n := n) (m := true) 6 (nxW T n (0, false)) (by omega) hwb.2
      have hy := y_sumT (T := T) (n := n) (m := true) 6 (nxW T n (0, false))
      cases e3 : sumT T n true 6 (nxW T n (0, false)) with
      | error x => rw [e3] at h; cases h
      | ok z =>
        rw [e3] at h hb hy
        have h : (if frm T n z.2 < n then (.error (1, frm T n z.2) : EX (Int × List Int)) else .ok (wix T n (0, false) - 33, z.1)) = .ok a := h
        split at h
        · cases h
        · cases h
          obtain ⟨b1, b2, b3⟩ := (hb : (nxW T n (0, false)).1 + z.1.length ≤ z.2.1 ∧ (nxW T n (0, false)).1 < z.2.1 ∧ z.2.1 ≤ n)
          have hy : TW true (3 * 6 + 3) false z.1 := hy
          refine ⟨⟨by show 0 ≤ wix T n (0, false) - 33; omega, by show wix T n (0, false) - 33 ≤ 5; omega⟩, by show (z.1.length : Int) ≤ 1600; omega, ?_, hy.2⟩
          show tyL z.1 [] = some [decide (wix T n (0, false) - 33 < 3)]
          rw [decide_eq_false (by omega)]
          exact hy.1 [] (by show 0 + 21 ≤ 60; omega)
  · rw [if_neg e] at h; cases h
theorem m_j109 {c : Cur} {cs : List Int} {s : ST} (h : MZ T n true 0 c cs [] 0 s) (x1 : Int32) : ∃ s', f_X10_ask_j109 x1 s = f_X10_ask_j133 x1 s' ∧ RQf s s' ∧ (frm T n c < n → RB 1 (frm T n c) s') ∧ (¬ frm T n c < n → QS cs [] 0 s' ∧ s'.1 65 5 = Int32.ofInt 0 ∧ s'.1 65 6 = Int32.ofInt (-1)) := by
  have hbad := h.1.b.1
  obtain ⟨s1, q1, q2, q3, q4⟩ := m_lookQ h
  have hb := q2.b
  have hlb := lkV_b (f := frm T n c) hb.2.2.2 (by have := hb.2.2.1; omega)
  have h2 := hb.2.1
  by_cases e : frm T n c < n
  · obtain ⟨s2, p1, p2, p3⟩ := m_fail (k := 1) (p := frm T n c) hb.1 (by omega) (by omega)
    refine ⟨s2, ?_, q4.tr p3.q, fun _ => p2, fun x => absurd e x⟩
    have ne : ¬ lkV T n (frm T n c) = -1 := by
      have h66 := hb.2.2.2 (frm T n c) (by have := hb.2.2.1; omega) e
      unfold lkV
      rw [if_pos e]
      omega
    rw [← h2] at p1
    simp (disch := omega) only [f_X10_ask_j109, hbad, ↓bb q1, ↓bb p1, n_i8, n_i16, n_0, n_31, n_add, n_sub, n_mul, n_neg, n_div, n_rem, n_le_t, n_le_f, n_lt_t, n_lt_f, n_eq_t, n_eq_f, n_cl, n_gd, n_gdt, n_nz, Int.reduceToNat, Int.reduceAdd, Int.reduceSub, Int.reduceMul, Int.reduceNeg, Int.reduceLT, Int.reduceLE, Int.reduceEq, Int.reduceDiv, Int.reduceMod, Nat.reduceAdd, Nat.reduceMul, ↓reduceIte]
  · obtain ⟨d, hx, -⟩ := q2
    refine ⟨s1, ?_, q4, fun x => absurd x e, fun _ => ⟨q3.2.2.1, hx.2.2.2.1, hx.2.2.2.2⟩⟩
    have ne : lkV T n (frm T n c) = -1 := by unfold lkV; rw [if_neg e]
    rw [ne] at q1
    simp (disch := omega) only [f_X10_ask_j109, hbad, ↓bb q1, n_i8, n_i16, n_0, n_31, n_add, n_sub, n_mul, n_neg, n_div, n_rem, n_le_t, n_le_f, n_lt_t, n_lt_f, n_eq_t, n_eq_f, n_cl, n_gd, n_gdt, n_nz, Int.reduceToNat, Int.reduceAdd, Int.reduceSub, Int.reduceMul, Int.reduceNeg, Int.reduceLT, Int.reduceLE, Int.reduceEq, Int.reduceDiv, Int.reduceMod, Nat.reduceAdd, Nat.reduceMul, ↓reduceIte]
theorem m_j109B {k p : Int} {s : ST} (h : RB k p s) (x1 : Int32) : f_X10_ask_j109 x1 s = f_X10_ask_j133 x1 s := by
  unfold f_X10_ask_j109
  rw [if_neg h.ne]
/-- what ask may change of the reference -/
def AFf (s s' : ST) : Prop := (∀ o k : Nat, ¬ (o = 65 ∧ (k ≤ 10 ∨ k = 44 ∨ k = 59 ∨ (111 ≤ k ∧ k ≤ 119))) → ¬ o = 118 → ¬ o = 146 → ¬ o = 147 → s'.1 o k = s.1 o k) ∧ (∀ o k : Nat, ¬ (o = 65 ∧ k = 118) → ¬ o = 148 → s'.2.1 o k = s.2.1 o k) ∧ s'.2.2 = s.2.2
theorem m_ask {B : Brd} {G : Gam} {s : ST} (hA : MA B G s) (h58 : s.1 65 58 = Int32.ofInt 1) (hT : TP T n s) (hw : WDS s) : ∃ v s', f_X10_ask s = some (v, s') ∧ s'.1 65 1 = Int32.ofInt 0 ∧ AFf s s' ∧ RQ (askS T n) (fun a => v = Int64.ofInt (qAn B G a.1 a.2) ∧ s'.1 65 7 = Int32.ofInt 0 ∧ s'.1 65 8 = Int32.ofInt (-1)) (fun k p => v = Int64.ofInt (-1000000000000000) ∧ s'.1 65 7 = Int32.ofInt k ∧ s'.1 65 8 = Int32.ofInt p) := by
  have h1 := hT.1
  have hn := hT.2.1
  obtain ⟨v59, v111, v113, v114, v115⟩ := aqS_v s n
  have hC : RC T n (0, false) (aqS s n) := rdS_C hT (fun o k x => aqS_f (by omega))
  have hW : WDS (aqS s n) := WDS_fr hw (fun o k ho => (aqS_f (by omega)).trans (rdS_f (by omega)))
  have e0 : f_X10_ask s = (f_X10_qKind (aqS s n)).bind akK := by
    unfold f_X10_ask aqS rdS
    rw [h58, if_neg (show ¬ Int32.ofInt 1 = 0 from by decide), ltd, ltd, h1]
    rfl
  obtain ⟨v, s1, q1, q2, q3, q4⟩ := m_qKind hC hW
  have F1 : RQf (aqS s n) s1 := q2.q
  -- read to the end
  have hend : ∃ (x1 : Int32) (s6 : ST), f_X10_ask s = f_X10_ask_j133 x1 s6 ∧ RQf (aqS s n) s6 ∧ RQ (askS T n) (fun a => x1 = Int32.ofInt a.1 ∧ QS a.2 [] 0 s6 ∧ s6.1 65 5 = Int32.ofInt 0 ∧ s6.1 65 6 = Int32.ofInt (-1)) (fun k p => RB k p s6) := by
    rw [e0, q1, bnd]
    unfold askS
    by_cases e : isW T n (0, false) = true ∧ 33 ≤ wix T n (0, false) ∧ wix T n (0, false) ≤ 38
    · rw [if_pos e]
      obtain ⟨w1, w2⟩ := q3 e
      subst w1
      have hwb := wd_b (c := (0, false)) e.1 (by show (0 : Int) ≤ 0; omega) hn.1
      have hwb1 : (0 : Int) < (nxW T n (0, false)).1 := hwb.1
      have hM : MZ T n true 0 (nxW T n (0, false)) [] [] 0 s1 := by
        refine ⟨w2, WDS_fr hW (fun o k ho => q2.1 o k (by omega)), ⟨⟨(q2.1 65 111 (by omega)).trans v111, fun i hi => absurd hi (by show ¬ i < 0; omega)⟩, ⟨(q2.1 65 113 (by omega)).trans v113, fun i hi => absurd hi (by show ¬ i < 0; omega)⟩, ⟨(q2.1 65 114 (by omega)).trans v114, by omega, by omega⟩, fun v hv => by cases hv⟩, ⟨(q2.1 65 59 (by omega)).trans v59, (q2.1 65 115 (by omega)).trans v115, by omega, by show (0 : Int) ≤ 0; omega⟩, by show ((0 : Nat) : Int) + ((0 : Nat) : Int) ≤ _; omega⟩
      have h5 := w2.b.1
      by_cases e2 : wix T n (0, false) ≤ 35
      · rw [if_pos e2]
        obtain ⟨s2, p1, p2, p3⟩ := m_qTest hM
        have ek : akK (Int32.ofInt (wix T n (0, false) - 33), s1) = f_X10_ask_j109 (Int32.ofInt (wix T n (0, false) - 33)) s2 := by
          unfold akK
          simp (disch := omega) only [h5, ↓bb p1, n_i8, n_i16, n_0, n_31, n_add, n_sub, n_mul, n_neg, n_div, n_rem, n_le_t, n_le_f, n_lt_t, n_lt_f, n_eq_t, n_eq_f, n_cl, n_gd, n_gdt, n_nz, Int.reduceToNat, Int.reduceAdd, Int.reduceSub, Int.reduceMul, Int.reduceNeg, Int.reduceLT, Int.reduceLE, Int.reduceEq, Int.reduceDiv, Int.reduceMod, Nat.reduceAdd, Nat.reduceMul, ↓reduceIte]
        rw [ek]
        cases e3 : testT T n 6 (nxW T n (0, false)) with
        | error x =>
          rw [e3] at p3
          exact ⟨_, s2, m_j109B p3 _, F1.tr p2, p3⟩
        | ok z =>
          rw [e3] at p3
          obtain ⟨s3, r1, r2, r3, r4⟩ := m_j109 (p3 : MZ T n true 0 z.2 z.1 [] 0 s2) (Int32.ofInt (wix T n (0, false) - 33))
          refine ⟨_, s3, r1, (F1.tr p2).tr r2, ?_⟩
          rw [eb_ok]
          by_cases e4 : frm T n z.2 < n
          · rw [if_pos e4]; exact r3 e4
          · rw [if_neg e4]; exact ⟨rfl, r4 e4⟩
      · rw [if_neg e2]
        obtain ⟨s2, p1, p2, p3⟩ := m_qSums hM (d := 6) (by omega) (Or.inl tp_n)
        have ek : akK (Int32.ofInt (wix T n (0, false) - 33), s1) = f_X10_ask_j109 (Int32.ofInt (wix T n (0, false) - 33)) s2 := by
          unfold akK
          simp (disch := omega) only [f_X10_ask_j98, h5, ↓bb p1, n_i8, n_i16, n_0, n_31, n_add, n_sub, n_mul, n_neg, n_div, n_rem, n_le_t, n_le_f, n_lt_t, n_lt_f, n_eq_t, n_eq_f, n_cl, n_gd, n_gdt, n_nz, Int.reduceToNat, Int.reduceAdd, Int.reduceSub, Int.reduceMul, Int.reduceNeg, Int.reduceLT, Int.reduceLE, Int.reduceEq, Int.reduceDiv, Int.reduceMod, Nat.reduceAdd, Nat.reduceMul, ↓reduceIte]
        rw [ek]
        cases e3 : sumT T n true 6 (nxW T n (0, false)) with
        | error x =>
          rw [e3] at p3
          exact ⟨_, s2, m_j109B p3.1 _, F1.tr p2, p3.1⟩
        | ok z =>
          rw [e3] at p3
          obtain ⟨s3, r1, r2, r3, r4⟩ := m_j109 (p3 : MZ T n true 0 z.2 z.1 [] 0 s2) (Int32.ofInt (wix T n (0, false) - 33))
          refine ⟨_, s3, r1, (F1.tr p2).tr r2, ?_⟩
          rw [eb_ok]
          by_cases e4 : frm T n z.2 < n
          · rw [if_pos e4]; exact r3 e4
          · rw [if_neg e4]; exact ⟨rfl, r4 e4⟩
    · rw [if_neg e]
      obtain ⟨w1, w2⟩ := q4 e
      have ek : akK (v, s1) = f_X10_ask_j133 v s1 := by
        unfold akK
        rw [if_neg w2.ne]
        unfold f_X10_ask_j98
        rw [if_neg w2.ne]
        exact m_j109B w2 v
      exact ⟨v, s1, ek, F1, w2⟩
  obtain ⟨x1, s6, g1, g2, g3⟩ := hend
  have fA : ∀ o k : Nat, ¬ (o = 65 ∧ ((1 ≤ k ∧ k ≤ 6) ∨ k = 10 ∨ k = 44 ∨ k = 59 ∨ (111 ≤ k ∧ k ≤ 115))) → ¬ o = 146 → ¬ o = 147 → s6.1 o k = s.1 o k := fun o k x y z => (g2.1 o k (by omega) y z).trans ((aqS_f (by omega)).trans (rdS_f (by omega)))
  have h65 : s6.1 65 1 = Int32.ofInt 0 := (g2.1 65 1 (by omega) (by omega) (by omega)).trans ((aqS_f (by omega)).trans (rdS_v s n).2.1)
  have f2 : s6.2 = s.2 := g2.2
  have f7 : ∀ o k : Nat, ¬ (o = 65 ∧ (k = 7 ∨ k = 8)) → (uI (uI s6 65 7 (s6.1 65 5)) 65 8 (s6.1 65 6)).1 o k = s6.1 o k := fun o k x => by (simp only [ua, ja, u_2, u_3, j_1, j_3]; (repeat' split) <;> first | rfl | (exfalso; omega))
  have e66 : (uI s6 65 7 (s6.1 65 5)).1 65 6 = s6.1 65 6 := u_nk (by omega)
  have v7 : (uI (uI s6 65 7 (s6.1 65 5)) 65 8 (s6.1 65 6)).1 65 7 = s6.1 65 5 := by rw [u_nk (by omega), u_eq]
  have v8 : (uI (uI s6 65 7 (s6.1 65 5)) 65 8 (s6.1 65 6)).1 65 8 = s6.1 65 6 := u_eq _ _ _ _
  have l7 : (uI (uI s6 65 7 (s6.1 65 5)) 65 8 (s6.1 65 6)).2 = s6.2 := rfl
  rw [g1]
  have ej : f_X10_ask_j133 x1 s6 = (if ((uI (uI s6 65 7 (s6.1 65 5)) 65 8 (s6.1 65 6)).1 65 5) = 0 then (if (Int32.ofInt 2) ≤ x1 then f_X10_ask_j173 x1 (Int64.ofNat ((0 : Fin 2) : Nat)) (uI (uI s6 65 7 (s6.1 65 5)) 65 8 (s6.1 65 6)) else f_X10_ask_j173 x1 (Int64.ofInt (-1)) (uI (uI s6 65 7 (s6.1 65 5)) 65 8 (s6.1 65 6))) else some ((Int64.ofInt (-1000000000000000)), (uI (uI s6 65 7 (s6.1 65 5)) 65 8 (s6.1 65 6)))) := by
    unfold f_X10_ask_j133
    rw [e66, ltd]
  rw [ej]
  generalize hs7 : uI (uI s6 65 7 (s6.1 65 5)) 65 8 (s6.1 65 6) = s7 at *
  have h55 := f7 65 5 (by omega)
  cases eS : askS T n with
  | error x =>
    rw [eS] at g3
    have g3 : RB x.1 x.2 s6 := g3
    refine ⟨_, s7, ?_, ?_, ⟨fun o k y1 y2 y3 y4 => ?_, fun o k _ _ => ?_, ?_⟩, rfl, ?_, ?_⟩
    · rw [if_neg (by rw [h55]; exact g3.ne)]
    · rw [f7 65 1 (by omega)]; exact h65
    · rw [f7 o k (by omega)]; exact fA o k (by omega) y3 y4
    · rw [l7, f2]
    · rw [l7, f2]
    · rw [v7]; exact g3.1
    · rw [v8]; exact g3.2.1
  | ok a =>
    rw [eS] at g3
    obtain ⟨z1, z2, z3, z4⟩ := (g3 : x1 = Int32.ofInt a.1 ∧ QS a.2 [] 0 s6 ∧ s6.1 65 5 = Int32.ofInt 0 ∧ s6.1 65 6 = Int32.ofInt (-1))
    obtain ⟨⟨k0, k5⟩, hl, hty, hcd⟩ := ask_AV hn.1 hn.2 eS
    subst z1
    rw [if_pos (show s7.1 65 5 = 0 from h55.trans z3)]
    have ek : (if (Int32.ofInt 2) ≤ Int32.ofInt a.1 then f_X10_ask_j173 (Int32.ofInt a.1) (Int64.ofNat ((0 : Fin 2) : Nat)) s7 else f_X10_ask_j173 (Int32.ofInt a.1) (Int64.ofInt (-1)) s7) = f_X10_ask_j173 (Int32.ofInt a.1) (Int64.ofInt (if 2 ≤ a.1 then 0 else -1)) s7 := by
      by_cases e : 2 ≤ a.1
      · rw [if_pos e]
        simp (disch := omega) only [n_i8, n_i16, n_0, n_31, n_add, n_sub, n_mul, n_neg, n_div, n_rem, n_le_t, n_le_f, n_lt_t, n_lt_f, n_eq_t, n_eq_f, n_cl, n_gd, n_gdt, n_nz, Int.reduceToNat, Int.reduceAdd, Int.reduceSub, Int.reduceMul, Int.reduceNeg, Int.reduceLT, Int.reduceLE, Int.reduceEq, Int.reduceDiv, Int.reduceMod, Nat.reduceAdd, Nat.reduceMul, ↓reduceIte, l_0, l_1, l_00, l_i, l_j, l_add, l_sub, l_mul, l_gt, l_ceq, l_clt, l_nz]
      · rw [if_neg e]
        simp (disch := omega) only [n_i8, n_i16, n_0, n_31, n_add, n_sub, n_mul, n_neg, n_div, n_rem, n_le_t, n_le_f, n_lt_t, n_lt_f, n_eq_t, n_eq_f, n_cl, n_gd, n_gdt, n_nz, Int.reduceToNat, Int.reduceAdd, Int.reduceSub, Int.reduceMul, Int.reduceNeg, Int.reduceLT, Int.reduceLE, Int.reduceEq, Int.reduceDiv, Int.reduceMod, Nat.reduceAdd, Nat.reduceMul, ↓reduceIte, l_0, l_1, l_00, l_i, l_j, l_add, l_sub, l_mul, l_gt, l_ceq, l_clt, l_nz]
    rw [ek]
    obtain ⟨y, hy, hy0⟩ : ∃ y : Int, y = (if 2 ≤ a.1 then 0 else -1) ∧ (-1 ≤ y ∧ y ≤ 0) := ⟨_, rfl, by split <;> omega⟩
    rw [← hy]
    have f8 : ∀ o k : Nat, ¬ (o = 65 ∧ k = 119) → (uI (uJ s7 65 118 (Int64.ofInt y)) 65 119 (Int32.ofInt 1)).1 o k = s7.1 o k := fun o k x => by (simp only [ua, ja, u_2, u_3, j_1, j_3]; (repeat' split) <;> first | rfl | (exfalso; omega))
    have f8j : ∀ o k : Nat, ¬ (o = 65 ∧ k = 118) → (uI (uJ s7 65 118 (Int64.ofInt y)) 65 119 (Int32.ofInt 1)).2.1 o k = s7.2.1 o k := fun o k x => by (simp only [ua, ja, u_2, u_3, j_1, j_3]; (repeat' split) <;> first | rfl | (exfalso; omega))
    have hA8 : MA B G (uI (uJ s7 65 118 (Int64.ofInt y)) 65 119 (Int32.ofInt 1)) := MA_fr hA (fun o k x => (f8 o k (by omega)).trans ((f7 o k (by omega)).trans (fA o k (by omega) (by omega) (by omega))))
    have hM8 : bM B ≤ 8 := hA.1.1.1.2.2.2.2.2.2.2.1
    have hM0 : 0 ≤ bM B := hA.1.1.1.2.2.2.2.2.2.1
    obtain ⟨s9, a1, a2, a3, a4⟩ := m_ask183 (x1 := Int32.ofInt a.1) f_X10_ask_j220 (bM B).toNat fuel 0 _ hA8 (by omega) (by omega) (by unfold fuel; omega) (fun j j0 j1 => by omega)
    have f10 : ∀ o k : Nat, ¬ (o = 65 ∧ k = 59) → (uI s9 65 59 (Int32.ofInt 0)).1 o k = s9.1 o k := fun o k x => by (simp only [ua, ja, u_2, u_3, j_1, j_3]; (repeat' split) <;> first | rfl | (exfalso; omega))
    have hQ : QAA B G a.2 (uI s9 65 59 (Int32.ofInt 0)) := by
      refine ⟨MA_fr hA8 (fun o k x => (f10 o k (by omega)).trans (a3 o k (by omega))), fun j j0 j1 => (f10 118 _ (by omega)).trans (a2 j j0 j1), ?_, fun i hi => ?_⟩
      · rw [f10 65 111 (by omega), a3 65 111 (by omega), f8 65 111 (by omega), f7 65 111 (by omega)]; exact z2.1.1
      · rw [f10 146 i (by omega), a3 146 i (by omega), f8 146 i (by omega), f7 146 i (by omega)]; exact z2.1.2 i hi
    have h118 : (uI s9 65 59 (Int32.ofInt 0)).2.1 65 118 = Int64.ofInt y := by
      rw [u_2, a4, u_2, j_eq]
    have h119 : (uI s9 65 59 (Int32.ofInt 0)).1 65 119 = bI true := by
      rw [f10 65 119 (by omega), a3 65 119 (by omega), u_eq]; rfl
    obtain ⟨s10, b1, b2, b3⟩ := m_ask227 (k := a.1) k0 k5 hl hcd hty f_X10_ask_j260 (bM B).toNat fuel 0 y true _ hQ h118 h119 (by omega) (by omega) (by unfold fuel; omega) (by omega) (by omega)
    have hall : ∀ o k : Nat, ¬ (o = 65 ∧ (k = 117 ∨ k = 119 ∨ k = 59)) → ¬ o = 118 → s10.1 o k = s7.1 o k := fun o k x y => (b3.1 o k (by omega)).trans ((f10 o k (by omega)).trans ((a3 o k y).trans (f8 o k (by omega))))
    refine ⟨Int64.ofInt (qFo G (qVa B G a.2) a.1 (bM B).toNat 0 y true), s10, ?_, ?_, ⟨fun o k y1 y2 y3 y4 => ?_, fun o k y1 y2 => ?_, ?_⟩, ?_, ?_, ?_⟩
    · unfold f_X10_ask_j173
      rw [ltd, a1]
      unfold f_X10_ask_j220
      rw [ltd, b1]
      unfold f_X10_ask_j260
      rw [b2]
    · rw [hall 65 1 (by omega) (by omega), f7 65 1 (by omega)]; exact h65
    · rw [hall o k (by omega) y2, f7 o k (by omega)]; exact fA o k (by omega) y3 y4
    · rw [b3.2.1 o k y1 y2, u_2, a4, f8j o k y1, l7, f2]
    · rw [b3.2.2, u_3, a4]
      show s7.2.2 = s.2.2
      rw [l7, f2]
    · unfold qAn
      rw [hy]
    · rw [hall 65 7 (by omega) (by omega), v7]; exact z3
    · rw [hall 65 8 (by omega) (by omega), v8]; exact z4
theorem m_ask0 {s : ST} (h58 : s.1 65 58 = Int32.ofInt 0) : f_X10_ask s = some (Int64.ofInt (-1000000000000000), uI s 65 1 (Int32.ofInt 0)) := by
  unfold f_X10_ask
  rw [h58, if_pos (show Int32.ofInt 0 = 0 from rfl), ltd]
