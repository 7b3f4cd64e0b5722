/-! L3: board of the reference, whole -/
variable {T : Int → Int} {n : Int}
def BOf (s s' : ST) : Prop := (∀ o k : Nat, ¬ (101 ≤ o ∧ o ≤ 112) → ¬ (o = 65 ∧ (k ≤ 10 ∨ k = 44 ∨ (56 ≤ k ∧ k ≤ 61) ∨ k = 80 ∨ k = 84 ∨ (111 ≤ k ∧ k ≤ 115))) → ¬ o = 146 → ¬ o = 147 → s'.1 o k = s.1 o k) ∧ (∀ o k : Nat, ¬ o = 102 → s'.2.1 o k = s.2.1 o k) ∧ s'.2.2 = s.2.2
def BEf (s s' : ST) : Prop := (∀ o k : Nat, ¬ LO o k → ¬ (o = 65 ∧ (k ≤ 10 ∨ k = 57)) → ¬ (o = 67 ∧ k = 1) → s'.1 o k = s.1 o k) ∧ (∀ o k : Nat, ¬ (o = 102 ∧ k < 24) → s'.2.1 o k = s.2.1 o k) ∧ s'.2.2 = s.2.2
/-- the reference begins to read -/
def rdS (s : ST) (n : Int) : ST := uI (uI (uI (uI (uI (uI s 65 3 (Int32.ofInt n)) 65 1 (Int32.ofInt 0)) 65 2 (Int32.ofInt 0)) 65 4 (Int32.ofInt (-1))) 65 5 (Int32.ofInt 0)) 65 6 (Int32.ofInt (-1))
theorem rdS_f {s : ST} {n : Int} {o k : Nat} (h : ¬ (o = 65 ∧ 1 ≤ k ∧ k ≤ 6)) : (rdS s n).1 o k = s.1 o k := by
  unfold rdS
  (simp only [ua, ja, u_2, u_3, j_1, j_3]; (repeat' split) <;> first | rfl | (exfalso; omega))
theorem rdS_v (s : ST) (n : Int) : (rdS s n).1 65 3 = Int32.ofInt n ∧ (rdS s n).1 65 1 = Int32.ofInt 0 ∧ (rdS s n).1 65 2 = Int32.ofInt 0 ∧ (rdS s n).1 65 4 = Int32.ofInt (-1) ∧ (rdS s n).1 65 5 = Int32.ofInt 0 ∧ (rdS s n).1 65 6 = Int32.ofInt (-1) := by
  unfold rdS
  refine ⟨?_, ?_, ?_, ?_, ?_, u_eq _ _ _ _⟩
  · rw [u_nk (by omega), u_nk (by omega), u_nk (by omega), u_nk (by omega), u_nk (by omega), u_eq]
  · rw [u_nk (by omega), u_nk (by omega), u_nk (by omega), u_nk (by omega), u_eq]
  · rw [u_nk (by omega), u_nk (by omega), u_nk (by omega), u_eq]
  · rw [u_nk (by omega), u_nk (by omega), u_eq]
  · rw [u_nk (by omega), u_eq]
theorem rdS_C {s s' : ST} (hT : TP T n s) (h1 : ∀ o k : Nat, (o = 65 ∧ 2 ≤ k ∧ k ≤ 6) ∨ o = 66 → s'.1 o k = (rdS s n).1 o k) : RC T n (0, false) s' := by
  obtain ⟨v3, -, v2, v4, v5, v6⟩ := rdS_v s n
  obtain ⟨t1, t2, t3⟩ := hT
  refine ⟨0, -1, ⟨⟨fun j j0 j1 => ⟨(h1 66 _ (by omega)).trans ((rdS_f (by omega)).trans (t3 j j0 j1).1), (t3 j j0 j1).2⟩, (h1 65 3 (by omega)).trans v3, t2⟩, ⟨(h1 65 2 (by omega)).trans v2, by omega, t2.1⟩, ⟨(h1 65 4 (by omega)).trans v4, by omega, by omega⟩, (h1 65 5 (by omega)).trans v5, (h1 65 6 (by omega)).trans v6⟩, Or.inl rfl, ⟨by show (0 : Int) ≤ 0; omega, t2.1⟩, fun x => (by cases x), fun _ => by show (-1 : Int) < 0; omega⟩
def bdS (s : ST) (n : Int) : ST := uI (uI (uI (uI (uI (uI (uI (rdS s n) 65 56 (Int32.ofInt 0)) 101 0 (Int32.ofInt 0)) 101 1 (Int32.ofInt 0)) 101 2 (Int32.ofInt 0)) 108 0 (Int32.ofInt 0)) 108 1 (Int32.ofInt 0)) 109 0 (Int32.ofInt (-1))
theorem bdS_f {s : ST} {n : Int} {o k : Nat} (h : ¬ (o = 65 ∧ k = 56)) (h1 : ¬ (o = 101 ∧ k < 3)) (h2 : ¬ (o = 108 ∧ k < 2)) (h3 : ¬ (o = 109 ∧ k = 0)) : (bdS s n).1 o k = (rdS s n).1 o k := by
  unfold bdS
  generalize rdS s n = t
  (simp only [ua, ja, u_2, u_3, j_1, j_3]; (repeat' split) <;> first | rfl | (exfalso; omega))
theorem bdS_z (s : ST) (n : Int) : RZ (bdS s n) := by
  unfold bdS
  refine ⟨⟨?_, ?_, ?_⟩, ⟨?_, ?_⟩, u_eq _ _ _ _, ?_⟩
  · rw [u_no (by omega), u_no (by omega), u_no (by omega), u_nk (by omega), u_nk (by omega), u_eq]
  · rw [u_no (by omega), u_no (by omega), u_no (by omega), u_nk (by omega), u_eq]
  · rw [u_no (by omega), u_no (by omega), u_no (by omega), u_eq]
  · rw [u_no (by omega), u_nk (by omega), u_eq]
  · rw [u_no (by omega), u_eq]
  · rw [u_no (by omega), u_no (by omega), u_no (by omega), u_no (by omega), u_no (by omega), u_no (by omega), u_eq]
theorem m_board {s : ST} (hT : TP T n s) (hw : WDS s) : ∃ v s', f_X10_board s = some (v, s') ∧ s'.1 65 1 = Int32.ofInt 0 ∧ RQ (brdS T n) (fun a => (v = Int32.ofInt a.1 ∧ 1 ≤ a.1 ∧ a.1 ≤ 60) ∧ DV a.2.1 a.2.2.1 a.2.2.2 ∧ (MB a.2.1 s' ∧ MG a.2.1 a.2.2.1 s' ∧ MH a.2.1 s' ∧ NR a.2.1 a.2.2.2 s') ∧ (s'.1 65 58 = Int32.ofInt 1 ∧ s'.1 65 84 = Int32.ofInt 0 ∧ s'.1 65 80 = Int32.ofInt 0 ∧ ∀ k : Nat, 24 ≤ k → k < 225 → s'.1 112 k = Int32.ofInt 0) ∧ (s'.1 65 7 = Int32.ofInt 0 ∧ s'.1 65 8 = Int32.ofInt (-1)) ∧ BOf s s') (fun k p => (v = Int32.ofInt (-1) ∧ s'.1 65 7 = Int32.ofInt k ∧ s'.1 65 8 = Int32.ofInt p ∧ 1 ≤ k ∧ k ≤ 5 ∧ s'.1 67 1 = s.1 67 1 + Int32.ofInt 1) ∧ BEf s s') := by
  have h1 := hT.1
  have hn := hT.2.1
  have hC : RC T n (0, false) (bdS s n) := rdS_C hT (fun o k x => bdS_f (by omega) (by omega) (by omega) (by omega))
  have hW : WDS (bdS s n) := WDS_fr hw (fun o k ho => (bdS_f (by omega) (by omega) (by omega) (by omega)).trans (rdS_f (by omega)))
  obtain ⟨s4, q1, q2, q3⟩ := m_size hC hW (bdS_z s n)
  obtain ⟨F, hF⟩ : ∃ F, fuel = F + 1 + 1 + 1 + 1 := ⟨99996, rfl⟩
  have ec0 : (Int32.ofInt 0).toNatClampNeg = 0 := rfl
  have ec1 : (Int32.ofInt 1).toNatClampNeg = 1 := rfl
  have ec2 : (Int32.ofInt 2).toNatClampNeg = 2 := rfl
  have e0 : f_X10_board s = f_X10_board_L88 f_X10_board_j110 fuel (uI s4 65 57 (Int32.ofInt 1)) := by
    have ea : f_X10_board s = f_X10_board_L40 f_X10_board_j58 fuel (Int32.ofInt 0) (uI (rdS s n) 65 56 (Int32.ofInt 0)) := by
      unfold f_X10_board rdS
      rw [ltd, h1]
    have eb' : f_X10_board_L40 f_X10_board_j58 fuel (Int32.ofInt 0) (uI (rdS s n) 65 56 (Int32.ofInt 0)) = f_X10_board_j58 (uI (uI (uI (uI (rdS s n) 65 56 (Int32.ofInt 0)) 101 0 (Int32.ofInt 0)) 101 1 (Int32.ofInt 0)) 101 2 (Int32.ofInt 0)) := by
      rw [hF]
      simp (disch := omega) only [f_X10_board_L40, ec0, ec1, ec2, n_i8, n_i16, n_0, n_31, n_add, n_sub, n_mul, n_neg, n_div, n_rem, n_le_t, n_le_f, n_lt_t, n_lt_f, n_eq_t, n_eq_f, n_cl, n_gd, n_gdt, n_nz, Int.reduceToNat, Int.reduceAdd, Int.reduceSub, Int.reduceMul, Int.reduceNeg, Int.reduceLT, Int.reduceLE, Int.reduceEq, Int.reduceDiv, Int.reduceMod, Nat.reduceAdd, Nat.reduceMul, ↓reduceIte, ltd]
    rw [ea, eb']
    have q1' : f_X10_boardTold (uI (uI (uI (uI (uI (uI (uI (rdS s n) 65 56 (Int32.ofInt 0)) 101 0 (Int32.ofInt 0)) 101 1 (Int32.ofInt 0)) 101 2 (Int32.ofInt 0)) 108 0 (Int32.ofInt 0)) 108 1 (Int32.ofInt 0)) 109 0 (Int32.ofInt (-1))) = some s4 := q1
    simp (disch := omega) only [f_X10_board_j58, ec0, ec1, ↓bb q1', n_i8, n_i16, n_0, n_31, n_add, n_sub, n_mul, n_neg, n_div, n_rem, n_le_t, n_le_f, n_lt_t, n_lt_f, n_eq_t, n_eq_f, n_cl, n_gd, n_gdt, n_nz, Int.reduceToNat, Int.reduceAdd, Int.reduceSub, Int.reduceMul, Int.reduceNeg, Int.reduceLT, Int.reduceLE, Int.reduceEq, Int.reduceDiv, Int.reduceMod, Nat.reduceAdd, Nat.reduceMul, ↓reduceIte, ltd]
  have f5 : ∀ o k : Nat, ¬ (o = 65 ∧ k = 57) → (uI s4 65 57 (Int32.ofInt 1)).1 o k = s4.1 o k := fun o k x => by (simp only [ua, ja, u_2, u_3, j_1, j_3]; (repeat' split) <;> first | rfl | (exfalso; omega))
  -- read to the end
  have hend : ∃ s6, f_X10_board s = f_X10_board_j110 s6 ∧ BFs s4 s6 ∧ RQ (brdS T n) (fun a => (DV a.2.1 a.2.2.1 a.2.2.2 ∧ RD a.2.1 a.2.2.1 a.2.2.2 s6) ∧ s6.1 65 57 = Int32.ofInt a.1 ∧ (1 ≤ a.1 ∧ a.1 ≤ 60) ∧ s6.1 65 5 = Int32.ofInt 0 ∧ s6.1 65 6 = Int32.ofInt (-1)) (fun k p => RB k p s6) := by
    have fs5 : BFs s4 (uI s4 65 57 (Int32.ofInt 1)) := ⟨fun o k _ y => f5 o k y, fun _ _ _ => rfl, rfl⟩
    have ebr : brdS T n = eb (eb (sizS T n (0, false)) (fun a => eb (tkS T n 59 a.2) (fun c => .ok ((a.1, G00, N00), c)))) (fun a => telL T n 59 1 a.1 a.2) := by
      unfold brdS
      cases sizS T n (0, false) with
      | error x => rfl
      | ok a =>
        rw [eb_ok, eb_ok]
        cases tkS T n 59 a.2 with
        | error x => rfl
        | ok c => rfl
    rw [ebr]
    cases e : eb (sizS T n (0, false)) (fun a => eb (tkS T n 59 a.2) (fun c => .ok ((a.1, G00, N00), c))) with
    | error x =>
      rw [e] at q2
      have hB : RB x.1 x.2 (uI s4 65 57 (Int32.ofInt 1)) := RB_fr (q2 : RB x.1 x.2 s4) (f5 65 5 (by omega)) (f5 65 6 (by omega))
      refine ⟨uI s4 65 57 (Int32.ofInt 1), ?_, fs5, hB⟩
      rw [e0, hF, f_X10_board_L88, if_neg hB.ne]
    | ok a =>
      rw [e] at q2
      obtain ⟨⟨u1, u2⟩, u3, u4⟩ := (q2 : (DV a.1.1 a.1.2.1 a.1.2.2 ∧ RD a.1.1 a.1.2.1 a.1.2.2 s4) ∧ RC T n a.2 s4 ∧ WDS s4)
      obtain ⟨s6, w1, w2, w3⟩ := m_tell_L (T := T) (n := n) f_X10_board_j110 59 fuel 1 a.1 a.2 (uI s4 65 57 (Int32.ofInt 1)) (RC_fr u3 (f5 65 2 (by omega)) (f5 65 3 (by omega)) (f5 65 4 (by omega)) (f5 65 5 (by omega)) (f5 65 6 (by omega)) (fun k => f5 66 k (by omega))) (WDS_fr u4 (fun o k ho => f5 o k (by omega))) u1 (RD_fr u2 (fun o k x => f5 o k (by omega)) rfl) (u_eq _ _ _ _) (by omega) (by omega) (by unfold fuel; omega)
      refine ⟨s6, by rw [e0, w1], fs5.tr w2, ?_⟩
      rw [eb_ok]
      exact RQ.mp w3 (fun b _ x => ⟨x.1, x.2.1, x.2.2.1 (by omega), x.2.2.2⟩) (fun _ _ x => x)
  obtain ⟨s6, g1, g2, g3⟩ := hend
  have A6 : BFs (bdS s n) s6 := q3.s.tr g2
  have h65 : s6.1 65 1 = Int32.ofInt 0 := (A6.1 65 1 (by unfold LO; omega) (by omega)).trans ((bdS_f (by omega) (by omega) (by omega) (by omega)).trans (rdS_v s n).2.1)
  have fA : ∀ o k : Nat, ¬ LO o k → ¬ (o = 65 ∧ (k ≤ 10 ∨ k = 57)) → s6.1 o k = s.1 o k := fun o k x y => (A6.1 o k x (by omega)).trans ((bdS_f (by unfold LO at x; omega) (by unfold LO at x; omega) (by unfold LO at x; omega) (by unfold LO at x; omega)).trans (rdS_f (by omega)))
  have fL : ∀ o k : Nat, ¬ (o = 102 ∧ k < 24) → s6.2.1 o k = s.2.1 o k := fun o k x => A6.2.1 o k x
  have fR : s6.2.2 = s.2.2 := A6.2.2
  rw [g1]
  have f7 : ∀ o k : Nat, ¬ (o = 65 ∧ (k = 7 ∨ k = 8)) → (uI (uI s6 65 7 (s6.1 65 5)) 65 8 (s6.1 65 6)).1 o k = s6.1 o k := fun o k x => by (simp only [ua, ja, u_2, u_3, j_1, j_3]; (repeat' split) <;> first | rfl | (exfalso; omega))
  have e66 : (uI s6 65 7 (s6.1 65 5)).1 65 6 = s6.1 65 6 := u_nk (by omega)
  cases eB : brdS T n with
  | error x =>
    rw [eB] at g3
    have g3 : RB x.1 x.2 s6 := g3
    have f8 : ∀ o k : Nat, ¬ (o = 67 ∧ k = 1) → (uI (uI (uI s6 65 7 (s6.1 65 5)) 65 8 (s6.1 65 6)) 67 1 (s.1 67 1 + Int32.ofInt 1)).1 o k = (uI (uI s6 65 7 (s6.1 65 5)) 65 8 (s6.1 65 6)).1 o k := fun o k z => by
      by_cases y : o = 67
      · exact u_nk (by omega)
      · exact u_no y
    have h67 : (uI (uI s6 65 7 (s6.1 65 5)) 65 8 (s6.1 65 6)).1 67 1 = s.1 67 1 := (f7 67 1 (by omega)).trans (fA 67 1 (by unfold LO; omega) (by omega))
    have hne : ¬ (uI (uI s6 65 7 (s6.1 65 5)) 65 8 (s6.1 65 6)).1 65 5 = 0 := by rw [f7 65 5 (by omega)]; exact g3.ne
    refine ⟨Int32.ofInt (-1), uI (uI (uI s6 65 7 (s6.1 65 5)) 65 8 (s6.1 65 6)) 67 1 (s.1 67 1 + Int32.ofInt 1), ?_, ?_, ⟨rfl, ?_, ?_, g3.2.2.1, g3.2.2.2, u_eq _ _ _ _⟩, ⟨fun o k z1 z2 z3 => ?_, fun o k z => fL o k z, fR⟩⟩
    · unfold f_X10_board_j110
      rw [e66, ltd, if_neg hne, n_gd (by omega) (by omega) (by omega), n_gd (by omega) (by omega) (by omega), ltd, ec1, h67]
    · rw [f8 65 1 (by omega), f7 65 1 (by omega)]; exact h65
    · rw [f8 65 7 (by omega), u_nk (by omega), u_eq]; exact g3.1
    · rw [f8 65 8 (by omega), u_eq]; exact g3.2.1
    · rw [f8 o k z3, f7 o k (by omega)]; exact fA o k z1 z2
  | ok a =>
    rw [eB] at g3
    obtain ⟨⟨u1, u2⟩, u3, u4, u5, u6⟩ := (g3 : (DV a.2.1 a.2.2.1 a.2.2.2 ∧ RD a.2.1 a.2.2.1 a.2.2.2 s6) ∧ s6.1 65 57 = Int32.ofInt a.1 ∧ (1 ≤ a.1 ∧ a.1 ≤ 60) ∧ s6.1 65 5 = Int32.ofInt 0 ∧ s6.1 65 6 = Int32.ofInt (-1))
    obtain ⟨s8, w1, w2, w3, w4⟩ := m_stands u1 (RD_fr u2 (s' := uI (uI s6 65 7 (s6.1 65 5)) 65 8 (s6.1 65 6)) (fun o k z => f7 o k (by omega)) rfl)
    have h55 : (uI (uI s6 65 7 (s6.1 65 5)) 65 8 (s6.1 65 6)).1 65 5 = 0 := by rw [f7 65 5 (by omega)]; exact u5
    have h57 : s8.1 65 57 = Int32.ofInt a.1 := (w4.1 65 57 (by omega) (by omega)).trans ((f7 65 57 (by omega)).trans u3)
    refine ⟨Int32.ofInt a.1, s8, ?_, ?_, ⟨rfl, u4⟩, u1, w2, w3, ⟨?_, ?_⟩, ⟨fun o k z1 z2 z3 z4 => ?_, fun o k z => ?_, ?_⟩⟩
    · unfold f_X10_board_j110
      rw [e66, ltd, if_pos h55, w1, bnd, h57]
    · rw [w4.1 65 1 (by omega) (by omega), f7 65 1 (by omega)]; exact h65
    · rw [w4.1 65 7 (by omega) (by omega), u_nk (by omega), u_eq]; exact u5
    · rw [w4.1 65 8 (by omega) (by omega), u_eq]; exact u6
    · rw [w4.1 o k z1 (by omega), f7 o k (by omega)]
      exact fA o k (by unfold LO; omega) (by omega)
    · rw [w4.2.1 o k z]
      exact fL o k (by omega)
    · rw [w4.2.2]
      exact fR
