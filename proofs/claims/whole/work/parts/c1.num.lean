/-! L3: numbers and names on the tape; how the reference reads them -/
def RQ {α : Type} (r : Except (Int × Int) α) (ok : α → Prop) (er : Int → Int → Prop) : Prop :=
  match r with
  | .ok a => ok a
  | .error p => er p.1 p.2
theorem RQ.ok {α : Type} {a : α} {f : α → Prop} {g : Int → Int → Prop} (h : f a) : RQ (.ok a) f g := h
theorem RQ.er {α : Type} {p : Int × Int} {f : α → Prop} {g : Int → Int → Prop} (h : g p.1 p.2) : RQ (.error p) f g := h
theorem RQ.mp {α : Type} {r : Except (Int × Int) α} {f f' : α → Prop} {g g' : Int → Int → Prop} (h : RQ r f g) (h1 : ∀ a, r = .ok a → f a → f' a) (h2 : ∀ k p, g k p → g' k p) : RQ r f' g' := by
  cases r with
  | ok a => exact h1 a rfl h
  | error p => exact h2 _ _ h
def dv (T : Int → Int) : Nat → Int → Int → Int
  | 0, _, v => v
  | k + 1, a, v => dv T k (a + 1) (10 * v + T a - 48)
def pw10 : Nat → Int
  | 0 => 1
  | k + 1 => 10 * pw10 k
theorem pw10_p : ∀ k : Nat, 1 ≤ pw10 k
  | 0 => by decide
  | k + 1 => by
    have := pw10_p k
    show 1 ≤ 10 * pw10 k
    omega
theorem dv_b {T : Int → Int} : ∀ (k : Nat) (a v : Int), (∀ j, a ≤ j → j < a + k → isD (T j) = true) → 0 ≤ v → 0 ≤ dv T k a v ∧ dv T k a v ≤ v * pw10 k + (pw10 k - 1)
  | 0, a, v, _, v0 => by
    show 0 ≤ v ∧ v ≤ v * 1 + (1 - 1)
    omega
  | k + 1, a, v, h, v0 => by
    have hd : 48 ≤ T a ∧ T a ≤ 57 := of_decide_eq_true (h a (by omega) (by omega))
    obtain ⟨h1, h2⟩ := dv_b (T := T) k (a + 1) (10 * v + T a - 48) (fun j j0 j1 => h j (by omega) (by omega)) (by omega)
    have hp := pw10_p k
    show 0 ≤ dv T k (a + 1) (10 * v + T a - 48) ∧ dv T k (a + 1) (10 * v + T a - 48) ≤ v * (10 * pw10 k) + (10 * pw10 k - 1)
    refine ⟨h1, ?_⟩
    have e1 : (10 * v + T a - 48) * pw10 k ≤ (10 * v + 9) * pw10 k := Int.mul_le_mul_of_nonneg_right (by omega) (by omega)
    have e2 : (10 * v + 9) * pw10 k = v * (10 * pw10 k) + 9 * pw10 k := by
      rw [Int.add_mul, Int.mul_comm 10 v, Int.mul_assoc]
    omega
def nmB (T : Int → Int) (n : Int) (c : Cur) : Bool := (decide (frm T n c < n) && isD (T (frm T n c))) && !adj T n c
def nmE (T : Int → Int) (n : Int) (c : Cur) : Int := sk isD T n (frm T n c)
def nmV (T : Int → Int) (n : Int) (c : Cur) : Int := dv T (nmE T n c - frm T n c).toNat (frm T n c) 0
def nxN (T : Int → Int) (n : Int) (c : Cur) : Cur := (nmE T n c, true)
def numS (T : Int → Int) (n : Int) (c : Cur) (lo hi : Int) : Except (Int × Int) (Int × Cur) :=
  if nmB T n c = true then (if nmE T n c - frm T n c ≤ 4 then (if lo ≤ nmV T n c ∧ nmV T n c ≤ hi then .ok (nmV T n c, nxN T n c) else .error (2, frm T n c)) else .error (1, frm T n c + 4)) else .error (1, frm T n c)
theorem nmE_b {T : Int → Int} {n : Int} {c : Cur} (h : nmB T n c = true) (c1 : c.1 ≤ n) : frm T n c < nmE T n c ∧ nmE T n c ≤ n ∧ ∀ j, frm T n c ≤ j → j < nmE T n c → isD (T j) = true := by
  unfold nmB at h
  rw [Bool.and_eq_true, Bool.and_eq_true, decide_eq_true_iff] at h
  obtain ⟨⟨h1, h2⟩, -⟩ := h
  unfold nmE
  obtain ⟨k1, k2, k3, -⟩ := sk_b (p := isD) (T := T) (n := n) _ (frm T n c) rfl
  have k4 := sk_t h1 h2
  obtain ⟨k5, -, -, -⟩ := sk_b (p := isD) (T := T) (n := n) _ (frm T n c + 1) rfl
  exact ⟨by omega, k2 (by omega), k3⟩
theorem nmV_b {T : Int → Int} {n : Int} {c : Cur} (h : nmB T n c = true) (c1 : c.1 ≤ n) (h4 : nmE T n c - frm T n c ≤ 4) : 0 ≤ nmV T n c ∧ nmV T n c ≤ 9999 := by
  obtain ⟨a, b, d⟩ := nmE_b h c1
  unfold nmV
  obtain ⟨e1, e2⟩ := dv_b (T := T) (nmE T n c - frm T n c).toNat (frm T n c) 0 (fun j j0 j1 => d j j0 (by omega)) (by omega)
  refine ⟨e1, ?_⟩
  have : (nmE T n c - frm T n c).toNat = 1 ∨ (nmE T n c - frm T n c).toNat = 2 ∨ (nmE T n c - frm T n c).toNat = 3 ∨ (nmE T n c - frm T n c).toNat = 4 := by omega
  rcases this with e | e | e | e
  · rw [e] at e2 ⊢
    have : pw10 1 = 10 := rfl
    omega
  · rw [e] at e2 ⊢
    have : pw10 2 = 100 := rfl
    omega
  · rw [e] at e2 ⊢
    have : pw10 3 = 1000 := rfl
    omega
  · rw [e] at e2 ⊢
    have : pw10 4 = 10000 := rfl
    omega
theorem m_num_L {T : Int → Int} {n d b : Int} (b0 : 0 ≤ b) (K1 : ST → Option (Int32 × ST)) (K2 : Int32 → Int32 → Int32 → Int32 → ST → Option (Int32 × ST)) (x1 x2 : Int32) : ∀ (m F : Nat) (a v : Int) (s : ST), RX T n a d s → b ≤ a → a ≤ b + 4 → (n - a).toNat = m → m < F → ∃ s', RFa s s' ∧ (sk isD T n a - b ≤ 4 → f_X10_number_L49 K1 K2 F x1 x2 (Int32.ofInt b) (Int32.ofInt v) s = K2 x1 x2 (Int32.ofInt b) (Int32.ofInt (dv T (sk isD T n a - a).toNat a v)) s' ∧ RX T n (sk isD T n a) d s') ∧ (4 < sk isD T n a - b → f_X10_number_L49 K1 K2 F x1 x2 (Int32.ofInt b) (Int32.ofInt v) s = K1 s' ∧ RX T n (b + 4) d s') := by
  intro m
  induction m with
  | zero =>
    intro F a v s h ba ab hm hF
    obtain ⟨F, rfl⟩ : ∃ F', F = F' + 1 := ⟨F - 1, by omega⟩
    have h' := h
    obtain ⟨⟨h1, h3, h4⟩, ⟨h5, h5b, h5c⟩, h6, h7⟩ := h'
    have e : sk isD T n a = a := sk_ge (by omega)
    rw [e]
    refine ⟨s, ⟨fun _ _ _ => rfl, rfl⟩, fun _ => ⟨?_, h⟩, fun _ => by omega⟩
    rw [show (a - a).toNat = 0 by omega]
    simp (disch := omega) only [f_X10_number_L49, h3, h5, dv, n_i8, n_i16, n_0, n_31, n_add, n_sub, n_mul, n_neg, n_div, n_rem, n_le_t, n_le_f, n_lt_t, n_lt_f, n_eq_t, n_eq_f, n_cl, n_gd, n_gdt, n_nz, Int.reduceToNat, Int.reduceAdd, Int.reduceSub, Int.reduceMul, Int.reduceNeg, Int.reduceLT, Int.reduceLE, Int.reduceEq, Int.reduceDiv, Int.reduceMod, Nat.reduceAdd, Nat.reduceMul, ↓reduceIte, u_eq, u_no, u_nk, u_ek, u_2, u_3, j_1, j_3, j_eq, j_no, j_nk, ltd, bnd]
  | succ m ih =>
    intro F a v s h ba ab hm hF
    obtain ⟨F, rfl⟩ : ∃ F', F = F' + 1 := ⟨F - 1, by omega⟩
    have h' := h
    obtain ⟨⟨h1, h3, h4⟩, ⟨h5, h5b, h5c⟩, h6, h7⟩ := h'
    obtain ⟨t1, t2⟩ := h1 a h5b (by omega)
    have hdg := m_isDig (v := T a) (by omega) (by omega) s
    cases e : isD (T a) with
    | false =>
      rw [e] at hdg
      rw [sk_f e]
      refine ⟨s, ⟨fun _ _ _ => rfl, rfl⟩, fun _ => ⟨?_, h⟩, fun _ => by omega⟩
      rw [show (a - a).toNat = 0 by omega]
      simp (disch := omega) only [f_X10_number_L49, h3, h5, t1, hdg, bI_f, dv, n_i8, n_i16, n_0, n_31, n_add, n_sub, n_mul, n_neg, n_div, n_rem, n_le_t, n_le_f, n_lt_t, n_lt_f, n_eq_t, n_eq_f, n_cl, n_gd, n_gdt, n_nz, Int.reduceToNat, Int.reduceAdd, Int.reduceSub, Int.reduceMul, Int.reduceNeg, Int.reduceLT, Int.reduceLE, Int.reduceEq, Int.reduceDiv, Int.reduceMod, Nat.reduceAdd, Nat.reduceMul, ↓reduceIte, u_eq, u_no, u_nk, u_ek, u_2, u_3, j_1, j_3, j_eq, j_no, j_nk, ltd, bnd]
    | true =>
      rw [e] at hdg
      obtain ⟨sb1, sb2, -, -⟩ := sk_b (p := isD) (T := T) (n := n) _ (a + 1) rfl
      rw [sk_t (by omega) e]
      by_cases e4 : a = b + 4
      · refine ⟨s, ⟨fun _ _ _ => rfl, rfl⟩, fun _ => by omega, fun _ => ⟨?_, by rw [← e4]; exact h⟩⟩
        simp (disch := omega) only [f_X10_number_L49, h3, h5, t1, hdg, bI_t, n_i8, n_i16, n_0, n_31, n_add, n_sub, n_mul, n_neg, n_div, n_rem, n_le_t, n_le_f, n_lt_t, n_lt_f, n_eq_t, n_eq_f, n_cl, n_gd, n_gdt, n_nz, Int.reduceToNat, Int.reduceAdd, Int.reduceSub, Int.reduceMul, Int.reduceNeg, Int.reduceLT, Int.reduceLE, Int.reduceEq, Int.reduceDiv, Int.reduceMod, Nat.reduceAdd, Nat.reduceMul, ↓reduceIte, u_eq, u_no, u_nk, u_ek, u_2, u_3, j_1, j_3, j_eq, j_no, j_nk, ltd, bnd]
      · have hfa : RFa s (uI s 65 2 (Int32.ofInt (a + 1))) := ⟨fun o k x => by (simp only [ua, ja, u_2, u_3, j_1, j_3]; (repeat' split) <;> first | rfl | (exfalso; omega)), rfl⟩
        obtain ⟨s', q1, q2, q3⟩ := ih F (a + 1) (10 * v + T a - 48) _ (RX_a h (u_eq _ _ _ _) (by omega) (by omega) hfa) (by omega) (by omega) (by omega) (by omega)
        have es : f_X10_number_L49 K1 K2 (F + 1) x1 x2 (Int32.ofInt b) (Int32.ofInt v) s = f_X10_number_L49 K1 K2 F x1 x2 (Int32.ofInt b) (Int32.ofInt (10 * v + T a - 48)) (uI s 65 2 (Int32.ofInt (a + 1))) := by
          rw [f_X10_number_L49]
          simp (disch := omega) only [h3, h5, t1, hdg, bI_t, n_i8, n_i16, n_0, n_31, n_add, n_sub, n_mul, n_neg, n_div, n_rem, n_le_t, n_le_f, n_lt_t, n_lt_f, n_eq_t, n_eq_f, n_cl, n_gd, n_gdt, n_nz, Int.reduceToNat, Int.reduceAdd, Int.reduceSub, Int.reduceMul, Int.reduceNeg, Int.reduceLT, Int.reduceLE, Int.reduceEq, Int.reduceDiv, Int.reduceMod, Nat.reduceAdd, Nat.reduceMul, ↓reduceIte, u_eq, u_no, u_nk, u_ek, u_2, u_3, j_1, j_3, j_eq, j_no, j_nk, ltd, bnd]
        rw [es]
        refine ⟨s', ⟨fun o k x => (q1.1 o k x).trans (hfa.1 o k x), q1.2.trans hfa.2⟩, fun x => ?_, q3⟩
        rw [show (sk isD T n (a + 1) - a).toNat = (sk isD T n (a + 1) - (a + 1)).toNat + 1 by omega]
        exact q2 x
theorem m_number {T : Int → Int} {n : Int} {c : Cur} {s : ST} (h : RC T n c s) {lo hi : Int} (l0 : -1000000 ≤ lo) (l1 : lo ≤ 1000000) (h0 : -1000000 ≤ hi) (h1 : hi ≤ 1000000) : ∃ v s', f_X10_number (Int32.ofInt lo) (Int32.ofInt hi) s = some (v, s') ∧ RPf s s' ∧ RQ (numS T n c lo hi) (fun r => v = Int32.ofInt r.1 ∧ RC T n r.2 s' ∧ s'.1 65 10 = Int32.ofInt (frm T n c)) (fun k p => RB k p s') := by
  have hbad := h.b.1
  obtain ⟨s1, q1, q2, q3⟩ := m_look h
  have hq := q2
  obtain ⟨d, hx, hc⟩ := q2
  have hx' := hx
  obtain ⟨⟨t1, t3, t4⟩, ⟨h5, h5b, h5c⟩, ⟨h6, h6b, h6c⟩, h7⟩ := hx'
  have hlb := lkV_b t1 h5b
  have hdg := m_isDig (v := lkV T n (frm T n c)) (by omega) (by omega) s1
  have had := adj_d hc
  have hcn : c.1 ≤ n := hc.2.1.2
  obtain ⟨sf, f1, f2, f3⟩ := m_fail (k := 1) (p := frm T n c) hq.b.1 (by omega) (by omega)
  have ej30 : f_X10_number_j30 s1 = some (Int32.ofInt 0, sf) := by
    simp (disch := omega) only [f_X10_number_j30, h5, f1, n_i8, n_i16, n_0, n_31, n_add, n_sub, n_mul, n_neg, n_div, n_rem, n_le_t, n_le_f, n_lt_t, n_lt_f, n_eq_t, n_eq_f, n_cl, n_gd, n_gdt, n_nz, Int.reduceToNat, Int.reduceAdd, Int.reduceSub, Int.reduceMul, Int.reduceNeg, Int.reduceLT, Int.reduceLE, Int.reduceEq, Int.reduceDiv, Int.reduceMod, Nat.reduceAdd, Nat.reduceMul, ↓reduceIte, u_eq, u_no, u_nk, u_ek, u_2, u_3, j_1, j_3, j_eq, j_no, j_nk, ltd, bnd]
  have ef : f_X10_number (Int32.ofInt lo) (Int32.ofInt hi) s = (if bI (isD (lkV T n (frm T n c))) = 0 then f_X10_number_j30 s1 else (if (s1.1 65 2) = (s1.1 65 4) then f_X10_number_j30 s1 else (f_X10_number_L49 f_X10_number_j85 f_X10_number_j129 fuel) (Int32.ofInt lo) (Int32.ofInt hi) (s1.1 65 2) (Int32.ofInt 0) s1)) := by
    simp (disch := omega) only [f_X10_number, hbad, q1, hdg, n_i8, n_i16, n_0, n_31, n_add, n_sub, n_mul, n_neg, n_div, n_rem, n_le_t, n_le_f, n_lt_t, n_lt_f, n_eq_t, n_eq_f, n_cl, n_gd, n_gdt, n_nz, Int.reduceToNat, Int.reduceAdd, Int.reduceSub, Int.reduceMul, Int.reduceNeg, Int.reduceLT, Int.reduceLE, Int.reduceEq, Int.reduceDiv, Int.reduceMod, Nat.reduceAdd, Nat.reduceMul, ↓reduceIte, u_eq, u_no, u_nk, u_ek, u_2, u_3, j_1, j_3, j_eq, j_no, j_nk, ltd, bnd]
  rw [ef]
  unfold numS
  cases eB : nmB T n c with
  | false =>
    refine ⟨Int32.ofInt 0, sf, ?_, q3.rp.tr f3, RQ.er f2⟩
    rw [ej30]
    unfold nmB at eB
    by_cases e1 : frm T n c < n
    · have elk : lkV T n (frm T n c) = T (frm T n c) := by unfold lkV; rw [if_pos e1]
      rw [elk]
      rw [decide_eq_true e1, Bool.true_and] at eB
      cases e2 : isD (T (frm T n c)) with
      | false => simp (disch := omega) only [bI_f, n_i8, n_i16, n_0, n_31, n_add, n_sub, n_mul, n_neg, n_div, n_rem, n_le_t, n_le_f, n_lt_t, n_lt_f, n_eq_t, n_eq_f, n_cl, n_gd, n_gdt, n_nz, Int.reduceToNat, Int.reduceAdd, Int.reduceSub, Int.reduceMul, Int.reduceNeg, Int.reduceLT, Int.reduceLE, Int.reduceEq, Int.reduceDiv, Int.reduceMod, Nat.reduceAdd, Nat.reduceMul, ↓reduceIte, u_eq, u_no, u_nk, u_ek, u_2, u_3, j_1, j_3, j_eq, j_no, j_nk, ltd, bnd]
      | true =>
        rw [e2, Bool.true_and] at eB
        have e3 : adj T n c = true := by
          cases x : adj T n c with
          | true => rfl
          | false => rw [x] at eB; cases eB
        have := had.mp e3
        simp (disch := omega) only [h5, h6, bI_t, n_i8, n_i16, n_0, n_31, n_add, n_sub, n_mul, n_neg, n_div, n_rem, n_le_t, n_le_f, n_lt_t, n_lt_f, n_eq_t, n_eq_f, n_cl, n_gd, n_gdt, n_nz, Int.reduceToNat, Int.reduceAdd, Int.reduceSub, Int.reduceMul, Int.reduceNeg, Int.reduceLT, Int.reduceLE, Int.reduceEq, Int.reduceDiv, Int.reduceMod, Nat.reduceAdd, Nat.reduceMul, ↓reduceIte, u_eq, u_no, u_nk, u_ek, u_2, u_3, j_1, j_3, j_eq, j_no, j_nk, ltd, bnd]
    · have elk : lkV T n (frm T n c) = -1 := by unfold lkV; rw [if_neg e1]
      rw [elk, show isD (-1) = false by decide]
      simp (disch := omega) only [bI_f, n_i8, n_i16, n_0, n_31, n_add, n_sub, n_mul, n_neg, n_div, n_rem, n_le_t, n_le_f, n_lt_t, n_lt_f, n_eq_t, n_eq_f, n_cl, n_gd, n_gdt, n_nz, Int.reduceToNat, Int.reduceAdd, Int.reduceSub, Int.reduceMul, Int.reduceNeg, Int.reduceLT, Int.reduceLE, Int.reduceEq, Int.reduceDiv, Int.reduceMod, Nat.reduceAdd, Nat.reduceMul, ↓reduceIte, u_eq, u_no, u_nk, u_ek, u_2, u_3, j_1, j_3, j_eq, j_no, j_nk, ltd, bnd]
  | true =>
    have hE := nmE_b eB hcn
    have eB' := eB
    unfold nmB at eB'
    rw [Bool.and_eq_true, Bool.and_eq_true, decide_eq_true_iff] at eB'
    obtain ⟨⟨e1, e2⟩, e3⟩ := eB'
    have elk : lkV T n (frm T n c) = T (frm T n c) := by unfold lkV; rw [if_pos e1]
    have hnd : ¬ frm T n c = d := fun x => by rw [had.mpr x] at e3; cases e3
    obtain ⟨s2, r1, r2, r3⟩ := m_num_L h5b f_X10_number_j85 f_X10_number_j129 (Int32.ofInt lo) (Int32.ofInt hi) (n - frm T n c).toNat fuel (frm T n c) 0 s1 hx (by omega) (by omega) rfl (by unfold fuel; omega)
    have ef2 : (if bI (isD (lkV T n (frm T n c))) = 0 then f_X10_number_j30 s1 else (if (s1.1 65 2) = (s1.1 65 4) then f_X10_number_j30 s1 else (f_X10_number_L49 f_X10_number_j85 f_X10_number_j129 fuel) (Int32.ofInt lo) (Int32.ofInt hi) (s1.1 65 2) (Int32.ofInt 0) s1)) = (f_X10_number_L49 f_X10_number_j85 f_X10_number_j129 fuel) (Int32.ofInt lo) (Int32.ofInt hi) (Int32.ofInt (frm T n c)) (Int32.ofInt 0) s1 := by
      rw [elk, e2]
      simp (disch := omega) only [h5, h6, bI_t, n_i8, n_i16, n_0, n_31, n_add, n_sub, n_mul, n_neg, n_div, n_rem, n_le_t, n_le_f, n_lt_t, n_lt_f, n_eq_t, n_eq_f, n_cl, n_gd, n_gdt, n_nz, Int.reduceToNat, Int.reduceAdd, Int.reduceSub, Int.reduceMul, Int.reduceNeg, Int.reduceLT, Int.reduceLE, Int.reduceEq, Int.reduceDiv, Int.reduceMod, Nat.reduceAdd, Nat.reduceMul, ↓reduceIte, u_eq, u_no, u_nk, u_ek, u_2, u_3, j_1, j_3, j_eq, j_no, j_nk, ltd, bnd]
    rw [ef2]
    simp only [↓reduceIte]
    by_cases e4 : nmE T n c - frm T n c ≤ 4
    · rw [if_pos e4]
      obtain ⟨g1, g2⟩ := r2 e4
      rw [g1]
      have hvb := nmV_b eB hcn e4
      have eV : dv T (sk isD T n (frm T n c) - frm T n c).toNat (frm T n c) 0 = nmV T n c := rfl
      have eE : sk isD T n (frm T n c) = nmE T n c := rfl
      rw [eV]
      rw [eE] at g2
      obtain ⟨⟨u1, u3, u4⟩, ⟨u5, u5b, u5c⟩, ⟨u6, u6b, u6c⟩, u7⟩ := g2
      have hf : RPf s2 (uI (uI s2 65 4 (Int32.ofInt (nmE T n c))) 65 10 (Int32.ofInt (frm T n c))) := ⟨fun o k x => by (simp only [ua, ja, u_2, u_3, j_1, j_3]; (repeat' split) <;> first | rfl | (exfalso; omega)), rfl⟩
      have hRC : RC T n (nxN T n c) (uI (uI s2 65 4 (Int32.ofInt (nmE T n c))) 65 10 (Int32.ofInt (frm T n c))) := by
        refine ⟨nmE T n c, nmE T n c, ⟨⟨fun j j0 j1 => ⟨(hf.1 66 _ (by omega)).trans (u1 j j0 j1).1, (u1 j j0 j1).2⟩, (hf.1 65 3 (by omega)).trans u3, u4⟩, ⟨?_, by omega, by omega⟩, ⟨?_, by omega, by omega⟩, ?_, ?_⟩, Or.inl rfl, ⟨?_, hE.2.1⟩, fun _ => rfl, fun x => (by cases x)⟩
        · rw [u_nk (by omega), u_nk (by omega)]; exact u5
        · rw [u_nk (by omega), u_eq]
        · rw [u_nk (by omega), u_nk (by omega)]; exact u7.1
        · rw [u_nk (by omega), u_nk (by omega)]; exact u7.2
        · show (0 : Int) ≤ nmE T n c
          omega
      have hisI := m_isIn (s := uI (uI s2 65 4 (Int32.ofInt (nmE T n c))) 65 10 (Int32.ofInt (frm T n c))) (v := nmV T n c) (a := lo) (b := hi) (by omega) (by omega) (by omega) (by omega) (by omega) (by omega)
      have q23 : RPf s s2 := q3.rp.tr r1.rp
      by_cases e5 : lo ≤ nmV T n c ∧ nmV T n c ≤ hi
      · rw [if_pos e5]
        rw [decide_eq_true e5] at hisI
        refine ⟨Int32.ofInt (nmV T n c), _, ?_, q23.tr hf, RQ.ok ⟨rfl, hRC, u_eq _ _ _ _⟩⟩
        simp (disch := omega) only [f_X10_number_j129, u5, l_i, hisI, bI_t, n_i8, n_i16, n_0, n_31, n_add, n_sub, n_mul, n_neg, n_div, n_rem, n_le_t, n_le_f, n_lt_t, n_lt_f, n_eq_t, n_eq_f, n_cl, n_gd, n_gdt, n_nz, Int.reduceToNat, Int.reduceAdd, Int.reduceSub, Int.reduceMul, Int.reduceNeg, Int.reduceLT, Int.reduceLE, Int.reduceEq, Int.reduceDiv, Int.reduceMod, Nat.reduceAdd, Nat.reduceMul, ↓reduceIte, u_eq, u_no, u_nk, u_ek, u_2, u_3, j_1, j_3, j_eq, j_no, j_nk, ltd, bnd]
      · rw [if_neg e5]
        rw [decide_eq_false e5] at hisI
        obtain ⟨s3, w1, w2, w3⟩ := m_fail (k := 2) (p := frm T n c) hRC.b.1 (by omega) (by omega)
        refine ⟨Int32.ofInt (nmV T n c), s3, ?_, (q23.tr hf).tr w3, RQ.er w2⟩
        simp (disch := omega) only [f_X10_number_j129, u5, l_i, hisI, w1, bI_f, n_i8, n_i16, n_0, n_31, n_add, n_sub, n_mul, n_neg, n_div, n_rem, n_le_t, n_le_f, n_lt_t, n_lt_f, n_eq_t, n_eq_f, n_cl, n_gd, n_gdt, n_nz, Int.reduceToNat, Int.reduceAdd, Int.reduceSub, Int.reduceMul, Int.reduceNeg, Int.reduceLT, Int.reduceLE, Int.reduceEq, Int.reduceDiv, Int.reduceMod, Nat.reduceAdd, Nat.reduceMul, ↓reduceIte, u_eq, u_no, u_nk, u_ek, u_2, u_3, j_1, j_3, j_eq, j_no, j_nk, ltd, bnd]
    · rw [if_neg e4]
      obtain ⟨g1, g2⟩ := r3 (by unfold nmE at e4; omega)
      rw [g1]
      obtain ⟨⟨u1, u3, u4⟩, ⟨u5, u5b, u5c⟩, ⟨u6, u6b, u6c⟩, u7⟩ := g2
      obtain ⟨s3, w1, w2, w3⟩ := m_fail (k := 1) (p := frm T n c + 4) u7.1 (by omega) (by omega)
      refine ⟨Int32.ofInt 0, s3, ?_, (q3.rp.tr r1.rp).tr w3, RQ.er w2⟩
      simp (disch := omega) only [f_X10_number_j85, u5, w1, n_i8, n_i16, n_0, n_31, n_add, n_sub, n_mul, n_neg, n_div, n_rem, n_le_t, n_le_f, n_lt_t, n_lt_f, n_eq_t, n_eq_f, n_cl, n_gd, n_gdt, n_nz, Int.reduceToNat, Int.reduceAdd, Int.reduceSub, Int.reduceMul, Int.reduceNeg, Int.reduceLT, Int.reduceLE, Int.reduceEq, Int.reduceDiv, Int.reduceMod, Nat.reduceAdd, Nat.reduceMul, ↓reduceIte, u_eq, u_no, u_nk, u_ek, u_2, u_3, j_1, j_3, j_eq, j_no, j_nk, ltd, bnd]
theorem m_numberB {k p : Int} {s : ST} (h : RB k p s) (a b : Int32) : f_X10_number a b s = some (Int32.ofInt 0, s) := by
  unfold f_X10_number
  rw [if_neg h.ne]
/-! names -/
def ownw (T : Int → Int) (n : Int) (c : Cur) : Bool := (WD.take 33).any (fun l => decide (wd T n c = l))
def lets (T : Int → Int) (n : Int) (c : Cur) : List Int := (wd T n c).map (fun v => v - 96)
def namS (T : Int → Int) (n : Int) (c : Cur) : Except (Int × Int) (List Int × Cur) :=
  if (isW T n c && !ownw T n c) = true then (if sk isL T n (frm T n c) - frm T n c ≤ 6 then .ok (lets T n c, nxW T n c) else .error (1, frm T n c + 6)) else .error (1, frm T n c)
theorem bI_if {α : Type} (b : Bool) (x y : α) : (if bI b = 0 then x else y) = (if b = true then y else x) := by
  cases b
  · rw [if_pos (show bI false = 0 by decide), if_neg (by decide)]
  · rw [if_neg (show ¬ bI true = 0 by decide), if_pos rfl]
theorem or_if (b x : Bool) (s : ST) : (if b = true then some (Int32.ofInt 1, s) else some (bI x, s)) = some (bI (b || x), s) := by
  cases b
  · rw [if_neg (by decide), Bool.false_or]
  · rw [if_pos rfl, Bool.true_or]; rfl
theorem or_0 (b : Bool) (s : ST) : (if b = true then some (Int32.ofInt 1, s) else some (Int32.ofInt 0, s)) = some (bI (b || false), s) := by
  cases b
  · rfl
  · rfl
theorem m_own {T : Int → Int} {n : Int} {c : Cur} {s : ST} (h : RLk T n c s) (hw : WDS s) : f_X10_isOwnHere s = some (bI (isW T n c && ownw T n c), s) := by
  have w0 : f_X10_isHere 68 s = some (bI (isWL T n c (WDl 0)), s) := m_isHereL h hw (o := 68) (by unfold wce; omega)
  have w1 : f_X10_isHere 69 s = some (bI (isWL T n c (WDl 1)), s) := m_isHereL h hw (o := 69) (by unfold wce; omega)
  have w2 : f_X10_isHere 70 s = some (bI (isWL T n c (WDl 2)), s) := m_isHereL h hw (o := 70) (by unfold wce; omega)
  have w3 : f_X10_isHere 71 s = some (bI (isWL T n c (WDl 3)), s) := m_isHereL h hw (o := 71) (by unfold wce; omega)
  have w4 : f_X10_isHere 72 s = some (bI (isWL T n c (WDl 4)), s) := m_isHereL h hw (o := 72) (by unfold wce; omega)
  have w5 : f_X10_isHere 73 s = some (bI (isWL T n c (WDl 5)), s) := m_isHereL h hw (o := 73) (by unfold wce; omega)
  have w6 : f_X10_isHere 74 s = some (bI (isWL T n c (WDl 6)), s) := m_isHereL h hw (o := 74) (by unfold wce; omega)
  have w7 : f_X10_isHere 75 s = some (bI (isWL T n c (WDl 7)), s) := m_isHereL h hw (o := 75) (by unfold wce; omega)
  have w8 : f_X10_isHere 76 s = some (bI (isWL T n c (WDl 8)), s) := m_isHereL h hw (o := 76) (by unfold wce; omega)
  have w9 : f_X10_isHere 77 s = some (bI (isWL T n c (WDl 9)), s) := m_isHereL h hw (o := 77) (by unfold wce; omega)
  have w10 : f_X10_isHere 78 s = some (bI (isWL T n c (WDl 10)), s) := m_isHereL h hw (o := 78) (by unfold wce; omega)
  have w11 : f_X10_isHere 79 s = some (bI (isWL T n c (WDl 11)), s) := m_isHereL h hw (o := 79) (by unfold wce; omega)
  have w12 : f_X10_isHere 80 s = some (bI (isWL T n c (WDl 12)), s) := m_isHereL h hw (o := 80) (by unfold wce; omega)
  have w13 : f_X10_isHere 81 s = some (bI (isWL T n c (WDl 13)), s) := m_isHereL h hw (o := 81) (by unfold wce; omega)
  have w14 : f_X10_isHere 82 s = some (bI (isWL T n c (WDl 14)), s) := m_isHereL h hw (o := 82) (by unfold wce; omega)
  have w15 : f_X10_isHere 83 s = some (bI (isWL T n c (WDl 15)), s) := m_isHereL h hw (o := 83) (by unfold wce; omega)
  have w16 : f_X10_isHere 84 s = some (bI (isWL T n c (WDl 16)), s) := m_isHereL h hw (o := 84) (by unfold wce; omega)
  have w17 : f_X10_isHere 85 s = some (bI (isWL T n c (WDl 17)), s) := m_isHereL h hw (o := 85) (by unfold wce; omega)
  have w18 : f_X10_isHere 86 s = some (bI (isWL T n c (WDl 18)), s) := m_isHereL h hw (o := 86) (by unfold wce; omega)
  have w19 : f_X10_isHere 87 s = some (bI (isWL T n c (WDl 19)), s) := m_isHereL h hw (o := 87) (by unfold wce; omega)
  have w20 : f_X10_isHere 88 s = some (bI (isWL T n c (WDl 20)), s) := m_isHereL h hw (o := 88) (by unfold wce; omega)
  have w21 : f_X10_isHere 89 s = some (bI (isWL T n c (WDl 21)), s) := m_isHereL h hw (o := 89) (by unfold wce; omega)
  have w22 : f_X10_isHere 90 s = some (bI (isWL T n c (WDl 22)), s) := m_isHereL h hw (o := 90) (by unfold wce; omega)
  have w23 : f_X10_isHere 91 s = some (bI (isWL T n c (WDl 23)), s) := m_isHereL h hw (o := 91) (by unfold wce; omega)
  have w24 : f_X10_isHere 92 s = some (bI (isWL T n c (WDl 24)), s) := m_isHereL h hw (o := 92) (by unfold wce; omega)
  have w25 : f_X10_isHere 93 s = some (bI (isWL T n c (WDl 25)), s) := m_isHereL h hw (o := 93) (by unfold wce; omega)
  have w26 : f_X10_isHere 94 s = some (bI (isWL T n c (WDl 26)), s) := m_isHereL h hw (o := 94) (by unfold wce; omega)
  have w27 : f_X10_isHere 95 s = some (bI (isWL T n c (WDl 27)), s) := m_isHereL h hw (o := 95) (by unfold wce; omega)
  have w28 : f_X10_isHere 96 s = some (bI (isWL T n c (WDl 28)), s) := m_isHereL h hw (o := 96) (by unfold wce; omega)
  have w29 : f_X10_isHere 97 s = some (bI (isWL T n c (WDl 29)), s) := m_isHereL h hw (o := 97) (by unfold wce; omega)
  have w30 : f_X10_isHere 98 s = some (bI (isWL T n c (WDl 30)), s) := m_isHereL h hw (o := 98) (by unfold wce; omega)
  have w31 : f_X10_isHere 99 s = some (bI (isWL T n c (WDl 31)), s) := m_isHereL h hw (o := 99) (by unfold wce; omega)
  have w32 : f_X10_isHere 100 s = some (bI (isWL T n c (WDl 32)), s) := m_isHereL h hw (o := 100) (by unfold wce; omega)
  have j1 : f_X10_isOwnHere_j375 (Int32.ofInt 1) s = some (Int32.ofInt 1, s) := rfl
  have j2 : f_X10_isOwnHere_j299 (Int32.ofInt 1) s = some (Int32.ofInt 1, s) := rfl
  have j3 : f_X10_isOwnHere_j223 (Int32.ofInt 1) s = some (Int32.ofInt 1, s) := rfl
  have j4 : f_X10_isOwnHere_j147 (Int32.ofInt 1) s = some (Int32.ofInt 1, s) := rfl
  have j5 : f_X10_isOwnHere_j71 (Int32.ofInt 1) s = some (Int32.ofInt 1, s) := rfl
  have e0 : (Int32.ofInt 0 = (0 : Int32)) = True := eq_true rfl
  obtain ⟨xj375, hxj375⟩ : ∃ x : Bool, x = (isWL T n c (WDl 30) || (isWL T n c (WDl 31) || (isWL T n c (WDl 32) || false))) := ⟨_, rfl⟩
  have kj375 : f_X10_isOwnHere_j375 (Int32.ofInt 0) s = some (bI xj375, s) := by
    rw [hxj375]
    simp only [f_X10_isOwnHere_j375, e0, ↓reduceIte, bnd, bI_if, or_if, or_0, j1, j2, j3, j4, j5, w30, w31, w32]
  obtain ⟨xj299, hxj299⟩ : ∃ x : Bool, x = (isWL T n c (WDl 24) || (isWL T n c (WDl 25) || (isWL T n c (WDl 26) || (isWL T n c (WDl 27) || (isWL T n c (WDl 28) || (isWL T n c (WDl 29) || xj375)))))) := ⟨_, rfl⟩
  have kj299 : f_X10_isOwnHere_j299 (Int32.ofInt 0) s = some (bI xj299, s) := by
    rw [hxj299]
    simp only [f_X10_isOwnHere_j299, e0, ↓reduceIte, bnd, bI_if, or_if, or_0, j1, j2, j3, j4, j5, w24, w25, w26, w27, w28, w29, kj375]
  obtain ⟨xj223, hxj223⟩ : ∃ x : Bool, x = (isWL T n c (WDl 18) || (isWL T n c (WDl 19) || (isWL T n c (WDl 20) || (isWL T n c (WDl 21) || (isWL T n c (WDl 22) || (isWL T n c (WDl 23) || xj299)))))) := ⟨_, rfl⟩
  have kj223 : f_X10_isOwnHere_j223 (Int32.ofInt 0) s = some (bI xj223, s) := by
    rw [hxj223]
    simp only [f_X10_isOwnHere_j223, e0, ↓reduceIte, bnd, bI_if, or_if, or_0, j1, j2, j3, j4, j5, w18, w19, w20, w21, w22, w23, kj299]
  obtain ⟨xj147, hxj147⟩ : ∃ x : Bool, x = (isWL T n c (WDl 12) || (isWL T n c (WDl 13) || (isWL T n c (WDl 14) || (isWL T n c (WDl 15) || (isWL T n c (WDl 16) || (isWL T n c (WDl 17) || xj223)))))) := ⟨_, rfl⟩
  have kj147 : f_X10_isOwnHere_j147 (Int32.ofInt 0) s = some (bI xj147, s) := by
    rw [hxj147]
    simp only [f_X10_isOwnHere_j147, e0, ↓reduceIte, bnd, bI_if, or_if, or_0, j1, j2, j3, j4, j5, w12, w13, w14, w15, w16, w17, kj223]
  obtain ⟨xj71, hxj71⟩ : ∃ x : Bool, x = (isWL T n c (WDl 6) || (isWL T n c (WDl 7) || (isWL T n c (WDl 8) || (isWL T n c (WDl 9) || (isWL T n c (WDl 10) || (isWL T n c (WDl 11) || xj147)))))) := ⟨_, rfl⟩
  have kj71 : f_X10_isOwnHere_j71 (Int32.ofInt 0) s = some (bI xj71, s) := by
    rw [hxj71]
    simp only [f_X10_isOwnHere_j71, e0, ↓reduceIte, bnd, bI_if, or_if, or_0, j1, j2, j3, j4, j5, w6, w7, w8, w9, w10, w11, kj147]
  have e : f_X10_isOwnHere s = some (bI (isWL T n c (WDl 0) || (isWL T n c (WDl 1) || (isWL T n c (WDl 2) || (isWL T n c (WDl 3) || (isWL T n c (WDl 4) || (isWL T n c (WDl 5) || xj71)))))), s) := by
    simp only [f_X10_isOwnHere, bnd, bI_if, or_if, j5, kj71, w0, w1, w2, w3, w4, w5]
  rw [e, hxj71, hxj147, hxj223, hxj299, hxj375]
  unfold isWL
  cases isW T n c with
  | false => rfl
  | true => rfl
theorem nm_ty {T : Int → Int} {n : Int} {c : Cur} (h : isW T n c = true) (c1 : c.1 ≤ n) : frm T n c < sk isL T n (frm T n c) ∧ sk isL T n (frm T n c) ≤ n ∧ ∀ j, frm T n c ≤ j → j < sk isL T n (frm T n c) → isL (T j) = true := by
  unfold isW at h
  rw [Bool.and_eq_true, Bool.and_eq_true, decide_eq_true_iff] at h
  obtain ⟨⟨h1, h2⟩, -⟩ := h
  obtain ⟨k1, k2, k3, -⟩ := sk_b (p := isL) (T := T) (n := n) _ (frm T n c) rfl
  have k4 := sk_t h1 h2
  obtain ⟨k5, -, -, -⟩ := sk_b (p := isL) (T := T) (n := n) _ (frm T n c + 1) rfl
  exact ⟨by omega, k2 (by omega), k3⟩
theorem wl_v {T : Int → Int} : ∀ (k : Nat) (f : Int), (∀ j, f ≤ j → j < f + k → isL (T j) = true) → ∀ v ∈ wl T f k, 97 ≤ v ∧ v ≤ 122
  | 0, _, _, v, hv => by cases hv
  | k + 1, f, h, v, hv => by
    rcases List.mem_cons.mp hv with rfl | hv
    · exact of_decide_eq_true (h f (by omega) (by omega))
    · exact wl_v k (f + 1) (fun j j0 j1 => h j (by omega) (by omega)) v hv
theorem nm_NV {T : Int → Int} {n : Int} {c : Cur} (h : isW T n c = true) (c1 : c.1 ≤ n) (h6 : sk isL T n (frm T n c) - frm T n c ≤ 6) : NV (lets T n c) := by
  obtain ⟨a, b, d⟩ := nm_ty h c1
  refine ⟨?_, ?_, fun v hv => ?_⟩
  · unfold lets wd; rw [List.length_map, wl_len]; omega
  · unfold lets wd; rw [List.length_map, wl_len]; omega
  · obtain ⟨u, hu, rfl⟩ := List.mem_map.mp hv
    have := wl_v _ _ (fun j j0 j1 => d j j0 (by omega)) u hu
    omega
theorem m_nam_L {T : Int → Int} {n d b : Int} (b0 : 0 ≤ b) (K1 : ST → Option (Int64 × ST)) (K2 : Int64 → ST → Option (Int64 × ST)) : ∀ (m F : Nat) (a v : Int) (s : ST), RX T n a d s → s.1 65 44 = Int32.ofInt b → b ≤ a → a ≤ b + 6 → (n - a).toNat = m → m < F → ∃ s', RFa s s' ∧ (sk isL T n a - b ≤ 6 → f_X10_name_L58 K1 K2 F (Int64.ofInt v) s = K2 (Int64.ofInt (((wl T a (sk isL T n a - a).toNat).map (fun v => v - 96)).foldl (fun a v => 27 * a + v) v)) s' ∧ RX T n (sk isL T n a) d s') ∧ (6 < sk isL T n a - b → f_X10_name_L58 K1 K2 F (Int64.ofInt v) s = K1 s' ∧ RX T n (b + 6) d s') := by
  intro m
  induction m with
  | zero =>
    intro F a v s h h44 ba ab hm hF
    obtain ⟨F, rfl⟩ : ∃ F', F = F' + 1 := ⟨F - 1, by omega⟩
    have h' := h
    obtain ⟨⟨h1, h3, h4⟩, ⟨h5, h5b, h5c⟩, h6, h7⟩ := h'
    have e : sk isL T n a = a := sk_ge (by omega)
    rw [e]
    refine ⟨s, ⟨fun _ _ _ => rfl, rfl⟩, fun _ => ⟨?_, h⟩, fun _ => by omega⟩
    rw [show (a - a).toNat = 0 by omega]
    show _ = K2 (Int64.ofInt v) s
    simp (disch := omega) only [f_X10_name_L58, h3, h5, n_i8, n_i16, n_0, n_31, n_add, n_sub, n_mul, n_neg, n_div, n_rem, n_le_t, n_le_f, n_lt_t, n_lt_f, n_eq_t, n_eq_f, n_cl, n_gd, n_gdt, n_nz, Int.reduceToNat, Int.reduceAdd, Int.reduceSub, Int.reduceMul, Int.reduceNeg, Int.reduceLT, Int.reduceLE, Int.reduceEq, Int.reduceDiv, Int.reduceMod, Nat.reduceAdd, Nat.reduceMul, ↓reduceIte, u_eq, u_no, u_nk, u_ek, u_2, u_3, j_1, j_3, j_eq, j_no, j_nk, ltd, bnd]
  | succ m ih =>
    intro F a v s h h44 ba ab hm hF
    obtain ⟨F, rfl⟩ : ∃ F', F = F' + 1 := ⟨F - 1, by omega⟩
    have h' := h
    obtain ⟨⟨h1, h3, h4⟩, ⟨h5, h5b, h5c⟩, h6, h7⟩ := h'
    obtain ⟨t1, t2⟩ := h1 a h5b (by omega)
    have hdg := m_isLet (v := T a) (by omega) (by omega) s
    cases e : isL (T a) with
    | false =>
      rw [e] at hdg
      rw [sk_f e]
      refine ⟨s, ⟨fun _ _ _ => rfl, rfl⟩, fun _ => ⟨?_, h⟩, fun _ => by omega⟩
      rw [show (a - a).toNat = 0 by omega]
      show _ = K2 (Int64.ofInt v) s
      simp (disch := omega) only [f_X10_name_L58, h3, h5, t1, hdg, bI_f, n_i8, n_i16, n_0, n_31, n_add, n_sub, n_mul, n_neg, n_div, n_rem, n_le_t, n_le_f, n_lt_t, n_lt_f, n_eq_t, n_eq_f, n_cl, n_gd, n_gdt, n_nz, Int.reduceToNat, Int.reduceAdd, Int.reduceSub, Int.reduceMul, Int.reduceNeg, Int.reduceLT, Int.reduceLE, Int.reduceEq, Int.reduceDiv, Int.reduceMod, Nat.reduceAdd, Nat.reduceMul, ↓reduceIte, u_eq, u_no, u_nk, u_ek, u_2, u_3, j_1, j_3, j_eq, j_no, j_nk, ltd, bnd]
    | true =>
      rw [e] at hdg
      obtain ⟨sb1, sb2, -, -⟩ := sk_b (p := isL) (T := T) (n := n) _ (a + 1) rfl
      rw [sk_t (by omega) e]
      by_cases e4 : a = b + 6
      · refine ⟨s, ⟨fun _ _ _ => rfl, rfl⟩, fun _ => by omega, fun _ => ⟨?_, by rw [← e4]; exact h⟩⟩
        simp (disch := omega) only [f_X10_name_L58, h3, h5, t1, hdg, h44, bI_t, n_i8, n_i16, n_0, n_31, n_add, n_sub, n_mul, n_neg, n_div, n_rem, n_le_t, n_le_f, n_lt_t, n_lt_f, n_eq_t, n_eq_f, n_cl, n_gd, n_gdt, n_nz, Int.reduceToNat, Int.reduceAdd, Int.reduceSub, Int.reduceMul, Int.reduceNeg, Int.reduceLT, Int.reduceLE, Int.reduceEq, Int.reduceDiv, Int.reduceMod, Nat.reduceAdd, Nat.reduceMul, ↓reduceIte, u_eq, u_no, u_nk, u_ek, u_2, u_3, j_1, j_3, j_eq, j_no, j_nk, ltd, bnd]
      · have hfa : RFa s (uI s 65 2 (Int32.ofInt (a + 1))) := ⟨fun o k x => by (simp only [ua, ja, u_2, u_3, j_1, j_3]; (repeat' split) <;> first | rfl | (exfalso; omega)), rfl⟩
        obtain ⟨s', q1, q2, q3⟩ := ih F (a + 1) (27 * v + T a - 97 + 1) _ (RX_a h (u_eq _ _ _ _) (by omega) (by omega) hfa) ((hfa.1 65 44 (by omega)).trans h44) (by omega) (by omega) (by omega) (by omega)
        have es : f_X10_name_L58 K1 K2 (F + 1) (Int64.ofInt v) s = f_X10_name_L58 K1 K2 F (Int64.ofInt (27 * v + T a - 97 + 1)) (uI s 65 2 (Int32.ofInt (a + 1))) := by
          rw [f_X10_name_L58]
          simp (disch := omega) only [h3, h5, t1, hdg, h44, bI_t, l_1, l_i, l_add, l_sub, l_mul, n_i8, n_i16, n_0, n_31, n_add, n_sub, n_mul, n_neg, n_div, n_rem, n_le_t, n_le_f, n_lt_t, n_lt_f, n_eq_t, n_eq_f, n_cl, n_gd, n_gdt, n_nz, Int.reduceToNat, Int.reduceAdd, Int.reduceSub, Int.reduceMul, Int.reduceNeg, Int.reduceLT, Int.reduceLE, Int.reduceEq, Int.reduceDiv, Int.reduceMod, Nat.reduceAdd, Nat.reduceMul, ↓reduceIte, u_eq, u_no, u_nk, u_ek, u_2, u_3, j_1, j_3, j_eq, j_no, j_nk, ltd, bnd]
        rw [es]
        refine ⟨s', ⟨fun o k x => (q1.1 o k x).trans (hfa.1 o k x), q1.2.trans hfa.2⟩, fun x => ?_, q3⟩
        rw [show (sk isL T n (a + 1) - a).toNat = (sk isL T n (a + 1) - (a + 1)).toNat + 1 by omega]
        have q2 := q2 x
        rw [show 27 * v + T a - 97 + 1 = 27 * v + (T a - 96) by omega] at q2 ⊢
        exact q2
theorem m_name {T : Int → Int} {n : Int} {c : Cur} {s : ST} (h : RC T n c s) (hw : WDS s) : ∃ v s', f_X10_name s = some (v, s') ∧ RPf s s' ∧ RQ (namS T n c) (fun r => v = Int64.ofInt (b27 r.1) ∧ RC T n r.2 s' ∧ s'.1 65 44 = Int32.ofInt (frm T n c)) (fun k p => RB k p s') := by
  have hbad := h.b.1
  obtain ⟨s1, q1, q2, q3⟩ := m_look h
  have hq := q2
  have hw1 : WDS s1 := WDS_fr hw (fun o k ho => q3.1 o k (by omega))
  have how := m_own hq hw1
  obtain ⟨d, hx, hc⟩ := q2
  have hx' := hx
  obtain ⟨⟨t1, t3, t4⟩, ⟨h5, h5b, h5c⟩, ⟨h6, h6b, h6c⟩, h7⟩ := hx'
  have hlb := lkV_b t1 h5b
  have hdg := m_isLet (v := lkV T n (frm T n c)) (by omega) (by omega) s1
  have had := adj_d hc
  have hcn : c.1 ≤ n := hc.2.1.2
  obtain ⟨sf, f1, f2, f3⟩ := m_fail (k := 1) (p := frm T n c) hq.b.1 (by omega) (by omega)
  have ej37 : f_X10_name_j37 s1 = some (Int64.ofNat ((0 : Fin 2) : Nat), sf) := by
    simp (disch := omega) only [f_X10_name_j37, h5, f1, n_i8, n_i16, n_0, n_31, n_add, n_sub, n_mul, n_neg, n_div, n_rem, n_le_t, n_le_f, n_lt_t, n_lt_f, n_eq_t, n_eq_f, n_cl, n_gd, n_gdt, n_nz, Int.reduceToNat, Int.reduceAdd, Int.reduceSub, Int.reduceMul, Int.reduceNeg, Int.reduceLT, Int.reduceLE, Int.reduceEq, Int.reduceDiv, Int.reduceMod, Nat.reduceAdd, Nat.reduceMul, ↓reduceIte, u_eq, u_no, u_nk, u_ek, u_2, u_3, j_1, j_3, j_eq, j_no, j_nk, ltd, bnd]
  have ef : f_X10_name s = (if bI (isL (lkV T n (frm T n c))) = 0 then f_X10_name_j37 s1 else (if (s1.1 65 2) = (s1.1 65 4) then f_X10_name_j37 s1 else (if bI (isW T n c && ownw T n c) = 0 then lt (uI s1 65 44 (s1.1 65 2)) (fun s8 => (f_X10_name_L58 f_X10_name_j98 f_X10_name_j145 fuel) (Int64.ofNat ((0 : Fin 2) : Nat)) s8) else f_X10_name_j37 s1))) := by
    simp (disch := omega) only [f_X10_name, hbad, q1, hdg, how, n_i8, n_i16, n_0, n_31, n_add, n_sub, n_mul, n_neg, n_div, n_rem, n_le_t, n_le_f, n_lt_t, n_lt_f, n_eq_t, n_eq_f, n_cl, n_gd, n_gdt, n_nz, Int.reduceToNat, Int.reduceAdd, Int.reduceSub, Int.reduceMul, Int.reduceNeg, Int.reduceLT, Int.reduceLE, Int.reduceEq, Int.reduceDiv, Int.reduceMod, Nat.reduceAdd, Nat.reduceMul, ↓reduceIte, u_eq, u_no, u_nk, u_ek, u_2, u_3, j_1, j_3, j_eq, j_no, j_nk, ltd, bnd]
  rw [ef]
  unfold namS
  cases eB : isW T n c with
  | false =>
    rw [Bool.false_and]
    refine ⟨Int64.ofNat ((0 : Fin 2) : Nat), sf, ?_, q3.rp.tr f3, RQ.er f2⟩
    rw [ej37]
    unfold isW at eB
    by_cases e1 : frm T n c < n
    · have elk : lkV T n (frm T n c) = T (frm T n c) := by unfold lkV; rw [if_pos e1]
      rw [elk]
      rw [decide_eq_true e1, Bool.true_and] at eB
      cases e2 : isL (T (frm T n c)) with
      | false => simp (disch := omega) only [bI_f, n_i8, n_i16, n_0, n_31, n_add, n_sub, n_mul, n_neg, n_div, n_rem, n_le_t, n_le_f, n_lt_t, n_lt_f, n_eq_t, n_eq_f, n_cl, n_gd, n_gdt, n_nz, Int.reduceToNat, Int.reduceAdd, Int.reduceSub, Int.reduceMul, Int.reduceNeg, Int.reduceLT, Int.reduceLE, Int.reduceEq, Int.reduceDiv, Int.reduceMod, Nat.reduceAdd, Nat.reduceMul, ↓reduceIte, u_eq, u_no, u_nk, u_ek, u_2, u_3, j_1, j_3, j_eq, j_no, j_nk, ltd, bnd]
      | true =>
        rw [e2, Bool.true_and] at eB
        have e3 : adj T n c = true := by
          cases x : adj T n c with
          | true => rfl
          | false => rw [x] at eB; cases eB
        have := had.mp e3
        simp (disch := omega) only [h5, h6, bI_t, n_i8, n_i16, n_0, n_31, n_add, n_sub, n_mul, n_neg, n_div, n_rem, n_le_t, n_le_f, n_lt_t, n_lt_f, n_eq_t, n_eq_f, n_cl, n_gd, n_gdt, n_nz, Int.reduceToNat, Int.reduceAdd, Int.reduceSub, Int.reduceMul, Int.reduceNeg, Int.reduceLT, Int.reduceLE, Int.reduceEq, Int.reduceDiv, Int.reduceMod, Nat.reduceAdd, Nat.reduceMul, ↓reduceIte, u_eq, u_no, u_nk, u_ek, u_2, u_3, j_1, j_3, j_eq, j_no, j_nk, ltd, bnd]
    · have elk : lkV T n (frm T n c) = -1 := by unfold lkV; rw [if_neg e1]
      rw [elk, show isL (-1) = false by decide]
      simp (disch := omega) only [bI_f, n_i8, n_i16, n_0, n_31, n_add, n_sub, n_mul, n_neg, n_div, n_rem, n_le_t, n_le_f, n_lt_t, n_lt_f, n_eq_t, n_eq_f, n_cl, n_gd, n_gdt, n_nz, Int.reduceToNat, Int.reduceAdd, Int.reduceSub, Int.reduceMul, Int.reduceNeg, Int.reduceLT, Int.reduceLE, Int.reduceEq, Int.reduceDiv, Int.reduceMod, Nat.reduceAdd, Nat.reduceMul, ↓reduceIte, u_eq, u_no, u_nk, u_ek, u_2, u_3, j_1, j_3, j_eq, j_no, j_nk, ltd, bnd]
  | true =>
    have hE := nm_ty eB hcn
    have eB' := eB
    unfold isW at eB'
    rw [Bool.and_eq_true, Bool.and_eq_true, decide_eq_true_iff] at eB'
    obtain ⟨⟨e1, e2⟩, e3⟩ := eB'
    have elk : lkV T n (frm T n c) = T (frm T n c) := by unfold lkV; rw [if_pos e1]
    have hnd : ¬ frm T n c = d := fun x => by rw [had.mpr x] at e3; cases e3
    rw [Bool.true_and, Bool.true_and]
    cases eo : ownw T n c with
    | true =>
      refine ⟨Int64.ofNat ((0 : Fin 2) : Nat), sf, ?_, q3.rp.tr f3, RQ.er f2⟩
      rw [ej37, elk, e2]
      simp (disch := omega) only [h5, h6, bI_t, n_i8, n_i16, n_0, n_31, n_add, n_sub, n_mul, n_neg, n_div, n_rem, n_le_t, n_le_f, n_lt_t, n_lt_f, n_eq_t, n_eq_f, n_cl, n_gd, n_gdt, n_nz, Int.reduceToNat, Int.reduceAdd, Int.reduceSub, Int.reduceMul, Int.reduceNeg, Int.reduceLT, Int.reduceLE, Int.reduceEq, Int.reduceDiv, Int.reduceMod, Nat.reduceAdd, Nat.reduceMul, ↓reduceIte, u_eq, u_no, u_nk, u_ek, u_2, u_3, j_1, j_3, j_eq, j_no, j_nk, ltd, bnd]
    | false =>
      have hf44 : RPf s1 (uI s1 65 44 (Int32.ofInt (frm T n c))) := ⟨fun o k x => by (simp only [ua, ja, u_2, u_3, j_1, j_3]; (repeat' split) <;> first | rfl | (exfalso; omega)), rfl⟩
      have hx2 : RX T n (frm T n c) d (uI s1 65 44 (Int32.ofInt (frm T n c))) := by
        refine ⟨⟨fun j j0 j1 => ⟨(hf44.1 66 _ (by omega)).trans (t1 j j0 j1).1, (t1 j j0 j1).2⟩, (hf44.1 65 3 (by omega)).trans t3, t4⟩, ⟨?_, h5b, h5c⟩, ⟨?_, h6b, h6c⟩, ?_, ?_⟩
        · rw [u_nk (by omega)]; exact h5
        · rw [u_nk (by omega)]; exact h6
        · rw [u_nk (by omega)]; exact h7.1
        · rw [u_nk (by omega)]; exact h7.2
      obtain ⟨s2, r1, r2, r3⟩ := m_nam_L h5b f_X10_name_j98 f_X10_name_j145 (n - frm T n c).toNat fuel (frm T n c) 0 _ hx2 (u_eq _ _ _ _) (by omega) (by omega) rfl (by unfold fuel; omega)
      have ef2 : (if bI (isL (lkV T n (frm T n c))) = 0 then f_X10_name_j37 s1 else (if (s1.1 65 2) = (s1.1 65 4) then f_X10_name_j37 s1 else (if bI false = 0 then lt (uI s1 65 44 (s1.1 65 2)) (fun s8 => (f_X10_name_L58 f_X10_name_j98 f_X10_name_j145 fuel) (Int64.ofNat ((0 : Fin 2) : Nat)) s8) else f_X10_name_j37 s1))) = (f_X10_name_L58 f_X10_name_j98 f_X10_name_j145 fuel) (Int64.ofInt 0) (uI s1 65 44 (Int32.ofInt (frm T n c))) := by
        rw [elk, e2]
        simp (disch := omega) only [h5, h6, bI_t, bI_f, l_0, n_i8, n_i16, n_0, n_31, n_add, n_sub, n_mul, n_neg, n_div, n_rem, n_le_t, n_le_f, n_lt_t, n_lt_f, n_eq_t, n_eq_f, n_cl, n_gd, n_gdt, n_nz, Int.reduceToNat, Int.reduceAdd, Int.reduceSub, Int.reduceMul, Int.reduceNeg, Int.reduceLT, Int.reduceLE, Int.reduceEq, Int.reduceDiv, Int.reduceMod, Nat.reduceAdd, Nat.reduceMul, ↓reduceIte, u_eq, u_no, u_nk, u_ek, u_2, u_3, j_1, j_3, j_eq, j_no, j_nk, ltd, bnd]
      rw [ef2]
      simp only [Bool.not_false, ↓reduceIte]
      have q23 : RPf s s2 := (q3.rp.tr hf44).tr r1.rp
      have h44 : s2.1 65 44 = Int32.ofInt (frm T n c) := (r1.1 65 44 (by omega)).trans (u_eq _ _ _ _)
      by_cases e4 : sk isL T n (frm T n c) - frm T n c ≤ 6
      · rw [if_pos e4]
        obtain ⟨g1, g2⟩ := r2 e4
        rw [g1]
        obtain ⟨⟨u1, u3, u4⟩, ⟨u5, u5b, u5c⟩, ⟨u6, u6b, u6c⟩, u7⟩ := g2
        have hf : RPf s2 (uI s2 65 4 (Int32.ofInt (sk isL T n (frm T n c)))) := ⟨fun o k x => by (simp only [ua, ja, u_2, u_3, j_1, j_3]; (repeat' split) <;> first | rfl | (exfalso; omega)), rfl⟩
        refine ⟨_, uI s2 65 4 (Int32.ofInt (sk isL T n (frm T n c))), ?_, q23.tr hf, RQ.ok ⟨rfl, ⟨sk isL T n (frm T n c), sk isL T n (frm T n c), ⟨⟨fun j j0 j1 => ⟨(hf.1 66 _ (by omega)).trans (u1 j j0 j1).1, (u1 j j0 j1).2⟩, (hf.1 65 3 (by omega)).trans u3, u4⟩, ⟨?_, by omega, by omega⟩, ⟨u_eq _ _ _ _, by omega, by omega⟩, ?_, ?_⟩, Or.inl rfl, ⟨?_, hE.2.1⟩, fun _ => rfl, fun x => (by cases x)⟩, ?_⟩⟩
        · unfold f_X10_name_j145
          rw [ltd, u5]
          rfl
        · rw [u_nk (by omega)]; exact u5
        · rw [u_nk (by omega)]; exact u7.1
        · rw [u_nk (by omega)]; exact u7.2
        · show (0 : Int) ≤ sk isL T n (frm T n c)
          omega
        · rw [u_nk (by omega)]; exact h44
      · rw [if_neg e4]
        obtain ⟨g1, g2⟩ := r3 (by omega)
        rw [g1]
        obtain ⟨⟨u1, u3, u4⟩, ⟨u5, u5b, u5c⟩, ⟨u6, u6b, u6c⟩, u7⟩ := g2
        obtain ⟨s3, w1, w2, w3⟩ := m_fail (k := 1) (p := frm T n c + 6) u7.1 (by omega) (by omega)
        refine ⟨Int64.ofNat ((0 : Fin 2) : Nat), s3, ?_, q23.tr w3, RQ.er w2⟩
        simp (disch := omega) only [f_X10_name_j98, u5, w1, n_i8, n_i16, n_0, n_31, n_add, n_sub, n_mul, n_neg, n_div, n_rem, n_le_t, n_le_f, n_lt_t, n_lt_f, n_eq_t, n_eq_f, n_cl, n_gd, n_gdt, n_nz, Int.reduceToNat, Int.reduceAdd, Int.reduceSub, Int.reduceMul, Int.reduceNeg, Int.reduceLT, Int.reduceLE, Int.reduceEq, Int.reduceDiv, Int.reduceMod, Nat.reduceAdd, Nat.reduceMul, ↓reduceIte, u_eq, u_no, u_nk, u_ek, u_2, u_3, j_1, j_3, j_eq, j_no, j_nk, ltd, bnd]
theorem m_nameB {k p : Int} {s : ST} (h : RB k p s) : f_X10_name s = some (Int64.ofNat ((0 : Fin 2) : Nat), s) := by
  unfold f_X10_name
  rw [if_neg h.ne]
