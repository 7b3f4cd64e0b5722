/-! L3: chooses, forced of the reference -/
def cond (B : Brd) (G : Gam) (m k : Int) : Bool := decide (sd B m = gs G) && goK B G m k
def mv1 (B : Brd) (G : Gam) (m : Int) : List (Int × Int) := ((sqs B).filter (cond B G m)).map (fun k => (m, k))
/-- the moves of the side to move, in their order -/
def mvl (B : Brd) (G : Gam) : List (Int × Int) := (mens B).flatMap (mv1 B G)
theorem m_ch_L40 {B : Brd} {G : Gam} {m w : Int} (h1 : 0 ≤ m) (h2 : m < bM B) (hw0 : 0 ≤ w) (hw1 : w ≤ 2147483647) (K : Int32 → Int32 → Int32 → ST → Option ST) : ∀ (n F : Nat) (i c : Int) (s : ST), MA B G s → s.1 65 68 = Int32.ofInt (-1) → 0 ≤ i → (n : Int) = bW B * bH B - i → n < F → 0 ≤ c → c ≤ w → c ≤ 1000 + i → (c + ((upto n i).filter (cond B G m)).length ≤ w → f_X10_chooses_L40 K F (Int32.ofInt w) (Int32.ofInt c) (Int32.ofInt m) (Int32.ofInt i) s = K (Int32.ofInt w) (Int32.ofInt (c + ((upto n i).filter (cond B G m)).length)) (Int32.ofInt (m + 1)) s) ∧ (w < c + ((upto n i).filter (cond B G m)).length → ∃ (s' : ST) (c' : Int), Sd s s' ∧ CH (w, 0, 0, m, ((upto n i).filter (cond B G m)).getD (w - c).toNat 0) s' ∧ f_X10_chooses_L40 K F (Int32.ofInt w) (Int32.ofInt c) (Int32.ofInt m) (Int32.ofInt i) s = K (Int32.ofInt w) (Int32.ofInt c') (Int32.ofInt (m + 1)) s') := by
  intro n
  induction n with
  | zero =>
    intro F i c s h hC h0 hn hF hc0 hcw hci
    obtain ⟨F, rfl⟩ : ∃ F', F = F' + 1 := ⟨F - 1, by omega⟩
    have hpl := m_places h
    have hW : bW B ≤ 5 := h.1.1.1.2.1; have hH : bH B ≤ 5 := h.1.1.1.2.2.2.1; have hW0 : 0 ≤ bW B := h.1.1.1.1; have hH0 : 0 ≤ bH B := h.1.1.1.2.2.1; have hWH : bW B * bH B ≤ 25 := (Int.mul_le_mul hW hH hH0 (by omega)); have hWH0 : 0 ≤ bW B * bH B := Int.mul_nonneg hW0 hH0
    simp only [upto, List.filter_nil, List.length_nil, Int.natCast_zero, Int.add_zero]
    refine ⟨fun _ => ?_, fun q => by omega⟩
    simp (disch := omega) only [f_X10_chooses_L40, hpl, n_i8, n_i16, n_0, n_31, n_add, n_sub, n_mul, n_neg, n_div, n_rem, n_le_t, n_le_f, n_lt_t, n_lt_f, n_eq_t, n_eq_f, n_cl, n_gd, n_gdt, n_nz, Int.reduceToNat, Int.reduceAdd, Int.reduceSub, Int.reduceMul, Int.reduceNeg, Int.reduceLT, Int.reduceLE, Int.reduceEq, Int.reduceDiv, Int.reduceMod, Nat.reduceAdd, Nat.reduceMul, ↓reduceIte, u_eq, u_no, u_nk, u_ek, u_2, u_3, j_1, j_3, j_eq, j_no, j_nk, lt_def, Option.bind_some]
  | succ n ih =>
    intro F i c s h hC h0 hn hF hc0 hcw hci
    obtain ⟨F, rfl⟩ : ∃ F', F = F' + 1 := ⟨F - 1, by omega⟩
    have hpl := m_places h
    have hs := m_sideOf h h1 h2
    have hsd := m_side h
    have hgs := h.2.1.1.2.2
    have hb := h.1.2.2.1 m h1 h2
    have hM : bM B ≤ 8 := h.1.1.1.2.2.2.2.2.2.2.1; have hM0 : 0 ≤ bM B := h.1.1.1.2.2.2.2.2.2.1
    have hW : bW B ≤ 5 := h.1.1.1.2.1; have hH : bH B ≤ 5 := h.1.1.1.2.2.2.1; have hW0 : 0 ≤ bW B := h.1.1.1.1; have hH0 : 0 ≤ bH B := h.1.1.1.2.2.1; have hWH : bW B * bH B ≤ 25 := (Int.mul_le_mul hW hH hH0 (by omega)); have hWH0 : 0 ≤ bW B * bH B := Int.mul_nonneg hW0 hH0
    have hc : f_X10_canGo (Int32.ofInt m) (Int32.ofInt i) s = some (bI (goK B G m i), s) := m_canGo h h1 h2 h0 (show i < bW B * bH B by omega)
    by_cases e1 : sd B m = gs G
    · cases e2 : goK B G m i with
      | true =>
        have hv : cond B G m i = true := by unfold cond; rw [e2, decide_eq_true e1]; rfl
        rw [e2] at hc
        simp only [upto, List.filter_cons, hv, if_true, List.length_cons, Int.natCast_add, Int.natCast_one]
        by_cases e3 : c = w
        · subst e3
          refine ⟨fun q => by omega, fun _ => ?_⟩
          have hSd : Sd s (uI (uI (uI s 65 68 (Int32.ofInt c)) 65 69 (Int32.ofInt m)) 65 70 (Int32.ofInt i)) := by
            refine ⟨fun o k hk hk' => ?_, rfl⟩
            by_cases eo : o = 65
            · rw [u_nk (by omega), u_nk (by omega), u_nk (by omega)]
            · rw [u_no eo, u_no eo, u_no eo]
          have hA := MA_Sd h hSd
          have hpl' := m_places hA
          obtain ⟨F, rfl⟩ : ∃ F', F = F' + 1 := ⟨F - 1, by omega⟩
          have h68 : (uI (uI (uI s 65 68 (Int32.ofInt c)) 65 69 (Int32.ofInt m)) 65 70 (Int32.ofInt i)).1 65 68 = Int32.ofInt c := by simp (disch := omega) only [u_eq, u_no, u_nk, u_ek, u_2, u_3, j_1, j_3, j_eq, j_no, j_nk, lt_def, Option.bind_some]
          refine ⟨_, c + 1, hSd, ?_, ?_⟩
          · unfold CH
            rw [Int.sub_self]
            simp (disch := omega) only [u_eq, u_no, u_nk, u_ek, u_2, u_3, j_1, j_3, j_eq, j_no, j_nk, lt_def, Option.bind_some, and_self, implies_true, Int.toNat_zero, List.getD_cons_zero]
          · have hun : ∀ F2 : Nat, f_X10_chooses_L40 K (F2 + 1) (Int32.ofInt c) (Int32.ofInt c) (Int32.ofInt m) (Int32.ofInt i) s = f_X10_chooses_L40 K F2 (Int32.ofInt c) (Int32.ofInt (c + 1)) (Int32.ofInt m) (Int32.ofInt (i + 1)) (uI (uI (uI s 65 68 (Int32.ofInt c)) 65 69 (Int32.ofInt m)) 65 70 (Int32.ofInt i)) := by
              intro F2
              simp (disch := omega) only [f_X10_chooses_L40, hpl, hs, hsd, hC, e1, hc, bI_t, n_i8, n_i16, n_0, n_31, n_add, n_sub, n_mul, n_neg, n_div, n_rem, n_le_t, n_le_f, n_lt_t, n_lt_f, n_eq_t, n_eq_f, n_cl, n_gd, n_gdt, n_nz, Int.reduceToNat, Int.reduceAdd, Int.reduceSub, Int.reduceMul, Int.reduceNeg, Int.reduceLT, Int.reduceLE, Int.reduceEq, Int.reduceDiv, Int.reduceMod, Nat.reduceAdd, Nat.reduceMul, ↓reduceIte, u_eq, u_no, u_nk, u_ek, u_2, u_3, j_1, j_3, j_eq, j_no, j_nk, lt_def, Option.bind_some]
            rw [hun]
            generalize uI (uI (uI s 65 68 (Int32.ofInt c)) 65 69 (Int32.ofInt m)) 65 70 (Int32.ofInt i) = t at *
            by_cases e4 : bW B * bH B ≤ i + 1
            · simp (disch := omega) only [f_X10_chooses_L40, hpl', h68, n_i8, n_i16, n_0, n_31, n_add, n_sub, n_mul, n_neg, n_div, n_rem, n_le_t, n_le_f, n_lt_t, n_lt_f, n_eq_t, n_eq_f, n_cl, n_gd, n_gdt, n_nz, Int.reduceToNat, Int.reduceAdd, Int.reduceSub, Int.reduceMul, Int.reduceNeg, Int.reduceLT, Int.reduceLE, Int.reduceEq, Int.reduceDiv, Int.reduceMod, Nat.reduceAdd, Nat.reduceMul, ↓reduceIte, u_eq, u_no, u_nk, u_ek, u_2, u_3, j_1, j_3, j_eq, j_no, j_nk, lt_def, Option.bind_some]
            · simp (disch := omega) only [f_X10_chooses_L40, hpl', h68, n_i8, n_i16, n_0, n_31, n_add, n_sub, n_mul, n_neg, n_div, n_rem, n_le_t, n_le_f, n_lt_t, n_lt_f, n_eq_t, n_eq_f, n_cl, n_gd, n_gdt, n_nz, Int.reduceToNat, Int.reduceAdd, Int.reduceSub, Int.reduceMul, Int.reduceNeg, Int.reduceLT, Int.reduceLE, Int.reduceEq, Int.reduceDiv, Int.reduceMod, Nat.reduceAdd, Nat.reduceMul, ↓reduceIte, u_eq, u_no, u_nk, u_ek, u_2, u_3, j_1, j_3, j_eq, j_no, j_nk, lt_def, Option.bind_some]
        · obtain ⟨i1, i2⟩ := ih F (i + 1) (c + 1) s h hC (by omega) (by omega) (by omega) (by omega) (by omega) (by omega)
          have hun : f_X10_chooses_L40 K (F + 1) (Int32.ofInt w) (Int32.ofInt c) (Int32.ofInt m) (Int32.ofInt i) s = f_X10_chooses_L40 K F (Int32.ofInt w) (Int32.ofInt (c + 1)) (Int32.ofInt m) (Int32.ofInt (i + 1)) s := by
            simp (disch := omega) only [f_X10_chooses_L40, hpl, hs, hsd, hC, e1, hc, bI_t, n_i8, n_i16, n_0, n_31, n_add, n_sub, n_mul, n_neg, n_div, n_rem, n_le_t, n_le_f, n_lt_t, n_lt_f, n_eq_t, n_eq_f, n_cl, n_gd, n_gdt, n_nz, Int.reduceToNat, Int.reduceAdd, Int.reduceSub, Int.reduceMul, Int.reduceNeg, Int.reduceLT, Int.reduceLE, Int.reduceEq, Int.reduceDiv, Int.reduceMod, Nat.reduceAdd, Nat.reduceMul, ↓reduceIte, u_eq, u_no, u_nk, u_ek, u_2, u_3, j_1, j_3, j_eq, j_no, j_nk, lt_def, Option.bind_some]
          rw [hun]
          refine ⟨fun q => ?_, fun q => ?_⟩
          · rw [i1 (by omega)]
            have : c + 1 + ((List.filter (cond B G m) (upto n (i + 1))).length : Int) = c + ((List.filter (cond B G m) (upto n (i + 1))).length + 1) := by omega
            rw [this]
          · obtain ⟨s', c', q1, q2, q3⟩ := i2 (by omega)
            refine ⟨s', c', q1, ?_, q3⟩
            have : (w - c).toNat = (w - (c + 1)).toNat + 1 := by omega
            rw [this, List.getD_cons_succ]
            exact q2
      | false =>
        have hv : cond B G m i = false := by unfold cond; rw [e2, decide_eq_true e1]; rfl
        rw [e2] at hc
        obtain ⟨i1, i2⟩ := ih F (i + 1) c s h hC (by omega) (by omega) (by omega) (by omega) (by omega) (by omega)
        have hun : f_X10_chooses_L40 K (F + 1) (Int32.ofInt w) (Int32.ofInt c) (Int32.ofInt m) (Int32.ofInt i) s = f_X10_chooses_L40 K F (Int32.ofInt w) (Int32.ofInt c) (Int32.ofInt m) (Int32.ofInt (i + 1)) s := by
          simp (disch := omega) only [f_X10_chooses_L40, hpl, hs, hsd, hC, e1, hc, bI_f, n_i8, n_i16, n_0, n_31, n_add, n_sub, n_mul, n_neg, n_div, n_rem, n_le_t, n_le_f, n_lt_t, n_lt_f, n_eq_t, n_eq_f, n_cl, n_gd, n_gdt, n_nz, Int.reduceToNat, Int.reduceAdd, Int.reduceSub, Int.reduceMul, Int.reduceNeg, Int.reduceLT, Int.reduceLE, Int.reduceEq, Int.reduceDiv, Int.reduceMod, Nat.reduceAdd, Nat.reduceMul, ↓reduceIte, u_eq, u_no, u_nk, u_ek, u_2, u_3, j_1, j_3, j_eq, j_no, j_nk, lt_def, Option.bind_some]
        rw [hun]
        simp only [upto, List.filter_cons, hv, Bool.false_eq_true, if_false]
        exact ⟨i1, i2⟩
    · have hv : cond B G m i = false := by unfold cond; rw [decide_eq_false e1]; rfl
      obtain ⟨i1, i2⟩ := ih F (i + 1) c s h hC (by omega) (by omega) (by omega) (by omega) (by omega) (by omega)
      have hun : f_X10_chooses_L40 K (F + 1) (Int32.ofInt w) (Int32.ofInt c) (Int32.ofInt m) (Int32.ofInt i) s = f_X10_chooses_L40 K F (Int32.ofInt w) (Int32.ofInt c) (Int32.ofInt m) (Int32.ofInt (i + 1)) s := by
        simp (disch := omega) only [f_X10_chooses_L40, hpl, hs, hsd, hC, e1, n_i8, n_i16, n_0, n_31, n_add, n_sub, n_mul, n_neg, n_div, n_rem, n_le_t, n_le_f, n_lt_t, n_lt_f, n_eq_t, n_eq_f, n_cl, n_gd, n_gdt, n_nz, Int.reduceToNat, Int.reduceAdd, Int.reduceSub, Int.reduceMul, Int.reduceNeg, Int.reduceLT, Int.reduceLE, Int.reduceEq, Int.reduceDiv, Int.reduceMod, Nat.reduceAdd, Nat.reduceMul, ↓reduceIte, u_eq, u_no, u_nk, u_ek, u_2, u_3, j_1, j_3, j_eq, j_no, j_nk, lt_def, Option.bind_some]
      rw [hun]
      simp only [upto, List.filter_cons, hv, Bool.false_eq_true, if_false]
      exact ⟨i1, i2⟩
theorem cf_len {B : Brd} {G : Gam} {m : Int} {s : ST} (h : MA B G s) : ((sqs B).filter (cond B G m)).length ≤ 25 := by
  have hW : bW B ≤ 5 := h.1.1.1.2.1; have hH : bH B ≤ 5 := h.1.1.1.2.2.2.1; have hW0 : 0 ≤ bW B := h.1.1.1.1; have hH0 : 0 ≤ bH B := h.1.1.1.2.2.1; have hWH : bW B * bH B ≤ 25 := (Int.mul_le_mul hW hH hH0 (by omega)); have hWH0 : 0 ≤ bW B * bH B := Int.mul_nonneg hW0 hH0
  have h1 : ((sqs B).filter (cond B G m)).length ≤ (sqs B).length := List.length_filter_le _ _
  have h2 : (sqs B).length = (bW B * bH B).toNat := upto_len
  omega
theorem m_ch_L21 {B : Brd} {G : Gam} {w : Int} (hw0 : 0 ≤ w) (hw1 : w ≤ 2147483647) : ∀ (n F : Nat) (i c : Int) (s : ST), MA B G s → s.1 65 68 = Int32.ofInt (-1) → 0 ≤ i → (n : Int) = bM B - i → n < F → 0 ≤ c → c ≤ w → c ≤ 25 * i → (c + ((upto n i).flatMap (mv1 B G)).length ≤ w → f_X10_chooses_L21 F (Int32.ofInt w) (Int32.ofInt c) (Int32.ofInt i) s = some s) ∧ (w < c + ((upto n i).flatMap (mv1 B G)).length → ∃ (s' : ST), Sd s s' ∧ CH (w, 0, 0, (((upto n i).flatMap (mv1 B G)).getD (w - c).toNat (0, 0)).1, (((upto n i).flatMap (mv1 B G)).getD (w - c).toNat (0, 0)).2) s' ∧ f_X10_chooses_L21 F (Int32.ofInt w) (Int32.ofInt c) (Int32.ofInt i) s = some s') := by
  intro n
  induction n with
  | zero =>
    intro F i c s h hC h0 hn hF hc0 hcw hci
    obtain ⟨F, rfl⟩ : ∃ F', F = F' + 1 := ⟨F - 1, by omega⟩
    have hmm := m_manMany h
    have hM : bM B ≤ 8 := h.1.1.1.2.2.2.2.2.2.2.1; have hM0 : 0 ≤ bM B := h.1.1.1.2.2.2.2.2.2.1
    simp only [upto, List.flatMap_nil, List.length_nil, Int.natCast_zero, Int.add_zero]
    refine ⟨fun _ => ?_, fun q => by omega⟩
    simp (disch := omega) only [f_X10_chooses_L21, hmm, n_i8, n_i16, n_0, n_31, n_add, n_sub, n_mul, n_neg, n_div, n_rem, n_le_t, n_le_f, n_lt_t, n_lt_f, n_eq_t, n_eq_f, n_cl, n_gd, n_gdt, n_nz, Int.reduceToNat, Int.reduceAdd, Int.reduceSub, Int.reduceMul, Int.reduceNeg, Int.reduceLT, Int.reduceLE, Int.reduceEq, Int.reduceDiv, Int.reduceMod, Nat.reduceAdd, Nat.reduceMul, ↓reduceIte, u_eq, u_no, u_nk, u_ek, u_2, u_3, j_1, j_3, j_eq, j_no, j_nk, lt_def, Option.bind_some]
  | succ n ih =>
    intro F i c s h hC h0 hn hF hc0 hcw hci
    obtain ⟨F, rfl⟩ : ∃ F', F = F' + 1 := ⟨F - 1, by omega⟩
    have hmm := m_manMany h
    have hM : bM B ≤ 8 := h.1.1.1.2.2.2.2.2.2.2.1; have hM0 : 0 ≤ bM B := h.1.1.1.2.2.2.2.2.2.1
    have hW : bW B ≤ 5 := h.1.1.1.2.1; have hH : bH B ≤ 5 := h.1.1.1.2.2.2.1; have hW0 : 0 ≤ bW B := h.1.1.1.1; have hH0 : 0 ≤ bH B := h.1.1.1.2.2.1; have hWH : bW B * bH B ≤ 25 := (Int.mul_le_mul hW hH hH0 (by omega)); have hWH0 : 0 ≤ bW B * bH B := Int.mul_nonneg hW0 hH0
    have hlen := cf_len (m := i) h
    obtain ⟨j1, j2⟩ := m_ch_L40 (G := G) (w := w) h0 (show i < bM B by omega) hw0 hw1 (f_X10_chooses_L21 F) (bW B * bH B).toNat fuel 0 c s h hC (by omega) (by omega) (by unfold fuel; omega) hc0 hcw (by omega)
    have hun : f_X10_chooses_L21 (F + 1) (Int32.ofInt w) (Int32.ofInt c) (Int32.ofInt i) s = f_X10_chooses_L40 (f_X10_chooses_L21 F) fuel (Int32.ofInt w) (Int32.ofInt c) (Int32.ofInt i) (Int32.ofInt 0) s := by
      simp (disch := omega) only [f_X10_chooses_L21, hmm, hC, n_i8, n_i16, n_0, n_31, n_add, n_sub, n_mul, n_neg, n_div, n_rem, n_le_t, n_le_f, n_lt_t, n_lt_f, n_eq_t, n_eq_f, n_cl, n_gd, n_gdt, n_nz, Int.reduceToNat, Int.reduceAdd, Int.reduceSub, Int.reduceMul, Int.reduceNeg, Int.reduceLT, Int.reduceLE, Int.reduceEq, Int.reduceDiv, Int.reduceMod, Nat.reduceAdd, Nat.reduceMul, ↓reduceIte, u_eq, u_no, u_nk, u_ek, u_2, u_3, j_1, j_3, j_eq, j_no, j_nk, lt_def, Option.bind_some]
    rw [hun]
    have hm1 : (mv1 B G i).length = ((sqs B).filter (cond B G i)).length := List.length_map _
    simp only [upto, List.flatMap_cons, List.length_append, Int.natCast_add, hm1]
    by_cases e : c + (((sqs B).filter (cond B G i)).length : Int) ≤ w
    · have j1 := j1 e
      have j1 : f_X10_chooses_L40 (f_X10_chooses_L21 F) fuel (Int32.ofInt w) (Int32.ofInt c) (Int32.ofInt i) (Int32.ofInt 0) s = f_X10_chooses_L21 F (Int32.ofInt w) (Int32.ofInt (c + (((sqs B).filter (cond B G i)).length : Int))) (Int32.ofInt (i + 1)) s := j1
      rw [j1]
      obtain ⟨i1, i2⟩ := ih F (i + 1) (c + (((sqs B).filter (cond B G i)).length : Int)) s h hC (by omega) (by omega) (by omega) (by omega) e (by omega)
      refine ⟨fun q => i1 (by omega), fun q => ?_⟩
      obtain ⟨s', q1, q2, q3⟩ := i2 (by omega)
      refine ⟨s', q1, ?_, q3⟩
      have : (w - c).toNat = (mv1 B G i).length + (w - (c + (((sqs B).filter (cond B G i)).length : Int))).toNat := by rw [hm1]; omega
      rw [this, List.getD_eq_getElem?_getD, List.getElem?_append_right (by omega), Nat.add_sub_cancel_left, ← List.getD_eq_getElem?_getD]
      exact q2
    · obtain ⟨s', c', q1, q2, q3⟩ := j2 (show w < c + (((sqs B).filter (cond B G i)).length : Int) by omega)
      refine ⟨fun q => by omega, fun q => ⟨s', q1, ?_, ?_⟩⟩
      · have hlt : (w - c).toNat < (mv1 B G i).length := by rw [hm1]; omega
        rw [List.getD_eq_getElem?_getD, List.getElem?_append_left hlt, ← List.getD_eq_getElem?_getD]
        have hlt2 : (w - c).toNat < ((sqs B).filter (cond B G i)).length := by omega
        have : (mv1 B G i).getD (w - c).toNat (0, 0) = (i, ((sqs B).filter (cond B G i)).getD (w - c).toNat 0) := by
          unfold mv1
          rw [List.getD_eq_getElem?_getD, List.getD_eq_getElem?_getD, List.getElem?_map, List.getElem?_eq_getElem hlt2]
          rfl
        rw [this]
        exact q2
      · rw [q3]
        have hmm' := m_manMany (MA_Sd h q1)
        obtain ⟨F, rfl⟩ : ∃ F', F = F' + 1 := ⟨F - 1, by omega⟩
        have h68 : s'.1 65 68 = Int32.ofInt w := q2.1
        by_cases e4 : bM B ≤ i + 1
        · simp (disch := omega) only [f_X10_chooses_L21, hmm', h68, n_i8, n_i16, n_0, n_31, n_add, n_sub, n_mul, n_neg, n_div, n_rem, n_le_t, n_le_f, n_lt_t, n_lt_f, n_eq_t, n_eq_f, n_cl, n_gd, n_gdt, n_nz, Int.reduceToNat, Int.reduceAdd, Int.reduceSub, Int.reduceMul, Int.reduceNeg, Int.reduceLT, Int.reduceLE, Int.reduceEq, Int.reduceDiv, Int.reduceMod, Nat.reduceAdd, Nat.reduceMul, ↓reduceIte, u_eq, u_no, u_nk, u_ek, u_2, u_3, j_1, j_3, j_eq, j_no, j_nk, lt_def, Option.bind_some]
        · simp (disch := omega) only [f_X10_chooses_L21, hmm', h68, n_i8, n_i16, n_0, n_31, n_add, n_sub, n_mul, n_neg, n_div, n_rem, n_le_t, n_le_f, n_lt_t, n_lt_f, n_eq_t, n_eq_f, n_cl, n_gd, n_gdt, n_nz, Int.reduceToNat, Int.reduceAdd, Int.reduceSub, Int.reduceMul, Int.reduceNeg, Int.reduceLT, Int.reduceLE, Int.reduceEq, Int.reduceDiv, Int.reduceMod, Nat.reduceAdd, Nat.reduceMul, ↓reduceIte, u_eq, u_no, u_nk, u_ek, u_2, u_3, j_1, j_3, j_eq, j_no, j_nk, lt_def, Option.bind_some]
/-- the move of that number -/
def chz (B : Brd) (G : Gam) (w : Int) : CA := if w < 0 ∨ ct B G = true ∨ ((mvl B G).length : Int) ≤ w then (-1, 0, 0, 0, 0) else (w, 0, 0, ((mvl B G).getD w.toNat (0, 0)).1, ((mvl B G).getD w.toNat (0, 0)).2)
theorem m_chooses {B : Brd} {G : Gam} {s : ST} (h : MA B G s) {w : Int} (hw0 : -2147483648 ≤ w) (hw1 : w ≤ 2147483647) : ∃ s', f_X10_chooses (Int32.ofInt w) s = some s' ∧ Sd s s' ∧ CH (chz B G w) s' := by
  have hS : Sd s (uI s 65 68 (Int32.ofInt (-1))) := by
    refine ⟨fun o k hk hk' => ?_, rfl⟩
    by_cases eo : o = 65
    · rw [u_nk (by omega)]
    · rw [u_no eo]
  have hA := MA_Sd h hS
  have hct := m_isCrownTaken hA
  have hM : bM B ≤ 8 := h.1.1.1.2.2.2.2.2.2.2.1; have hM0 : 0 ≤ bM B := h.1.1.1.2.2.2.2.2.2.1
  have hC0 : CH (-1, 0, 0, 0, 0) (uI s 65 68 (Int32.ofInt (-1))) := ⟨u_eq _ _ _ _, fun c => absurd rfl c⟩
  unfold chz
  by_cases e0 : w < 0
  · refine ⟨uI s 65 68 (Int32.ofInt (-1)), ?_, hS, ?_⟩
    · simp (disch := omega) only [f_X10_chooses, n_i8, n_i16, n_0, n_31, n_add, n_sub, n_mul, n_neg, n_div, n_rem, n_le_t, n_le_f, n_lt_t, n_lt_f, n_eq_t, n_eq_f, n_cl, n_gd, n_gdt, n_nz, Int.reduceToNat, Int.reduceAdd, Int.reduceSub, Int.reduceMul, Int.reduceNeg, Int.reduceLT, Int.reduceLE, Int.reduceEq, Int.reduceDiv, Int.reduceMod, Nat.reduceAdd, Nat.reduceMul, ↓reduceIte, u_eq, u_no, u_nk, u_ek, u_2, u_3, j_1, j_3, j_eq, j_no, j_nk, lt_def, Option.bind_some]
    · rw [if_pos (Or.inl e0)]
      exact hC0
  · cases e : ct B G with
    | true =>
      rw [e] at hct
      refine ⟨uI s 65 68 (Int32.ofInt (-1)), ?_, hS, ?_⟩
      · simp (disch := omega) only [f_X10_chooses, hct, bI_t, n_i8, n_i16, n_0, n_31, n_add, n_sub, n_mul, n_neg, n_div, n_rem, n_le_t, n_le_f, n_lt_t, n_lt_f, n_eq_t, n_eq_f, n_cl, n_gd, n_gdt, n_nz, Int.reduceToNat, Int.reduceAdd, Int.reduceSub, Int.reduceMul, Int.reduceNeg, Int.reduceLT, Int.reduceLE, Int.reduceEq, Int.reduceDiv, Int.reduceMod, Nat.reduceAdd, Nat.reduceMul, ↓reduceIte, u_eq, u_no, u_nk, u_ek, u_2, u_3, j_1, j_3, j_eq, j_no, j_nk, lt_def, Option.bind_some]
      · rw [if_pos (Or.inr (Or.inl rfl))]
        exact hC0
    | false =>
      rw [e] at hct
      obtain ⟨j1, j2⟩ := m_ch_L21 (G := G) (w := w) (by omega) hw1 (bM B).toNat fuel 0 0 (uI s 65 68 (Int32.ofInt (-1))) hA (u_eq _ _ _ _) (by omega) (by omega) (by unfold fuel; omega) (by omega) (by omega) (by omega)
      have hun : f_X10_chooses (Int32.ofInt w) s = f_X10_chooses_L21 fuel (Int32.ofInt w) (Int32.ofInt 0) (Int32.ofInt 0) (uI s 65 68 (Int32.ofInt (-1))) := by
        simp (disch := omega) only [f_X10_chooses, hct, bI_f, n_i8, n_i16, n_0, n_31, n_add, n_sub, n_mul, n_neg, n_div, n_rem, n_le_t, n_le_f, n_lt_t, n_lt_f, n_eq_t, n_eq_f, n_cl, n_gd, n_gdt, n_nz, Int.reduceToNat, Int.reduceAdd, Int.reduceSub, Int.reduceMul, Int.reduceNeg, Int.reduceLT, Int.reduceLE, Int.reduceEq, Int.reduceDiv, Int.reduceMod, Nat.reduceAdd, Nat.reduceMul, ↓reduceIte, u_eq, u_no, u_nk, u_ek, u_2, u_3, j_1, j_3, j_eq, j_no, j_nk, lt_def, Option.bind_some]
      rw [hun]
      by_cases e1 : ((mvl B G).length : Int) ≤ w
      · refine ⟨_, j1 (by rw [Int.zero_add]; exact e1), hS, ?_⟩
        rw [if_pos (Or.inr (Or.inr e1))]
        exact hC0
      · obtain ⟨s', q1, q2, q3⟩ := j2 (by rw [Int.zero_add]; exact Int.not_le.mp e1)
        refine ⟨s', q3, hS.tr q1, ?_⟩
        rw [if_neg (by simp; omega)]
        rw [Int.sub_zero] at q2
        exact q2
