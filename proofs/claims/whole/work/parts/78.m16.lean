/-! L3: what is kept by the reference -/
abbrev Ent : Type := Int × Int × Int × Int × Int
def en (e : Ent) (i : Int) : Int := if i = 0 then e.1 else if i = 1 then e.2.1 else if i = 2 then e.2.2.1 else if i = 3 then e.2.2.2.1 else e.2.2.2.2
def e0 : Ent := (0, 0, 0, 0, 0)
def kn (K : List Ent) : Int := if (K.length : Int) ≤ 40 then (K.length : Int) else 40
theorem kn_b (K : List Ent) : 0 ≤ kn K ∧ kn K ≤ 40 ∧ kn K ≤ (K.length : Int) := by unfold kn; split <;> omega
def kE (K : List Ent) (j : Int) : Ent := K.getD ((K.length : Int) - kn K + j).toNat e0
def RK (K : List Ent) (s : ST) : Prop := s.1 112 24 = Int32.ofInt (kn K) ∧ ∀ j i : Int, 0 ≤ j → j < kn K → 0 ≤ i → i ≤ 4 → s.1 112 (25 + 5 * j + i).toNat = Int32.ofInt (en (kE K j) i)
theorem RK_fr {K : List Ent} {s s' : ST} (h : RK K s) (hf : ∀ k : Nat, 24 ≤ k → s'.1 112 k = s.1 112 k) : RK K s' := by
  refine ⟨(hf 24 (by omega)).trans h.1, fun j i j1 j2 i1 i2 => (hf _ (by omega)).trans (h.2 j i j1 j2 i1 i2)⟩
theorem m_isKept_L (K : ST → Option ST) : ∀ (n F : Nat) (i : Int) (s : ST), 25 ≤ i → (n : Int) = 220 - i → n < F → ∃ s', (∀ o k : Nat, ¬ o = 112 → s'.1 o k = s.1 o k) ∧ s'.2 = s.2 ∧ (∀ k : Nat, s'.1 112 k = if i ≤ (k : Int) ∧ (k : Int) < 220 then s.1 112 (k + 5) else s.1 112 k) ∧ f_X10_isKept_L23 K F (Int32.ofInt i) s = K s' := by
  intro n
  induction n with
  | zero =>
    intro F i s h0 hn hF
    obtain ⟨F, rfl⟩ : ∃ F', F = F' + 1 := ⟨F - 1, by omega⟩
    refine ⟨s, fun _ _ _ => rfl, rfl, fun k => ?_, ?_⟩
    · rw [if_neg (by omega)]
    · simp (disch := omega) only [f_X10_isKept_L23, n_i8, n_i16, n_0, n_31, n_add, n_sub, n_mul, n_neg, n_div, n_rem, n_le_t, n_le_f, n_lt_t, n_lt_f, n_eq_t, n_eq_f, n_cl, n_gd, n_gdt, n_nz, Int.reduceToNat, Int.reduceAdd, Int.reduceSub, Int.reduceMul, Int.reduceNeg, Int.reduceLT, Int.reduceLE, Int.reduceEq, Int.reduceDiv, Int.reduceMod, Nat.reduceAdd, Nat.reduceMul, ↓reduceIte]
  | succ n ih =>
    intro F i s h0 hn hF
    obtain ⟨F, rfl⟩ : ∃ F', F = F' + 1 := ⟨F - 1, by omega⟩
    obtain ⟨s', q1, q2, q3, q4⟩ := ih F (i + 1) (uI s 112 i.toNat (s.1 112 (i + 5).toNat)) (by omega) (by omega) (by omega)
    refine ⟨s', fun o k ho => (q1 o k ho).trans (u_no ho), q2, fun k => ?_, ?_⟩
    · rw [q3 k]
      by_cases e : (k : Int) = i
      · rw [if_neg (by omega), if_pos (by omega), u_ek (by omega), show (i + 5).toNat = k + 5 by omega]
      · by_cases e2 : i + 1 ≤ (k : Int) ∧ (k : Int) < 220
        · rw [if_pos e2, if_pos (by omega), u_nk (by omega)]
        · rw [if_neg e2, if_neg (by omega), u_nk (by omega)]
    · rw [← q4]
      simp (disch := omega) only [f_X10_isKept_L23, n_i8, n_i16, n_0, n_31, n_add, n_sub, n_mul, n_neg, n_div, n_rem, n_le_t, n_le_f, n_lt_t, n_lt_f, n_eq_t, n_eq_f, n_cl, n_gd, n_gdt, n_nz, Int.reduceToNat, Int.reduceAdd, Int.reduceSub, Int.reduceMul, Int.reduceNeg, Int.reduceLT, Int.reduceLE, Int.reduceEq, Int.reduceDiv, Int.reduceMod, Nat.reduceAdd, Nat.reduceMul, ↓reduceIte, u_eq, u_no, u_nk, u_ek, u_2, u_3, j_1, j_3, j_eq, j_no, j_nk, lt_def, Option.bind_some]
def kput (s : ST) (n d m x y t : Int) : ST := uI (uI (uI (uI (uI s 112 (25 + 5 * n - 5).toNat (Int32.ofInt d)) 112 (25 + 5 * n - 5 + 1).toNat (Int32.ofInt m)) 112 (25 + 5 * n - 5 + 2).toNat (Int32.ofInt x)) 112 (25 + 5 * n - 5 + 3).toNat (Int32.ofInt y)) 112 (25 + 5 * n - 5 + 4).toNat (Int32.ofInt t)
theorem m_isKept_j {s : ST} {n d m k t W : Int} (hn1 : 1 ≤ n) (hn2 : n ≤ 40) (hk0 : 0 ≤ k) (hk1 : k ≤ 1000) (hW0 : 0 < W) (hW1 : W ≤ 5) (h24 : s.1 112 24 = Int32.ofInt n) (h0 : s.1 112 0 = Int32.ofInt d) (h69 : s.1 65 69 = Int32.ofInt m) (h70 : s.1 65 70 = Int32.ofInt k) (h4 : s.1 103 4 = Int32.ofInt W) (h77 : s.1 65 77 = Int32.ofInt t) : f_X10_isKept_j64 s = some (kput s n d m (k % W) (k / W) t) := by
  have hR : k - k / W * W = k % W := n_rem k W
  unfold kput
  simp (disch := omega) only [f_X10_isKept_j64, h24, h0, h69, h70, h4, h77, hR, n_i8, n_i16, n_0, n_31, n_add, n_sub, n_mul, n_neg, n_div, n_rem, n_le_t, n_le_f, n_lt_t, n_lt_f, n_eq_t, n_eq_f, n_cl, n_gd, n_gdt, n_nz, Int.reduceToNat, Int.reduceAdd, Int.reduceSub, Int.reduceMul, Int.reduceNeg, Int.reduceLT, Int.reduceLE, Int.reduceEq, Int.reduceDiv, Int.reduceMod, Nat.reduceAdd, Nat.reduceMul, ↓reduceIte, u_eq, u_no, u_nk, u_ek, u_2, u_3, j_1, j_3, j_eq, j_no, j_nk, lt_def, Option.bind_some, Int.toNat_zero]
theorem kE_snoc {K : List Ent} {e : Ent} {j : Int} (h : (K.length : Int) < 40) (h0 : 0 ≤ j) (h1 : j < (K.length : Int)) : kE (K ++ [e]) j = kE K j := by
  unfold kE kn
  rw [List.length_append, List.length_singleton, if_pos (by omega), if_pos (by omega)]
  rw [List.getD_eq_getElem?_getD, List.getD_eq_getElem?_getD, List.getElem?_append_left (by omega)]
  congr 2
  omega
theorem kE_last {K : List Ent} {e : Ent} : kE (K ++ [e]) (kn (K ++ [e]) - 1) = e := by
  have hb := kn_b (K ++ [e])
  unfold kE
  rw [List.length_append, List.length_singleton] at *
  rw [List.getD_eq_getElem?_getD, List.getElem?_append_right (by omega)]
  have : ((((K.length + 1 : Nat) : Int) - kn (K ++ [e]) + (kn (K ++ [e]) - 1)).toNat - K.length) = 0 := by omega
  rw [this]
  rfl
theorem kE_full {K : List Ent} {e : Ent} {j : Int} (h : 40 ≤ (K.length : Int)) (h0 : 0 ≤ j) (h1 : j < 39) : kE (K ++ [e]) j = kE K (j + 1) := by
  have e1 : kn (K ++ [e]) = 40 := by unfold kn; rw [List.length_append, List.length_singleton]; split <;> omega
  have e2 : kn K = 40 := by unfold kn; split <;> omega
  unfold kE
  rw [e1, e2, List.length_append, List.length_singleton]
  rw [List.getD_eq_getElem?_getD, List.getD_eq_getElem?_getD, List.getElem?_append_left (by omega)]
  congr 2
  omega
theorem RK_put {K : List Ent} {s s1 : ST} {d m x y t : Int} (h24 : s1.1 112 24 = Int32.ofInt (kn (K ++ [(d, m, x, y, t)]))) (hold : ∀ j i : Int, 0 ≤ j → j < kn (K ++ [(d, m, x, y, t)]) - 1 → 0 ≤ i → i ≤ 4 → s1.1 112 (25 + 5 * j + i).toNat = Int32.ofInt (en (kE (K ++ [(d, m, x, y, t)]) j) i)) : RK (K ++ [(d, m, x, y, t)]) (kput s1 (kn (K ++ [(d, m, x, y, t)])) d m x y t) := by
  have hb := kn_b (K ++ [(d, m, x, y, t)])
  have hl : ((K ++ [(d, m, x, y, t)]).length : Int) = (K.length : Int) + 1 := by rw [List.length_append, List.length_singleton]; omega
  have hn1 : 1 ≤ kn (K ++ [(d, m, x, y, t)]) := by
    have : kn (K ++ [(d, m, x, y, t)]) = if ((K ++ [(d, m, x, y, t)]).length : Int) ≤ 40 then ((K ++ [(d, m, x, y, t)]).length : Int) else 40 := rfl
    rw [hl] at this
    split at this <;> omega
  have hlast : kE (K ++ [(d, m, x, y, t)]) (kn (K ++ [(d, m, x, y, t)]) - 1) = (d, m, x, y, t) := kE_last
  unfold RK
  generalize kn (K ++ [(d, m, x, y, t)]) = n at *
  refine ⟨?_, fun j i j1 j2 i1 i2 => ?_⟩
  · unfold kput
    rw [u_nk (by omega), u_nk (by omega), u_nk (by omega), u_nk (by omega), u_nk (by omega)]
    exact h24
  · by_cases e : j = n - 1
    · rw [e, hlast]
      have hi : i = 0 ∨ i = 1 ∨ i = 2 ∨ i = 3 ∨ i = 4 := by omega
      unfold kput
      rcases hi with rfl | rfl | rfl | rfl | rfl
      · rw [u_nk (by omega), u_nk (by omega), u_nk (by omega), u_nk (by omega), u_ek (by omega)]; rfl
      · rw [u_nk (by omega), u_nk (by omega), u_nk (by omega), u_ek (by omega)]; rfl
      · rw [u_nk (by omega), u_nk (by omega), u_ek (by omega)]; rfl
      · rw [u_nk (by omega), u_ek (by omega)]; rfl
      · rw [u_ek (by omega)]; rfl
    · unfold kput
      rw [u_nk (by omega), u_nk (by omega), u_nk (by omega), u_nk (by omega), u_nk (by omega)]
      exact hold j i j1 (by omega) i1 i2
theorem m_isKept {K : List Ent} {s : ST} {d m k t W : Int} (h75 : s.1 65 75 = Int32.ofInt 0) (hK : RK K s) (hk0 : 0 ≤ k) (hk1 : k ≤ 1000) (hW0 : 0 < W) (hW1 : W ≤ 5) (h0 : s.1 112 0 = Int32.ofInt d) (h69 : s.1 65 69 = Int32.ofInt m) (h70 : s.1 65 70 = Int32.ofInt k) (h4 : s.1 103 4 = Int32.ofInt W) (h77 : s.1 65 77 = Int32.ofInt t) : ∃ s', f_X10_isKept s = some s' ∧ RK (K ++ [(d, m, k % W, k / W, t)]) s' ∧ (∀ o k' : Nat, ¬ (o = 112 ∧ 24 ≤ k') → s'.1 o k' = s.1 o k') ∧ s'.2 = s.2 := by
  have hb := kn_b K
  have h24 := hK.1
  generalize he : (d, m, k % W, k / W, t) = e
  have hn : kn (K ++ [e]) = if (K.length : Int) < 40 then (K.length : Int) + 1 else 40 := by
    unfold kn
    rw [List.length_append, List.length_singleton]
    split <;> split <;> omega
  by_cases e1 : (K.length : Int) < 40
  · rw [if_pos e1] at hn
    have hnk : kn K = (K.length : Int) := by unfold kn; rw [if_pos (by omega)]
    have hs1 : RK (K ++ [e]) (kput (uI s 112 24 (Int32.ofInt (kn (K ++ [e])))) (kn (K ++ [e])) d m (k % W) (k / W) t) := by
      rw [← he]
      refine RK_put (s := s) (by rw [u_eq]) (fun j i j1 j2 i1 i2 => ?_)
      rw [he] at j2 ⊢
      rw [u_nk (by omega), kE_snoc e1 j1 (by omega)]
      exact hK.2 j i j1 (by omega) i1 i2
    refine ⟨_, ?_, hs1, ?_, rfl⟩
    · have hj := m_isKept_j (s := uI s 112 24 (Int32.ofInt (kn (K ++ [e])))) (n := kn (K ++ [e])) (d := d) (m := m) (k := k) (t := t) (W := W) (by omega) (by omega) hk0 hk1 hW0 hW1 (by rw [u_eq]) (by rw [u_nk (by omega)]; exact h0) (by rw [u_no (by omega)]; exact h69) (by rw [u_no (by omega)]; exact h70) (by rw [u_no (by omega)]; exact h4) (by rw [u_no (by omega)]; exact h77)
      rw [← hj, hn]
      rw [hnk] at h24
      simp (disch := omega) only [f_X10_isKept, h75, h24, n_i8, n_i16, n_0, n_31, n_add, n_sub, n_mul, n_neg, n_div, n_rem, n_le_t, n_le_f, n_lt_t, n_lt_f, n_eq_t, n_eq_f, n_cl, n_gd, n_gdt, n_nz, Int.reduceToNat, Int.reduceAdd, Int.reduceSub, Int.reduceMul, Int.reduceNeg, Int.reduceLT, Int.reduceLE, Int.reduceEq, Int.reduceDiv, Int.reduceMod, Nat.reduceAdd, Nat.reduceMul, ↓reduceIte, u_eq, u_no, u_nk, u_ek, u_2, u_3, j_1, j_3, j_eq, j_no, j_nk, lt_def, Option.bind_some]
    · intro o k' hk'
      unfold kput
      rw [hn]
      (simp only [ua, ja, u_2, u_3, j_1, j_3]; (repeat' split) <;> first | rfl | (exfalso; omega))
  · rw [if_neg e1] at hn
    have hnk : kn K = 40 := by unfold kn; split <;> omega
    rw [hnk] at h24
    obtain ⟨s1, q1, q2, q3, q4⟩ := m_isKept_L f_X10_isKept_j64 195 fuel 25 s (by omega) (by omega) (by unfold fuel; omega)
    have g24 : s1.1 112 24 = Int32.ofInt (kn (K ++ [e])) := by rw [q3 24, if_neg (by omega), hn]; exact h24
    have hs1 : RK (K ++ [e]) (kput s1 (kn (K ++ [e])) d m (k % W) (k / W) t) := by
      rw [← he] at g24 ⊢
      refine RK_put (s := s) g24 (fun j i j1 j2 i1 i2 => ?_)
      rw [he] at j2 ⊢
      rw [kE_full (by omega) j1 (by omega), q3, if_pos (by omega), ← hK.2 (j + 1) i (by omega) (by omega) i1 i2, show (25 + 5 * j + i).toNat + 5 = (25 + 5 * (j + 1) + i).toNat by omega]
    refine ⟨_, ?_, hs1, ?_, q2⟩
    · have hj := m_isKept_j (s := s1) (n := kn (K ++ [e])) (d := d) (m := m) (k := k) (t := t) (W := W) (by omega) (by omega) hk0 hk1 hW0 hW1 g24 (by rw [q3 0, if_neg (by omega)]; exact h0) (by rw [q1 65 69 (by omega)]; exact h69) (by rw [q1 65 70 (by omega)]; exact h70) (by rw [q1 103 4 (by omega)]; exact h4) (by rw [q1 65 77 (by omega)]; exact h77)
      rw [← hj, ← q4]
      simp (disch := omega) only [f_X10_isKept, h75, h24, n_i8, n_i16, n_0, n_31, n_add, n_sub, n_mul, n_neg, n_div, n_rem, n_le_t, n_le_f, n_lt_t, n_lt_f, n_eq_t, n_eq_f, n_cl, n_gd, n_gdt, n_nz, Int.reduceToNat, Int.reduceAdd, Int.reduceSub, Int.reduceMul, Int.reduceNeg, Int.reduceLT, Int.reduceLE, Int.reduceEq, Int.reduceDiv, Int.reduceMod, Nat.reduceAdd, Nat.reduceMul, ↓reduceIte, u_eq, u_no, u_nk, u_ek, u_2, u_3, j_1, j_3, j_eq, j_no, j_nk, lt_def, Option.bind_some]
    · intro o k' hk'
      have : (kput s1 (kn (K ++ [e])) d m (k % W) (k / W) t).1 o k' = s1.1 o k' := by
        unfold kput
        rw [hn]
        (simp only [ua, ja, u_2, u_3, j_1, j_3]; (repeat' split) <;> first | rfl | (exfalso; omega))
      rw [this]
      by_cases eo : o = 112
      · subst eo
        rw [q3 k', if_neg (by omega)]
      · exact q1 o k' eo
/-- what an act's day may change -/
def Fk (s s' : ST) : Prop := (∀ o k : Nat, ¬ (o = 112) → ¬ (114 ≤ o ∧ o ≤ 117) → ¬ (o = 65 ∧ (k = 59 ∨ k = 117 ∨ (68 ≤ k ∧ k ≤ 70) ∨ k = 77)) → s'.1 o k = s.1 o k) ∧ (∀ o k : Nat, ¬ o = 148 → ¬ (o = 65 ∧ 71 ≤ k ∧ k ≤ 73) → s'.2.1 o k = s.2.1 o k) ∧ s'.2.2 = s.2.2
theorem Fk.rf (s : ST) : Fk s s := ⟨fun _ _ _ _ _ => rfl, fun _ _ _ _ => rfl, rfl⟩
theorem Fk.tr {s t u : ST} (h1 : Fk s t) (h2 : Fk t u) : Fk s u := ⟨fun o k a b c => (h2.1 o k a b c).trans (h1.1 o k a b c), fun o k a b => (h2.2.1 o k a b).trans (h1.2.1 o k a b), h2.2.2.trans h1.2.2⟩
theorem Fdy.fk {s t : ST} (h : Fdy s t) : Fk s t := ⟨fun o k a b c => h.1 o k (by omega) b c, h.2.1, h.2.2⟩
theorem MH_Fk {B : Brd} {s s' : ST} (h : MH B s) (hf : Fk s s') : MH B s' := MH_fr h (fun o k o1 o2 => hf.1 o k (by omega) (by omega) (by omega))
def keepA (B : Brd) (G : Gam) (A : CA) (K : List Ent) : List Ent := if A.1 = -1 then K else K ++ [(gd_ G, A.2.2.2.1, A.2.2.2.2 % bW B, A.2.2.2.2 / bW B, tkb B G A.2.2.2.2)]
theorem m_dayK {B : Brd} {G : Gam} {K : List Ent} {s : ST} (h : MA B G s) (hMH : MH B s) (hV : Hv B) (hK : RK K s) {A : CA} (hC : CH A s) (hA : okA B G A) (hd : gd_ G ≤ 999) (ht : s.1 65 75 = Int32.ofInt 0) : ∃ s', f_X10_dayGoes s = some s' ∧ Fk s s' ∧ MA B (dayG B G A) s' ∧ RK (keepA B G A K) s' ∧ (¬ A.1 = -1 → s'.1 65 77 = Int32.ofInt (tkb B G A.2.2.2.2)) := by
  have c68 := hC.1
  by_cases e : A.1 = -1
  · have hA2 := MA_flip h
    have hgs := h.2.1.1.2.2
    have hs1 := m_side h
    obtain ⟨s1, q1, q2, q3⟩ := m_dayEnd hA2 hd
    have f1 : Fdy s s1 := Fdy.tr (by exact ⟨fun o k a b c => by (simp only [ua, ja, u_2, u_3, j_1, j_3]; (repeat' split) <;> first | rfl | (exfalso; omega)), fun o k a b => rfl, rfl⟩) q2.fd
    refine ⟨s1, ?_, f1.fk, ?_, ?_, fun c => absurd e c⟩
    · rw [← q1]
      rw [e] at c68
      simp (disch := omega) only [f_X10_dayGoes, c68, hs1, n_i8, n_i16, n_0, n_31, n_add, n_sub, n_mul, n_neg, n_div, n_rem, n_le_t, n_le_f, n_lt_t, n_lt_f, n_eq_t, n_eq_f, n_cl, n_gd, n_gdt, n_nz, Int.reduceToNat, Int.reduceAdd, Int.reduceSub, Int.reduceMul, Int.reduceNeg, Int.reduceLT, Int.reduceLE, Int.reduceEq, Int.reduceDiv, Int.reduceMod, Nat.reduceAdd, Nat.reduceMul, ↓reduceIte, u_eq, u_no, u_nk, u_ek, u_2, u_3, j_1, j_3, j_eq, j_no, j_nk, lt_def, Option.bind_some, Int.toNat_one]
    · unfold dayG; rw [if_pos e]; exact q3
    · unfold keepA; rw [if_pos e]; exact RK_fr hK (fun k hk => f1.1 112 k (by omega) (by omega) (by omega))
  · obtain ⟨s1, q1, q2, q3, q4, q5⟩ := m_plays h hMH hV hC hA e
    have hA' := hA
    rcases hA' with hA' | ⟨-, m1, m2, k1, k2, hsd, hgo⟩
    · exact absurd hA' e
    have hW : bW B ≤ 5 := h.1.1.1.2.1; have hH : bH B ≤ 5 := h.1.1.1.2.2.2.1; have hW0 : 0 ≤ bW B := h.1.1.1.1; have hH0 : 0 ≤ bH B := h.1.1.1.2.2.1; have hWH : bW B * bH B ≤ 25 := (Int.mul_le_mul hW hH hH0 (by omega)); have hWH0 : 0 ≤ bW B * bH B := Int.mul_nonneg hW0 hH0
    have hWp : 0 < bW B := by
      rcases Int.lt_or_eq_of_le hW0 with e | e
      · exact e
      · rw [← e] at k2; omega
    have ht1 : s1.1 65 75 = Int32.ofInt 0 := (q2.1 65 75 (by omega) (by omega) (by omega)).trans ht
    have hdd : s1.1 112 0 = Int32.ofInt (gd_ G) := by have := m_day q5; rw [strG_d] at this; exact this
    obtain ⟨s2, r1, r2, r3, r4⟩ := m_isKept (K := K) (d := gd_ G) (W := bW B) ht1 (RK_fr hK (fun k hk => q2.1 112 k (by omega) (by omega) (by omega))) k1 (by omega) hWp hW hdd (q3.2 e).1 (q3.2 e).2 q5.2.2.1.1.2.2.2.1 q4
    have q5' : MA B (strG B G A.2.2.2.1 A.2.2.2.2) s2 := MA_fr q5 (fun o k hk => r3 o k (by omega))
    obtain ⟨s3, q6, q7, q8⟩ := m_dayEnd q5' (by rw [strG_d]; exact hd)
    refine ⟨s3, ?_, (q2.fk.tr ⟨fun o k a b c => r3 o k (by omega), fun o k a b => by rw [r4], by rw [r4]⟩).tr q7.fd.fk, ?_, ?_, fun _ => ?_⟩
    · have hne : ¬ s.1 65 68 = Int32.ofInt (-1) := by
        rw [c68]
        rcases hA with hA | hA
        · exact absurd hA e
        · rw [n_eq (by omega) (by omega) (by omega) (by omega)]
          exact e
      rw [r1] at q1
      rw [← q6]
      unfold f_X10_dayGoes
      rw [if_neg hne, q1]
      rfl
    · unfold dayG; rw [if_neg e]; exact q8
    · unfold keepA; rw [if_neg e]; exact RK_fr r2 (fun k hk => q7.1 112 k (by omega))
    · rw [q7.1 65 77 (by omega), r3 65 77 (by omega)]; exact q4
