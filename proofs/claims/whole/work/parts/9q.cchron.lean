/-! L3: what the class keeps -/
def enc (e : Ent) : Int := (e.1 * 200 + (25 * e.2.1 + (5 * e.2.2.2.1 + e.2.2.1))) * 256 + e.2.2.2.2
def KV (e : Ent) : Prop := (0 ≤ e.1 ∧ e.1 ≤ 999) ∧ (0 ≤ e.2.1 ∧ e.2.1 < 8) ∧ (0 ≤ e.2.2.1 ∧ e.2.2.1 < 5) ∧ (0 ≤ e.2.2.2.1 ∧ e.2.2.2.1 < 5) ∧ (0 ≤ e.2.2.2.2 ∧ e.2.2.2.2 ≤ 255)
def CK (K : List Ent) (s : ST) : Prop := s.1 56 1 = Int32.ofInt (K.length : Int) ∧ K.length ≤ 999 ∧ ∀ j : Nat, j < K.length → s.1 57 j = Int32.ofInt (enc (K.getD j e0)) ∧ KV (K.getD j e0)
theorem CK_fr {K : List Ent} {s s' : ST} (h : CK K s) (h1 : s'.1 56 1 = s.1 56 1) (h2 : ∀ k : Nat, s'.1 57 k = s.1 57 k) : CK K s' := ⟨h1.trans h.1, h.2.1, fun j hj => ⟨(h2 j).trans (h.2.2 j hj).1, (h.2.2 j hj).2⟩⟩
theorem CK_pre {K K' : List Ent} {s s' : ST} (h : CK K s) (hp : K' <+: K) (h1 : s'.1 56 1 = Int32.ofInt (K'.length : Int)) (h2 : ∀ k : Nat, s'.1 57 k = s.1 57 k) : CK K' s' := by
  have hl := hp.length_le
  refine ⟨h1, by have := h.2.1; omega, fun j hj => ?_⟩
  have : K'.getD j e0 = K.getD j e0 := by
    obtain ⟨t, rfl⟩ := hp
    rw [List.getD_eq_getElem?_getD, List.getD_eq_getElem?_getD, List.getElem?_append_left hj]
  rw [this]
  have hh := h.2.2 j (by omega)
  exact ⟨(h2 j).trans hh.1, hh.2⟩
theorem on999 : Int32.ofNat 999 = Int32.ofInt 999 := rfl
theorem c_told {K : List Ent} {s : ST} (h : CK K s) : f_X0_told s = some (Int32.ofInt (kn K), s) := by
  have h1 := h.1
  have h2 := h.2.1
  unfold kn
  by_cases e : (K.length : Int) ≤ 40
  · rw [if_pos e]
    simp (disch := omega) only [f_X0_told, h1, n_i8, n_i16, n_0, n_31, n_add, n_sub, n_mul, n_neg, n_div, n_rem, n_le_t, n_le_f, n_lt_t, n_lt_f, n_eq_t, n_eq_f, n_cl, n_gd, n_gdt, n_nz, Int.reduceToNat, Int.reduceAdd, Int.reduceSub, Int.reduceMul, Int.reduceNeg, Int.reduceLT, Int.reduceLE, Int.reduceEq, Int.reduceDiv, Int.reduceMod, Nat.reduceAdd, Nat.reduceMul, ↓reduceIte, u_eq, u_no, u_nk, u_ek, u_2, u_3, j_1, j_3, j_eq, j_no, j_nk, ltd, bnd]
  · rw [if_neg e]
    simp (disch := omega) only [f_X0_told, h1, n_i8, n_i16, n_0, n_31, n_add, n_sub, n_mul, n_neg, n_div, n_rem, n_le_t, n_le_f, n_lt_t, n_lt_f, n_eq_t, n_eq_f, n_cl, n_gd, n_gdt, n_nz, Int.reduceToNat, Int.reduceAdd, Int.reduceSub, Int.reduceMul, Int.reduceNeg, Int.reduceLT, Int.reduceLE, Int.reduceEq, Int.reduceDiv, Int.reduceMod, Nat.reduceAdd, Nat.reduceMul, ↓reduceIte, u_eq, u_no, u_nk, u_ek, u_2, u_3, j_1, j_3, j_eq, j_no, j_nk, ltd, bnd]
theorem c_tell {K : List Ent} {s : ST} (h : CK K s) {k w : Int} (k1 : -2147483648 ≤ k) (k2 : k ≤ 2147483647) (w1 : -2147483648 ≤ w) (w2 : w ≤ 2147483647) : f_X0_tell (Int32.ofInt k) (Int32.ofInt w) s = some (Int32.ofInt (if (0 ≤ k ∧ k < kn K) ∧ (0 ≤ w ∧ w ≤ 4) then en (kE K k) w else -1), s) := by
  have hb := kn_b K
  have ht := c_told h
  have h1 := h.1
  have h2 := h.2.1
  by_cases e1 : k < 0
  · rw [if_neg (by omega)]
    simp (disch := omega) only [f_X0_tell, ht, n_i8, n_i16, n_0, n_31, n_add, n_sub, n_mul, n_neg, n_div, n_rem, n_le_t, n_le_f, n_lt_t, n_lt_f, n_eq_t, n_eq_f, n_cl, n_gd, n_gdt, n_nz, Int.reduceToNat, Int.reduceAdd, Int.reduceSub, Int.reduceMul, Int.reduceNeg, Int.reduceLT, Int.reduceLE, Int.reduceEq, Int.reduceDiv, Int.reduceMod, Nat.reduceAdd, Nat.reduceMul, ↓reduceIte, u_eq, u_no, u_nk, u_ek, u_2, u_3, j_1, j_3, j_eq, j_no, j_nk, ltd, bnd]
  by_cases e2 : k < kn K
  · have hj := h.2.2 ((K.length : Int) - kn K + k).toNat (by omega)
    have hkE : kE K k = K.getD ((K.length : Int) - kn K + k).toNat e0 := rfl
    rw [← hkE] at hj
    obtain ⟨hc, hv⟩ := hj
    unfold enc at hc
    unfold KV at hv
    generalize kE K k = E at *
    obtain ⟨d, m, x, y, t⟩ := E
    simp only at hc hv
    generalize hz : d * 200 + (25 * m + (5 * y + x)) = Z at *
    have a1 : (Z * 256 + t) / 256 = Z := by omega
    have a2 : Z * 256 + t - Z * 256 = t := by omega
    have a3 : Z / 200 = d := by omega
    have a4 : Z - d * 200 = 25 * m + (5 * y + x) := by omega
    have a5 : (5 * y + x) / 5 = y := by omega
    have a6 : 5 * y + x - y * 5 = x := by omega
    have hma := fun s => c_man (s := s) (m := m) (q := 5 * y + x) (by omega) (by omega) (by omega) (by omega)
    have hpa := fun s => c_plc (s := s) (m := m) (q := 5 * y + x) (by omega) (by omega) (by omega) (by omega)
    by_cases v0 : w = 0
    · subst v0
      rw [if_pos (by omega), show en (d, m, x, y, t) 0 = d from rfl]
      simp (disch := omega) only [f_X0_tell, ht, h1, hc, hma, hpa, a1, a2, a3, a4, a5, a6, n_l1, n_l2, n_l3, n_l4, n_l5, n_l6, n_l7, n_l8, n_l9, n_l10, n_l11, n_l12, n_l13, n_l14, n_l15, n_l16, n_l17, n_l18, n_l19, n_l20, n_l21, n_l22, n_l23, n_l24, n_l25, n_l26, n_l27, n_l28, n_l29, n_l30, n_l31, n_l32, n_l33, n_l34, n_l35, n_l36, n_l37, n_l38, n_l39, n_l40, n_l41, n_l42, n_l43, n_l44, n_l45, n_l46, n_l47, n_l48, n_l49, n_l50, n_l51, n_l52, n_l53, n_l54, n_l55, n_l56, n_l57, n_l58, n_l59, n_l60, n_i8, n_i16, n_0, n_31, n_add, n_sub, n_mul, n_neg, n_div, n_rem, n_le_t, n_le_f, n_lt_t, n_lt_f, n_eq_t, n_eq_f, n_cl, n_gd, n_gdt, n_nz, Int.reduceToNat, Int.reduceAdd, Int.reduceSub, Int.reduceMul, Int.reduceNeg, Int.reduceLT, Int.reduceLE, Int.reduceEq, Int.reduceDiv, Int.reduceMod, Nat.reduceAdd, Nat.reduceMul, ↓reduceIte, u_eq, u_no, u_nk, u_ek, u_2, u_3, j_1, j_3, j_eq, j_no, j_nk, ltd, bnd]
    by_cases v1 : w = 1
    · subst v1
      rw [if_pos (by omega), show en (d, m, x, y, t) 1 = m from rfl]
      simp (disch := omega) only [f_X0_tell, ht, h1, hc, hma, hpa, a1, a2, a3, a4, a5, a6, n_l1, n_l2, n_l3, n_l4, n_l5, n_l6, n_l7, n_l8, n_l9, n_l10, n_l11, n_l12, n_l13, n_l14, n_l15, n_l16, n_l17, n_l18, n_l19, n_l20, n_l21, n_l22, n_l23, n_l24, n_l25, n_l26, n_l27, n_l28, n_l29, n_l30, n_l31, n_l32, n_l33, n_l34, n_l35, n_l36, n_l37, n_l38, n_l39, n_l40, n_l41, n_l42, n_l43, n_l44, n_l45, n_l46, n_l47, n_l48, n_l49, n_l50, n_l51, n_l52, n_l53, n_l54, n_l55, n_l56, n_l57, n_l58, n_l59, n_l60, n_i8, n_i16, n_0, n_31, n_add, n_sub, n_mul, n_neg, n_div, n_rem, n_le_t, n_le_f, n_lt_t, n_lt_f, n_eq_t, n_eq_f, n_cl, n_gd, n_gdt, n_nz, Int.reduceToNat, Int.reduceAdd, Int.reduceSub, Int.reduceMul, Int.reduceNeg, Int.reduceLT, Int.reduceLE, Int.reduceEq, Int.reduceDiv, Int.reduceMod, Nat.reduceAdd, Nat.reduceMul, ↓reduceIte, u_eq, u_no, u_nk, u_ek, u_2, u_3, j_1, j_3, j_eq, j_no, j_nk, ltd, bnd]
    by_cases v2 : w = 2
    · subst v2
      rw [if_pos (by omega), show en (d, m, x, y, t) 2 = x from rfl]
      simp (disch := omega) only [f_X0_tell, ht, h1, hc, hma, hpa, a1, a2, a3, a4, a5, a6, n_l1, n_l2, n_l3, n_l4, n_l5, n_l6, n_l7, n_l8, n_l9, n_l10, n_l11, n_l12, n_l13, n_l14, n_l15, n_l16, n_l17, n_l18, n_l19, n_l20, n_l21, n_l22, n_l23, n_l24, n_l25, n_l26, n_l27, n_l28, n_l29, n_l30, n_l31, n_l32, n_l33, n_l34, n_l35, n_l36, n_l37, n_l38, n_l39, n_l40, n_l41, n_l42, n_l43, n_l44, n_l45, n_l46, n_l47, n_l48, n_l49, n_l50, n_l51, n_l52, n_l53, n_l54, n_l55, n_l56, n_l57, n_l58, n_l59, n_l60, n_i8, n_i16, n_0, n_31, n_add, n_sub, n_mul, n_neg, n_div, n_rem, n_le_t, n_le_f, n_lt_t, n_lt_f, n_eq_t, n_eq_f, n_cl, n_gd, n_gdt, n_nz, Int.reduceToNat, Int.reduceAdd, Int.reduceSub, Int.reduceMul, Int.reduceNeg, Int.reduceLT, Int.reduceLE, Int.reduceEq, Int.reduceDiv, Int.reduceMod, Nat.reduceAdd, Nat.reduceMul, ↓reduceIte, u_eq, u_no, u_nk, u_ek, u_2, u_3, j_1, j_3, j_eq, j_no, j_nk, ltd, bnd]
    by_cases v3 : w = 3
    · subst v3
      rw [if_pos (by omega), show en (d, m, x, y, t) 3 = y from rfl]
      simp (disch := omega) only [f_X0_tell, ht, h1, hc, hma, hpa, a1, a2, a3, a4, a5, a6, n_l1, n_l2, n_l3, n_l4, n_l5, n_l6, n_l7, n_l8, n_l9, n_l10, n_l11, n_l12, n_l13, n_l14, n_l15, n_l16, n_l17, n_l18, n_l19, n_l20, n_l21, n_l22, n_l23, n_l24, n_l25, n_l26, n_l27, n_l28, n_l29, n_l30, n_l31, n_l32, n_l33, n_l34, n_l35, n_l36, n_l37, n_l38, n_l39, n_l40, n_l41, n_l42, n_l43, n_l44, n_l45, n_l46, n_l47, n_l48, n_l49, n_l50, n_l51, n_l52, n_l53, n_l54, n_l55, n_l56, n_l57, n_l58, n_l59, n_l60, n_i8, n_i16, n_0, n_31, n_add, n_sub, n_mul, n_neg, n_div, n_rem, n_le_t, n_le_f, n_lt_t, n_lt_f, n_eq_t, n_eq_f, n_cl, n_gd, n_gdt, n_nz, Int.reduceToNat, Int.reduceAdd, Int.reduceSub, Int.reduceMul, Int.reduceNeg, Int.reduceLT, Int.reduceLE, Int.reduceEq, Int.reduceDiv, Int.reduceMod, Nat.reduceAdd, Nat.reduceMul, ↓reduceIte, u_eq, u_no, u_nk, u_ek, u_2, u_3, j_1, j_3, j_eq, j_no, j_nk, ltd, bnd]
    by_cases v4 : w = 4
    · subst v4
      rw [if_pos (by omega), show en (d, m, x, y, t) 4 = t from rfl]
      simp (disch := omega) only [f_X0_tell, ht, h1, hc, hma, hpa, a1, a2, a3, a4, a5, a6, n_l1, n_l2, n_l3, n_l4, n_l5, n_l6, n_l7, n_l8, n_l9, n_l10, n_l11, n_l12, n_l13, n_l14, n_l15, n_l16, n_l17, n_l18, n_l19, n_l20, n_l21, n_l22, n_l23, n_l24, n_l25, n_l26, n_l27, n_l28, n_l29, n_l30, n_l31, n_l32, n_l33, n_l34, n_l35, n_l36, n_l37, n_l38, n_l39, n_l40, n_l41, n_l42, n_l43, n_l44, n_l45, n_l46, n_l47, n_l48, n_l49, n_l50, n_l51, n_l52, n_l53, n_l54, n_l55, n_l56, n_l57, n_l58, n_l59, n_l60, n_i8, n_i16, n_0, n_31, n_add, n_sub, n_mul, n_neg, n_div, n_rem, n_le_t, n_le_f, n_lt_t, n_lt_f, n_eq_t, n_eq_f, n_cl, n_gd, n_gdt, n_nz, Int.reduceToNat, Int.reduceAdd, Int.reduceSub, Int.reduceMul, Int.reduceNeg, Int.reduceLT, Int.reduceLE, Int.reduceEq, Int.reduceDiv, Int.reduceMod, Nat.reduceAdd, Nat.reduceMul, ↓reduceIte, u_eq, u_no, u_nk, u_ek, u_2, u_3, j_1, j_3, j_eq, j_no, j_nk, ltd, bnd]
    · rw [if_neg (by omega)]
      simp (disch := omega) only [f_X0_tell, ht, h1, hc, hma, hpa, a1, a2, a3, a4, a5, a6, n_l1, n_l2, n_l3, n_l4, n_l5, n_l6, n_l7, n_l8, n_l9, n_l10, n_l11, n_l12, n_l13, n_l14, n_l15, n_l16, n_l17, n_l18, n_l19, n_l20, n_l21, n_l22, n_l23, n_l24, n_l25, n_l26, n_l27, n_l28, n_l29, n_l30, n_l31, n_l32, n_l33, n_l34, n_l35, n_l36, n_l37, n_l38, n_l39, n_l40, n_l41, n_l42, n_l43, n_l44, n_l45, n_l46, n_l47, n_l48, n_l49, n_l50, n_l51, n_l52, n_l53, n_l54, n_l55, n_l56, n_l57, n_l58, n_l59, n_l60, n_i8, n_i16, n_0, n_31, n_add, n_sub, n_mul, n_neg, n_div, n_rem, n_le_t, n_le_f, n_lt_t, n_lt_f, n_eq_t, n_eq_f, n_cl, n_gd, n_gdt, n_nz, Int.reduceToNat, Int.reduceAdd, Int.reduceSub, Int.reduceMul, Int.reduceNeg, Int.reduceLT, Int.reduceLE, Int.reduceEq, Int.reduceDiv, Int.reduceMod, Nat.reduceAdd, Nat.reduceMul, ↓reduceIte, u_eq, u_no, u_nk, u_ek, u_2, u_3, j_1, j_3, j_eq, j_no, j_nk, ltd, bnd]
  · rw [if_neg (by omega)]
    simp (disch := omega) only [f_X0_tell, ht, n_i8, n_i16, n_0, n_31, n_add, n_sub, n_mul, n_neg, n_div, n_rem, n_le_t, n_le_f, n_lt_t, n_lt_f, n_eq_t, n_eq_f, n_cl, n_gd, n_gdt, n_nz, Int.reduceToNat, Int.reduceAdd, Int.reduceSub, Int.reduceMul, Int.reduceNeg, Int.reduceLT, Int.reduceLE, Int.reduceEq, Int.reduceDiv, Int.reduceMod, Nat.reduceAdd, Nat.reduceMul, ↓reduceIte, u_eq, u_no, u_nk, u_ek, u_2, u_3, j_1, j_3, j_eq, j_no, j_nk, ltd, bnd]
theorem c_keep {K : List Ent} {s : ST} (h : CK K s) (hl : K.length < 999) {d m q t : Int} (hv : KV (d, m, q % 5, q / 5, t)) (q0 : 0 ≤ q) (q1 : q < 25) : ∃ s', f_X0_keep (Int32.ofInt d) (Int32.ofInt (25 * m + q)) (Int32.ofInt t) s = some s' ∧ CK (K ++ [(d, m, q % 5, q / 5, t)]) s' ∧ (∀ a k : Nat, ¬ a = 57 → ¬ (a = 56 ∧ k = 1) → s'.1 a k = s.1 a k) ∧ s'.2 = s.2 := by
  have h1 := h.1
  have e1 : ((K.length : Int)).toNat = K.length := by omega
  refine ⟨uI (uI s 57 K.length (Int32.ofInt ((d * 200 + (25 * m + q)) * 256 + t))) 56 1 (Int32.ofInt ((K.length : Int) + 1)), ?_, ⟨?_, ?_, fun j hj => ?_⟩, ⟨fun a k x y => by (simp only [ua, ja, u_2, u_3, j_1, j_3]; (repeat' split) <;> first | rfl | (exfalso; omega)), rfl⟩⟩
  · simp (disch := omega) only [f_X0_keep, h1, on999, e1, n_i8, n_i16, n_0, n_31, n_add, n_sub, n_mul, n_neg, n_div, n_rem, n_le_t, n_le_f, n_lt_t, n_lt_f, n_eq_t, n_eq_f, n_cl, n_gd, n_gdt, n_nz, Int.reduceToNat, Int.reduceAdd, Int.reduceSub, Int.reduceMul, Int.reduceNeg, Int.reduceLT, Int.reduceLE, Int.reduceEq, Int.reduceDiv, Int.reduceMod, Nat.reduceAdd, Nat.reduceMul, ↓reduceIte, u_eq, u_no, u_nk, u_ek, u_2, u_3, j_1, j_3, j_eq, j_no, j_nk, ltd, bnd]
  · rw [u_eq, List.length_append]; rfl
  · rw [List.length_append, List.length_singleton]; omega
  · rw [List.length_append, List.length_singleton] at hj
    rw [u_no (by omega)]
    by_cases e : j = K.length
    · have : (K ++ [(d, m, q % 5, q / 5, t)]).getD j e0 = (d, m, q % 5, q / 5, t) := by
        rw [e, List.getD_eq_getElem?_getD, List.getElem?_append_right (by omega), Nat.sub_self]; rfl
      rw [this, u_ek e]
      refine ⟨?_, hv⟩
      show _ = Int32.ofInt ((d * 200 + (25 * m + (5 * (q / 5) + q % 5))) * 256 + t)
      rw [show 5 * (q / 5) + q % 5 = q by omega]
    · have : (K ++ [(d, m, q % 5, q / 5, t)]).getD j e0 = K.getD j e0 := by
        rw [List.getD_eq_getElem?_getD, List.getElem?_append_left (by omega), List.getD_eq_getElem?_getD]
      rw [this, u_nk e]
      exact h.2.2 j (by omega)
def rcd (B : Brd) (G : Gam) (n i : Nat) (s : ST) : Prop := s.1 58 (17 * i) = Int32.ofInt (gd_ G) ∧ s.1 58 (17 * i + 1) = Int32.ofInt (gs G) ∧ s.1 58 (17 * i + 2) = Int32.ofInt (n : Int) ∧ (∀ m : Int, 0 ≤ m → m < bM B → s.1 58 (17 * i + 3 + m.toNat) = Int32.ofInt (pl G m)) ∧ (∀ f : Int, 0 ≤ f → f < bF B → s.1 58 (17 * i + 11 + f.toNat) = Int32.ofInt (gb G f))
def CUl (B : Brd) : USn → ST → Prop
  | [], _ => True
  | (G, K) :: U, s => rcd B G K.length U.length s ∧ CUl B U s
def CU (B : Brd) (U : USn) (s : ST) : Prop := s.1 56 3 = Int32.ofInt (U.length : Int) ∧ U.length ≤ 20 ∧ CUl B U s
theorem rcd_sh {B : Brd} (hB : Bv B) {G : Gam} {n i j : Nat} {s s' : ST} (h : rcd B G n i s) (hf : ∀ k : Nat, k < 17 → s'.1 58 (17 * j + k) = s.1 58 (17 * i + k)) : rcd B G n j s' := by
  have hM : bM B ≤ 8 := hB.1.1.2.2.2.2.2.2.2.1
  have hF6 : bF B ≤ 6 := hB.1.1.2.2.2.2.2.2.2.2.2
  obtain ⟨a, b, c, d, e⟩ := h
  refine ⟨(hf 0 (by omega)).trans a, (hf 1 (by omega)).trans b, (hf 2 (by omega)).trans c, fun m m0 m1 => ?_, fun f f0 f1 => ?_⟩
  · rw [show 17 * j + 3 + m.toNat = 17 * j + (3 + m.toNat) by omega, hf _ (by omega), show 17 * i + (3 + m.toNat) = 17 * i + 3 + m.toNat by omega]; exact d m m0 m1
  · rw [show 17 * j + 11 + f.toNat = 17 * j + (11 + f.toNat) by omega, hf _ (by omega), show 17 * i + (11 + f.toNat) = 17 * i + 11 + f.toNat by omega]; exact e f f0 f1
theorem CUl_fr {B : Brd} (hB : Bv B) {s s' : ST} : ∀ {U : USn}, CUl B U s → (∀ k : Nat, k < 17 * U.length → s'.1 58 k = s.1 58 k) → CUl B U s'
  | [], _, _ => trivial
  | (G, K) :: U, h, hf => ⟨rcd_sh hB h.1 (fun k hk => hf _ (by rw [List.length_cons]; omega)), CUl_fr hB h.2 (fun k hk => hf k (by rw [List.length_cons]; omega))⟩
theorem CUl_sh {B : Brd} (hB : Bv B) {s s' : ST} (hf : ∀ k : Nat, k < 323 → s'.1 58 k = s.1 58 (k + 17)) : ∀ {U : USn}, CUl B U s → U.length ≤ 20 → CUl B U.dropLast s'
  | [], _, _ => trivial
  | [_], _, _ => trivial
  | (G, K) :: V :: U, h, hl => by
    rw [List.dropLast_cons₂]
    have hl' : U.length + 1 + 1 ≤ 20 := hl
    refine ⟨rcd_sh hB h.1 (fun k hk => ?_), CUl_sh hB hf h.2 (by rw [List.length_cons]; omega)⟩
    rw [List.length_dropLast]
    show s'.1 58 (17 * (U.length + 1 - 1) + k) = s.1 58 (17 * (U.length + 1) + k)
    rw [hf _ (by omega), show 17 * (U.length + 1 - 1) + k + 17 = 17 * (U.length + 1) + k by omega]
theorem cp_at {s : ST} {a0 a sp dp n k : Nat} : (cp s a0 a sp dp n).1 a k = if dp ≤ k ∧ k < dp + n then s.1 a0 (sp + (k - dp)) else s.1 a k := by
  unfold cp va_cpy
  simp only [if_true]
theorem n_cpk {α : Type} {x : Option α} {a b n : Int} {N M : Nat} (a0 : 0 ≤ a) (b0 : 0 ≤ b) (n0 : 0 ≤ n) (h1 : a + n ≤ (N : Int)) (h2 : b + n ≤ (M : Int)) (h3 : (N : Int) ≤ 100000) (h4 : (M : Int) ≤ 100000) : gd (cpk (Int32.ofInt a) (Int32.ofInt b) (Int32.ofInt n) N M) x = x := by
  have : cpk (Int32.ofInt a) (Int32.ofInt b) (Int32.ofInt n) N M = true := by
    unfold cpk
    refine decide_eq_true ?_
    rw [n_cl a0 (by omega), n_cl b0 (by omega), n_cl n0 (by omega), n_0, n_lt (by omega) (by omega) (by omega) (by omega), n_lt (by omega) (by omega) (by omega) (by omega), n_lt (by omega) (by omega) (by omega) (by omega)]
    omega
  rw [this]
  rfl
theorem k36 {α : Type} {x : Option α} : gd (kk 36 3) x = x := g_kk (Or.inl rfl)
theorem k38 {α : Type} {x : Option α} : gd (kk 38 13) x = x := g_k2 (o := 36) (Or.inl rfl)
theorem k39 {α : Type} {x : Option α} : gd (kk 39 13) x = x := g_k3 (o := 36) (Or.inl rfl)
theorem r364 {ρ : Nat → Option Nat} : RR ρ 36 4 = some 38 := g_r4 (o := 36) (Or.inl rfl)
theorem r365 {ρ : Nat → Option Nat} : RR ρ 36 5 = some 39 := g_r5 (o := 36) (Or.inl rfl)
theorem nn38 : (K0 38).2 = 8 := g_n2 (o := 36) (Or.inl rfl)
theorem nn39 : (K0 39).2 = 6 := g_n3 (o := 36) (Or.inl rfl)
theorem c_rem_j {B : Brd} {G : Gam} {p : Nat} {K : List Ent} {U : USn} {s : ST} (h : GT B G 36 p s) (g1 : s.1 36 1 = Int32.ofInt (gd_ G)) (hK : s.1 56 1 = Int32.ofInt (K.length : Int)) (hU : CU B U s) (hl : U.length < 20) : ∃ s', f_X0_remember_j32 36 s = some s' ∧ CU B ((G, K) :: U) s' ∧ (∀ a k : Nat, ¬ a = 58 → ¬ (a = 56 ∧ k = 3) → s'.1 a k = s.1 a k) ∧ s'.2 = s.2 := by
  obtain ⟨hGA, hGS, hGB⟩ := h
  have hB := hGA.1.1
  have hM : bM B ≤ 8 := hB.1.1.2.2.2.2.2.2.2.1
  have hF6 : bF B ≤ 6 := hB.1.1.2.2.2.2.2.2.2.2.2
  unfold GS at hGS
  have h3 := hU.1
  generalize hN : U.length = N at *
  have e0 : ((N : Int) * 17).toNat = 17 * N := by omega
  have e1 : ((N : Int) * 17 + 1).toNat = 17 * N + 1 := by omega
  have e2 : ((N : Int) * 17 + 2).toNat = 17 * N + 2 := by omega
  have e3 : ((N : Int) * 17 + 3).toNat = 17 * N + 3 := by omega
  have e4 : ((N : Int) * 17 + 3 + 8).toNat = 17 * N + 11 := by omega
  refine ⟨uI (cp (cp (uI (uI (uI s 58 (17 * N) (Int32.ofInt (gd_ G))) 58 (17 * N + 1) (Int32.ofInt (gs G))) 58 (17 * N + 2) (Int32.ofInt (K.length : Int))) 38 58 0 (17 * N + 3) 8) 39 58 0 (17 * N + 11) 6) 56 3 (Int32.ofInt ((N : Int) + 1)), ?_, ⟨?_, ?_, ⟨?_, ?_⟩⟩, fun a k x y => ?_, rfl⟩
  · simp (disch := omega) only [f_X0_remember_j32, h3, g1, hGS, hK, k36, k38, k39, r364, r365, nn38, nn39, n_cpk, cp_ne, e0, e1, e2, e3, e4, n_i8, n_i16, n_0, n_31, n_add, n_sub, n_mul, n_neg, n_div, n_rem, n_le_t, n_le_f, n_lt_t, n_lt_f, n_eq_t, n_eq_f, n_cl, n_gd, n_gdt, n_nz, Int.reduceToNat, Int.reduceAdd, Int.reduceSub, Int.reduceMul, Int.reduceNeg, Int.reduceLT, Int.reduceLE, Int.reduceEq, Int.reduceDiv, Int.reduceMod, Nat.reduceAdd, Nat.reduceMul, ↓reduceIte, u_eq, u_no, u_nk, u_ek, u_2, u_3, j_1, j_3, j_eq, j_no, j_nk, ltd, bnd, Int.toNat_zero]
  · rw [u_eq, List.length_cons, hN]; rfl
  · rw [List.length_cons, hN]; omega
  · rw [hN]
    refine ⟨?_, ?_, ?_, fun m m0 m1 => ?_, fun f f0 f1 => ?_⟩
    · rw [u_no (by omega), cp_at, if_neg (by omega), cp_at, if_neg (by omega), u_nk (by omega), u_nk (by omega), u_eq]
    · rw [u_no (by omega), cp_at, if_neg (by omega), cp_at, if_neg (by omega), u_nk (by omega), u_eq]
    · rw [u_no (by omega), cp_at, if_neg (by omega), cp_at, if_neg (by omega), u_eq]
    · rw [u_no (by omega), cp_at, if_neg (by omega), cp_at, if_pos (by omega), u_no (by omega), u_no (by omega), u_no (by omega), show 0 + (17 * N + 3 + m.toNat - (17 * N + 3)) = m.toNat by omega]
      exact hGA.2.2.2.2.1 m m0 m1
    · rw [u_no (by omega), cp_at, if_pos (by omega), cp_ne (by omega), u_no (by omega), u_no (by omega), u_no (by omega), show 0 + (17 * N + 11 + f.toNat - (17 * N + 11)) = f.toNat by omega]
      exact hGB f f0 f1
  · refine CUl_fr hB hU.2.2 (fun k hk => ?_)
    rw [hN] at hk
    rw [u_no (by omega), cp_at, if_neg (by omega), cp_at, if_neg (by omega), u_nk (by omega), u_nk (by omega), u_nk (by omega)]
  · rw [ua, if_neg y, cp_ne x, cp_ne x, u_no x, u_no x, u_no x]
theorem c_remember {B : Brd} {G : Gam} {p : Nat} {K : List Ent} {U : USn} {s : ST} (h : GT B G 36 p s) (g1 : s.1 36 1 = Int32.ofInt (gd_ G)) (hK : s.1 56 1 = Int32.ofInt (K.length : Int)) (hU : CU B U s) : ∃ s', f_X0_remember 36 s = some s' ∧ CU B ((G, K) :: U.take 19) s' ∧ (∀ a k : Nat, ¬ a = 58 → ¬ (a = 56 ∧ k = 3) → s'.1 a k = s.1 a k) ∧ s'.2 = s.2 := by
  have h3 := hU.1
  have h4 := hU.2.1
  by_cases e : U.length < 20
  · obtain ⟨s', q1, q2, q3⟩ := c_rem_j (K := K) h g1 hK hU e
    refine ⟨s', ?_, ?_, q3⟩
    · rw [← q1]
      simp (disch := omega) only [f_X0_remember, h3, n_i8, n_i16, n_0, n_31, n_add, n_sub, n_mul, n_neg, n_div, n_rem, n_le_t, n_le_f, n_lt_t, n_lt_f, n_eq_t, n_eq_f, n_cl, n_gd, n_gdt, n_nz, Int.reduceToNat, Int.reduceAdd, Int.reduceSub, Int.reduceMul, Int.reduceNeg, Int.reduceLT, Int.reduceLE, Int.reduceEq, Int.reduceDiv, Int.reduceMod, Nat.reduceAdd, Nat.reduceMul, ↓reduceIte, u_eq, u_no, u_nk, u_ek, u_2, u_3, j_1, j_3, j_eq, j_no, j_nk, ltd, bnd]
    · rw [List.take_of_length_le (by omega)]; exact q2
  · have hB := h.1.1.1
    have ht : U.take 19 = U.dropLast := by rw [List.dropLast_eq_take, show U.length - 1 = 19 by omega]
    have hs : ∀ a k : Nat, ¬ a = 58 → ¬ (a = 56 ∧ k = 3) → (uI (cp s 58 58 17 0 323) 56 3 (Int32.ofInt 19)).1 a k = s.1 a k := fun a k x y => by rw [ua, if_neg y, cp_ne x]
    have hU' : CU B (U.take 19) (uI (cp s 58 58 17 0 323) 56 3 (Int32.ofInt 19)) := by
      refine ⟨by rw [u_eq, List.length_take, show min 19 U.length = 19 by omega]; rfl, by rw [List.length_take]; omega, ?_⟩
      rw [ht]
      refine CUl_sh hB (fun k hk => ?_) hU.2.2 hU.2.1
      rw [u_no (by omega), cp_at, if_pos (by omega), show 17 + (k - 0) = k + 17 by omega]
    have hGT : GT B G 36 p (uI (cp s 58 58 17 0 323) 56 3 (Int32.ofInt 19)) := by
      obtain ⟨a, b, c⟩ := h
      obtain ⟨-, hp⟩ := a.2.1
      exact ⟨GA_fr a rfl (fun x k x0 x1 => hs x k (by omega) (by omega)) (fun k => ⟨hs _ k (by omega) (by omega), hs _ k (by omega) (by omega), hs _ k (by omega) (by omega)⟩) (hs 36 8 (by omega) (by omega)) (hs 36 9 (by omega) (by omega)), (hs 36 2 (by omega) (by omega)).trans b, fun f f0 f1 => (hs _ _ (by omega) (by omega)).trans (c f f0 f1)⟩
    obtain ⟨s', q1, q2, q3, q4⟩ := c_rem_j (K := K) hGT ((hs 36 1 (by omega) (by omega)).trans g1) ((hs 56 1 (by omega) (by omega)).trans hK) hU' (by rw [List.length_take]; omega)
    refine ⟨s', ?_, q2, fun a k x y => (q3 a k x y).trans (hs a k x y), q4⟩
    rw [← q1]
    simp (disch := omega) only [f_X0_remember, h3, n_cpk, n_i8, n_i16, n_0, n_31, n_add, n_sub, n_mul, n_neg, n_div, n_rem, n_le_t, n_le_f, n_lt_t, n_lt_f, n_eq_t, n_eq_f, n_cl, n_gd, n_gdt, n_nz, Int.reduceToNat, Int.reduceAdd, Int.reduceSub, Int.reduceMul, Int.reduceNeg, Int.reduceLT, Int.reduceLE, Int.reduceEq, Int.reduceDiv, Int.reduceMod, Nat.reduceAdd, Nat.reduceMul, ↓reduceIte, u_eq, u_no, u_nk, u_ek, u_2, u_3, j_1, j_3, j_eq, j_no, j_nk, ltd, bnd, Int.toNat_zero]
theorem c_takeBack0 {B : Brd} {s : ST} (hU : CU B [] s) : f_X0_takeBack 36 s = some (Int32.ofInt 0, s) := by
  have h3 : s.1 56 3 = Int32.ofInt 0 := hU.1
  simp (disch := omega) only [f_X0_takeBack, h3, n_i8, n_i16, n_0, n_31, n_add, n_sub, n_mul, n_neg, n_div, n_rem, n_le_t, n_le_f, n_lt_t, n_lt_f, n_eq_t, n_eq_f, n_cl, n_gd, n_gdt, n_nz, Int.reduceToNat, Int.reduceAdd, Int.reduceSub, Int.reduceMul, Int.reduceNeg, Int.reduceLT, Int.reduceLE, Int.reduceEq, Int.reduceDiv, Int.reduceMod, Nat.reduceAdd, Nat.reduceMul, ↓reduceIte, u_eq, u_no, u_nk, u_ek, u_2, u_3, j_1, j_3, j_eq, j_no, j_nk, ltd, bnd]
theorem c_takeBack {B : Brd} {G G' : Gam} {p : Nat} {K K' : List Ent} {U : USn} {s : ST} (h : GA B G 36 p s) (hG' : Gv B G') (hK : CK K s) (hpr : K' <+: K) (hU : CU B ((G', K') :: U) s) : ∃ s', f_X0_takeBack 36 s = some (Int32.ofInt 1, s') ∧ GT B G' 36 p s' ∧ s'.1 36 1 = Int32.ofInt (gd_ G') ∧ CK K' s' ∧ CU B U s' ∧ (∀ a k : Nat, ¬ (36 ≤ a ∧ a ≤ 45) → ¬ (a = 56 ∧ (k = 1 ∨ k = 3)) → s'.1 a k = s.1 a k) ∧ (∀ k : Nat, s'.1 37 k = s.1 37 k) ∧ s'.2 = s.2 := by
  have hB := h.1.1
  have hM : bM B ≤ 8 := hB.1.1.2.2.2.2.2.2.2.1
  have hF6 : bF B ≤ 6 := hB.1.1.2.2.2.2.2.2.2.2.2
  obtain ⟨-, hp⟩ := h.2.1
  have hP := h.2.2.1
  have hPB := h.2.2.2.1
  obtain ⟨h3, h4, ⟨r1, r2, r3, r4, r5⟩, h5⟩ := hU
  rw [List.length_cons] at h4
  have h3 : s.1 56 3 = Int32.ofInt ((U.length : Int) + 1) := h3
  generalize hN : U.length = N at *
  have e0 : ((N : Int) * 17).toNat = 17 * N := by omega
  have e1 : ((N : Int) * 17 + 1).toNat = 17 * N + 1 := by omega
  have e2 : ((N : Int) * 17 + 2).toNat = 17 * N + 2 := by omega
  have e3 : ((N : Int) * 17 + 3).toNat = 17 * N + 3 := by omega
  have e4 : ((N : Int) * 17 + 3 + 8).toNat = 17 * N + 11 := by omega
  have ee : (N : Int) + 1 - 1 = N := by omega
  have hf : ∀ a k : Nat, ¬ (a = 36 ∨ a = 38 ∨ a = 39) → ¬ (a = 56 ∧ (k = 1 ∨ k = 3)) → (cp (cp (uI (uI (uI (uI s 56 3 (Int32.ofInt (N : Int))) 36 1 (Int32.ofInt (gd_ G'))) 36 2 (Int32.ofInt (gs G'))) 56 1 (Int32.ofInt (K'.length : Int))) 58 38 (17 * N + 3) 0 8) 58 39 (17 * N + 11) 0 6).1 a k = s.1 a k := fun a k x y => by
    rw [cp_ne (by omega), cp_ne (by omega), ua, if_neg (by omega), ua, if_neg (by omega), ua, if_neg (by omega), ua, if_neg (by omega)]
  obtain ⟨s2, q1, q2, q3⟩ := c_settle (o := 36) (p := p) (G := G') (s := cp (cp (uI (uI (uI (uI s 56 3 (Int32.ofInt (N : Int))) 36 1 (Int32.ofInt (gd_ G'))) 36 2 (Int32.ofInt (gs G'))) 56 1 (Int32.ofInt (K'.length : Int))) 58 38 (17 * N + 3) 0 8) 58 39 (17 * N + 11) 0 6) hB hG' (Or.inl rfl) hp hP (PB_fr hPB (fun a k a0 a1 => hf a k (by omega) (by omega))) (fun m m0 m1 => by
    rw [cp_ne (by omega), cp_at, if_pos (by omega), u_no (by omega), u_no (by omega), u_no (by omega), u_no (by omega), show 17 * N + 3 + (m.toNat - 0) = 17 * N + 3 + m.toNat by omega]
    exact r4 m m0 m1)
  have hf2 : ∀ a k : Nat, ¬ (36 ≤ a ∧ a ≤ 45) → ¬ (a = 56 ∧ (k = 1 ∨ k = 3)) → s2.1 a k = s.1 a k := fun a k x y => (q3.1 a k (by omega) (by omega) (by omega) (by omega)).trans (hf a k (by omega) y)
  refine ⟨s2, ?_, ⟨q2, ?_, fun f f0 f1 => ?_⟩, ?_, ?_, ⟨?_, by omega, ?_⟩, hf2, fun k => (q3.1 37 k (by omega) (by omega) (by omega) (by omega)).trans (hf 37 k (by omega) (by omega)), q3.2⟩
  · simp (disch := omega) only [f_X0_takeBack, h3, r1, r2, r3, q1, k36, k38, k39, r364, r365, nn38, nn39, n_cpk, cp_ne, e0, e1, e2, e3, e4, ee, n_i8, n_i16, n_0, n_31, n_add, n_sub, n_mul, n_neg, n_div, n_rem, n_le_t, n_le_f, n_lt_t, n_lt_f, n_eq_t, n_eq_f, n_cl, n_gd, n_gdt, n_nz, Int.reduceToNat, Int.reduceAdd, Int.reduceSub, Int.reduceMul, Int.reduceNeg, Int.reduceLT, Int.reduceLE, Int.reduceEq, Int.reduceDiv, Int.reduceMod, Nat.reduceAdd, Nat.reduceMul, ↓reduceIte, u_eq, u_no, u_nk, u_ek, u_2, u_3, j_1, j_3, j_eq, j_no, j_nk, ltd, bnd, Int.toNat_zero]
  · unfold GS
    rw [q3.1 36 2 (by omega) (by omega) (by omega) (by omega), cp_ne (by omega), cp_ne (by omega), u_no (by omega), u_eq]
  · rw [q3.1 _ _ (by omega) (by omega) (by omega) (by omega)]
    show (cp _ 58 39 _ 0 6).1 39 f.toNat = _
    rw [cp_at, if_pos (by omega), cp_ne (by omega), u_no (by omega), u_no (by omega), u_no (by omega), u_no (by omega), show 17 * N + 11 + (f.toNat - 0) = 17 * N + 11 + f.toNat by omega]
    exact r5 f f0 f1
  · rw [q3.1 36 1 (by omega) (by omega) (by omega) (by omega), cp_ne (by omega), cp_ne (by omega), u_no (by omega), u_nk (by omega), u_eq]
  · refine CK_pre hK hpr ?_ (fun k => hf2 57 k (by omega) (by omega))
    rw [q3.1 56 1 (by omega) (by omega) (by omega) (by omega), cp_ne (by omega), cp_ne (by omega), u_eq]
  · rw [q3.1 56 3 (by omega) (by omega) (by omega) (by omega), cp_ne (by omega), cp_ne (by omega), u_nk (by omega), u_no (by omega), u_no (by omega), u_eq, hN]
  · exact CUl_fr hB h5 (fun k _ => hf2 58 k (by omega) (by omega))
