/-! L3: acts of the reference: what can be undone -/
def MGc (B : Brd) (G : Gam) (c : Nat → Int32) : Prop := (c 0 = Int32.ofInt (gd_ G) ∧ c 1 = Int32.ofInt (gs G)) ∧ (∀ m : Int, 0 ≤ m → m < bM B → c (2 + 2 * m).toNat = Int32.ofInt (gx G m) ∧ c (2 + 2 * m + 1).toNat = Int32.ofInt (gy G m)) ∧ (∀ f : Int, 0 ≤ f → f < bF B → c (18 + f).toNat = Int32.ofInt (gb G f))
def RKc (K : List Ent) (c : Nat → Int32) : Prop := c 24 = Int32.ofInt (kn K) ∧ ∀ j i : Int, 0 ≤ j → j < kn K → 0 ≤ i → i ≤ 4 → c (25 + 5 * j + i).toNat = Int32.ofInt (en (kE K j) i)
theorem MG_c {B : Brd} {G : Gam} {s : ST} : MG B G s ↔ MGc B G (s.1 112) := Iff.rfl
theorem RK_c {K : List Ent} {s : ST} : RK K s ↔ RKc K (s.1 112) := Iff.rfl
theorem MGc_fr {B : Brd} {G : Gam} (hB : Bv B) {c c' : Nat → Int32} (h : MGc B G c) (hf : ∀ k : Nat, k < 24 → c' k = c k) : MGc B G c' := by
  have hM : bM B ≤ 8 := hB.1.1.2.2.2.2.2.2.2.1
  have hF : bF B ≤ 6 := hB.1.1.2.2.2.2.2.2.2.2.2
  obtain ⟨h1, h2, h3⟩ := h
  refine ⟨⟨(hf 0 (by omega)).trans h1.1, (hf 1 (by omega)).trans h1.2⟩, fun m m1 m2 => ?_, fun f f1 f2 => (hf _ (by omega)).trans (h3 f f1 f2)⟩
  rw [hf _ (by omega), hf _ (by omega)]
  exact h2 m m1 m2
theorem RKc_fr {K : List Ent} {c c' : Nat → Int32} (h : RKc K c) (hf : ∀ k : Nat, k < 225 → c' k = c k) : RKc K c' := by
  have hb := kn_b K
  exact ⟨(hf 24 (by omega)).trans h.1, fun j i j1 j2 i1 i2 => (hf _ (by omega)).trans (h.2 j i j1 j2 i1 i2)⟩
def Sn (B : Brd) (G : Gam) (K : List Ent) (c : Nat → Int32) : Prop := (MGc B G c ∧ RKc K c) ∧ Gv B G ∧ gd_ G ≤ 999
abbrev USn : Type := List (Gam × List Ent)
def RUl (B : Brd) : USn → Int → ST → Prop
  | [], _, _ => True
  | (G, K) :: U, i, s => Sn B G K (fun k => s.1 122 ((225 * i).toNat + k)) ∧ RUl B U ((i + 19) % 20) s
def RU (B : Brd) (U : USn) (nw : Int) (s : ST) : Prop := s.1 65 84 = Int32.ofInt (U.length : Int) ∧ s.1 65 85 = Int32.ofInt nw ∧ (0 ≤ nw ∧ nw < 20) ∧ U.length ≤ 20 ∧ RUl B U nw s
theorem RUl_fr {B : Brd} {s s' : ST} : ∀ {U : USn} {i : Int}, RUl B U i s → (∀ k : Nat, s'.1 122 k = s.1 122 k) → RUl B U i s'
  | [], _, _, _ => trivial
  | (G, K) :: U, i, h, hf => by
    refine ⟨?_, RUl_fr h.2 hf⟩
    have : (fun k => s'.1 122 ((225 * i).toNat + k)) = fun k => s.1 122 ((225 * i).toNat + k) := funext (fun k => hf _)
    rw [this]
    exact h.1
theorem RU_fr {B : Brd} {U : USn} {nw : Int} {s s' : ST} (h : RU B U nw s) (h1 : s'.1 65 84 = s.1 65 84) (h2 : s'.1 65 85 = s.1 65 85) (h3 : ∀ k : Nat, s'.1 122 k = s.1 122 k) : RU B U nw s' := ⟨h1.trans h.1, h2.trans h.2.1, h.2.2.1, h.2.2.2.1, RUl_fr h.2.2.2.2 h3⟩
theorem RUl_blk {B : Brd} (hB : Bv B) {s s' : ST} {w : Int} (w0 : 0 ≤ w) (w1 : w < 20) (hf : ∀ k : Nat, ¬ (225 * w ≤ (k : Int) ∧ (k : Int) < 225 * w + 225) → s'.1 122 k = s.1 122 k) : ∀ (n : Nat) (U : USn) (i : Int), 0 ≤ i → i < 20 → (∀ d : Int, 0 ≤ d → d < n → ¬ (i - d) % 20 = w) → RUl B U i s → RUl B (U.take n) i s'
  | 0, U, i, _, _, _, _ => by rw [List.take_zero]; trivial
  | n + 1, [], i, _, _, _, _ => by rw [List.take_nil]; trivial
  | n + 1, (G, K) :: U, i, i0, i1, hd, h => by
    have hne := hd 0 (by omega) (by omega)
    rw [List.take_succ_cons]
    refine ⟨⟨⟨MGc_fr hB h.1.1.1 (fun k hk => hf _ (by omega)), RKc_fr h.1.1.2 (fun k hk => hf _ (by omega))⟩, h.1.2⟩, RUl_blk hB w0 w1 hf n U ((i + 19) % 20) (by omega) (by omega) (fun d d0 d1 => ?_) h.2⟩
    have := hd (d + 1) (by omega) (by omega)
    omega
theorem m_keeps_L {w : Int} (w0 : 0 ≤ w) (w1 : w < 20) (K : ST → Option ST) : ∀ (n F : Nat) (i : Int) (s : ST), s.1 65 85 = Int32.ofInt w → 0 ≤ i → (n : Int) = 225 - i → n < F → ∃ s', (∀ o k : Nat, ¬ (o = 122 ∧ 225 * w ≤ (k : Int) ∧ (k : Int) < 225 * w + 225) → s'.1 o k = s.1 o k) ∧ s'.2 = s.2 ∧ (∀ k : Nat, i ≤ (k : Int) → k < 225 → s'.1 122 ((225 * w).toNat + k) = s.1 112 k) ∧ (∀ k : Nat, (k : Int) < i → s'.1 122 ((225 * w).toNat + k) = s.1 122 ((225 * w).toNat + k)) ∧ f_X10_keeps_L15 K F (Int32.ofInt i) s = K s' := by
  intro n
  induction n with
  | zero =>
    intro F i s hw h0 hn hF
    obtain ⟨F, rfl⟩ : ∃ F', F = F' + 1 := ⟨F - 1, by omega⟩
    refine ⟨s, fun _ _ _ => rfl, rfl, fun k k1 k2 => by omega, fun _ _ => rfl, ?_⟩
    simp (disch := omega) only [f_X10_keeps_L15, n_i8, n_i16, n_0, n_31, n_add, n_sub, n_mul, n_neg, n_div, n_rem, n_le_t, n_le_f, n_lt_t, n_lt_f, n_eq_t, n_eq_f, n_cl, n_gd, n_gdt, n_nz, Int.reduceToNat, Int.reduceAdd, Int.reduceSub, Int.reduceMul, Int.reduceNeg, Int.reduceLT, Int.reduceLE, Int.reduceEq, Int.reduceDiv, Int.reduceMod, Nat.reduceAdd, Nat.reduceMul, ↓reduceIte]
  | succ n ih =>
    intro F i s hw h0 hn hF
    obtain ⟨F, rfl⟩ : ∃ F', F = F' + 1 := ⟨F - 1, by omega⟩
    obtain ⟨s', q1, q2, q3, q4, q5⟩ := ih F (i + 1) (uI s 122 (225 * w + i).toNat (s.1 112 i.toNat)) (by rw [u_no (by omega)]; exact hw) (by omega) (by omega) (by omega)
    refine ⟨s', fun o k ho => (q1 o k ho).trans ?_, q2, fun k k1 k2 => ?_, fun k k1 => ?_, ?_⟩
    · (simp only [ua, ja, u_2, u_3, j_1, j_3]; (repeat' split) <;> first | rfl | (exfalso; omega))
    · by_cases e : (k : Int) = i
      · rw [q4 k (by omega), u_ek (by omega), show i.toNat = k by omega]
      · rw [q3 k (by omega) k2, u_no (by omega)]
    · rw [q4 k (by omega), u_nk (by omega)]
    · rw [← q5]
      simp (disch := omega) only [f_X10_keeps_L15, hw, n_i8, n_i16, n_0, n_31, n_add, n_sub, n_mul, n_neg, n_div, n_rem, n_le_t, n_le_f, n_lt_t, n_lt_f, n_eq_t, n_eq_f, n_cl, n_gd, n_gdt, n_nz, Int.reduceToNat, Int.reduceAdd, Int.reduceSub, Int.reduceMul, Int.reduceNeg, Int.reduceLT, Int.reduceLE, Int.reduceEq, Int.reduceDiv, Int.reduceMod, Nat.reduceAdd, Nat.reduceMul, ↓reduceIte, u_eq, u_no, u_nk, u_ek, u_2, u_3, j_1, j_3, j_eq, j_no, j_nk, ltd, bnd]
def kpF (s s' : ST) : Prop := (∀ o k : Nat, ¬ o = 122 → ¬ (o = 65 ∧ (k = 84 ∨ k = 85)) → s'.1 o k = s.1 o k) ∧ s'.2 = s.2
theorem m_keeps {B : Brd} {G : Gam} {K : List Ent} {U : USn} {nw : Int} {s : ST} (hB : Bv B) (hG : Gv B G) (hd : gd_ G ≤ 999) (hM : MG B G s) (hK : RK K s) (hU : RU B U nw s) : ∃ (s' : ST) (nw' : Int), f_X10_keeps s = some s' ∧ RU B ((G, K) :: U.take 19) nw' s' ∧ kpF s s' := by
  obtain ⟨u1, u2, u3, u4, u5⟩ := hU
  have hR : (nw + 1) - (nw + 1) / 20 * 20 = (nw + 1) % 20 := n_rem _ _
  obtain ⟨s1, q1, q2, q3, q4, q5⟩ := m_keeps_L (w := (nw + 1) % 20) (by omega) (by omega) f_X10_keeps_j49 225 fuel 0 (uI s 65 85 (Int32.ofInt ((nw + 1) % 20))) (by rw [u_eq]) (by omega) (by omega) (by unfold fuel; omega)
  have hl : (U.take 19).length = min 19 U.length := List.length_take
  have hs1 : ∀ s' : ST, (∀ k : Nat, s'.1 122 k = s1.1 122 k) → RUl B ((G, K) :: U.take 19) ((nw + 1) % 20) s' := by
    intro s' hs'
    refine ⟨⟨⟨MGc_fr hB (MG_c.mp hM) (fun k hk => ?_), RKc_fr (RK_c.mp hK) (fun k hk => ?_)⟩, hG, hd⟩, ?_⟩
    · rw [hs', q3 k (by omega) (by omega), u_no (by omega)]
    · rw [hs', q3 k (by omega) (by omega), u_no (by omega)]
    · have e : ((nw + 1) % 20 + 19) % 20 = nw := by omega
      rw [e]
      refine RUl_blk hB (w := (nw + 1) % 20) (by omega) (by omega) (fun k hk => ?_) 19 U nw u3.1 u3.2 (fun d d0 d1 => by omega) u5
      rw [hs', q1 122 k (by omega), u_no (by omega)]
  have e84 : s1.1 65 84 = Int32.ofInt (U.length : Int) := by rw [q1 65 84 (by omega), u_nk (by omega)]; exact u1
  have e85 : s1.1 65 85 = Int32.ofInt ((nw + 1) % 20) := by rw [q1 65 85 (by omega), u_eq]
  have hk : f_X10_keeps s = f_X10_keeps_j49 s1 := by
    rw [← q5]
    simp (disch := omega) only [f_X10_keeps, u2, hR, n_i8, n_i16, n_0, n_31, n_add, n_sub, n_mul, n_neg, n_div, n_rem, n_le_t, n_le_f, n_lt_t, n_lt_f, n_eq_t, n_eq_f, n_cl, n_gd, n_gdt, n_nz, Int.reduceToNat, Int.reduceAdd, Int.reduceSub, Int.reduceMul, Int.reduceNeg, Int.reduceLT, Int.reduceLE, Int.reduceEq, Int.reduceDiv, Int.reduceMod, Nat.reduceAdd, Nat.reduceMul, ↓reduceIte, u_eq, u_no, u_nk, u_ek, u_2, u_3, j_1, j_3, j_eq, j_no, j_nk, ltd, bnd]
  by_cases e : U.length = 20
  · refine ⟨s1, (nw + 1) % 20, ?_, ⟨?_, e85, ⟨by omega, by omega⟩, ?_, hs1 s1 (fun _ => rfl)⟩, ⟨fun o k a b => (q1 o k (by omega)).trans (by (simp only [ua, ja, u_2, u_3, j_1, j_3]; (repeat' split) <;> first | rfl | (exfalso; omega))), q2⟩⟩
    · rw [hk]
      simp (disch := omega) only [f_X10_keeps_j49, e84, n_i8, n_i16, n_0, n_31, n_add, n_sub, n_mul, n_neg, n_div, n_rem, n_le_t, n_le_f, n_lt_t, n_lt_f, n_eq_t, n_eq_f, n_cl, n_gd, n_gdt, n_nz, Int.reduceToNat, Int.reduceAdd, Int.reduceSub, Int.reduceMul, Int.reduceNeg, Int.reduceLT, Int.reduceLE, Int.reduceEq, Int.reduceDiv, Int.reduceMod, Nat.reduceAdd, Nat.reduceMul, ↓reduceIte, u_eq, u_no, u_nk, u_ek, u_2, u_3, j_1, j_3, j_eq, j_no, j_nk, ltd, bnd]
    · rw [e84, List.length_cons, hl, e]; rfl
    · rw [List.length_cons, hl]; omega
  · refine ⟨uI s1 65 84 (Int32.ofInt ((U.length : Int) + 1)), (nw + 1) % 20, ?_, ⟨?_, ?_, ⟨by omega, by omega⟩, ?_, hs1 _ (fun k => u_no (by omega))⟩, ⟨fun o k a b => ?_, q2⟩⟩
    · rw [hk]
      simp (disch := omega) only [f_X10_keeps_j49, e84, n_i8, n_i16, n_0, n_31, n_add, n_sub, n_mul, n_neg, n_div, n_rem, n_le_t, n_le_f, n_lt_t, n_lt_f, n_eq_t, n_eq_f, n_cl, n_gd, n_gdt, n_nz, Int.reduceToNat, Int.reduceAdd, Int.reduceSub, Int.reduceMul, Int.reduceNeg, Int.reduceLT, Int.reduceLE, Int.reduceEq, Int.reduceDiv, Int.reduceMod, Nat.reduceAdd, Nat.reduceMul, ↓reduceIte, u_eq, u_no, u_nk, u_ek, u_2, u_3, j_1, j_3, j_eq, j_no, j_nk, ltd, bnd]
    · rw [u_eq, List.length_cons, hl]
      congr 1
      omega
    · rw [u_nk (by omega)]; exact e85
    · rw [List.length_cons, hl]; omega
    · rw [ua, if_neg (by omega), q1 o k (by omega)]
      (simp only [ua, ja, u_2, u_3, j_1, j_3]; (repeat' split) <;> first | rfl | (exfalso; omega))
theorem m_undo_L {w : Int} (w0 : 0 ≤ w) (w1 : w < 20) (K : ST → Option (Int32 × ST)) : ∀ (n F : Nat) (i : Int) (s : ST), s.1 65 85 = Int32.ofInt w → 0 ≤ i → (n : Int) = 225 - i → n < F → ∃ s', (∀ o k : Nat, ¬ o = 112 → s'.1 o k = s.1 o k) ∧ s'.2 = s.2 ∧ (∀ k : Nat, s'.1 112 k = if i ≤ (k : Int) ∧ k < 225 then s.1 122 ((225 * w).toNat + k) else s.1 112 k) ∧ f_X10_undo_L21 K F (Int32.ofInt i) s = K s' := by
  intro n
  induction n with
  | zero =>
    intro F i s hw h0 hn hF
    obtain ⟨F, rfl⟩ : ∃ F', F = F' + 1 := ⟨F - 1, by omega⟩
    refine ⟨s, fun _ _ _ => rfl, rfl, fun k => ?_, ?_⟩
    · rw [if_neg (by omega)]
    · simp (disch := omega) only [f_X10_undo_L21, n_i8, n_i16, n_0, n_31, n_add, n_sub, n_mul, n_neg, n_div, n_rem, n_le_t, n_le_f, n_lt_t, n_lt_f, n_eq_t, n_eq_f, n_cl, n_gd, n_gdt, n_nz, Int.reduceToNat, Int.reduceAdd, Int.reduceSub, Int.reduceMul, Int.reduceNeg, Int.reduceLT, Int.reduceLE, Int.reduceEq, Int.reduceDiv, Int.reduceMod, Nat.reduceAdd, Nat.reduceMul, ↓reduceIte]
  | succ n ih =>
    intro F i s hw h0 hn hF
    obtain ⟨F, rfl⟩ : ∃ F', F = F' + 1 := ⟨F - 1, by omega⟩
    obtain ⟨s', q1, q2, q3, q4⟩ := ih F (i + 1) (uI s 112 i.toNat (s.1 122 (225 * w + i).toNat)) (by rw [u_no (by omega)]; exact hw) (by omega) (by omega) (by omega)
    refine ⟨s', fun o k ho => (q1 o k ho).trans (u_no ho), q2, fun k => ?_, ?_⟩
    · rw [q3 k, u_no (by omega)]
      by_cases e : (k : Int) = i
      · rw [if_neg (by omega), if_pos (by omega), u_ek (by omega), show (225 * w + i).toNat = (225 * w).toNat + k by omega]
      · by_cases e2 : i + 1 ≤ (k : Int) ∧ k < 225
        · rw [if_pos e2, if_pos (by omega)]
        · rw [if_neg e2, if_neg (by omega), u_nk (by omega)]
    · rw [← q4]
      simp (disch := omega) only [f_X10_undo_L21, hw, n_i8, n_i16, n_0, n_31, n_add, n_sub, n_mul, n_neg, n_div, n_rem, n_le_t, n_le_f, n_lt_t, n_lt_f, n_eq_t, n_eq_f, n_cl, n_gd, n_gdt, n_nz, Int.reduceToNat, Int.reduceAdd, Int.reduceSub, Int.reduceMul, Int.reduceNeg, Int.reduceLT, Int.reduceLE, Int.reduceEq, Int.reduceDiv, Int.reduceMod, Nat.reduceAdd, Nat.reduceMul, ↓reduceIte, u_eq, u_no, u_nk, u_ek, u_2, u_3, j_1, j_3, j_eq, j_no, j_nk, ltd, bnd]
theorem m_undo {B : Brd} {G : Gam} {K : List Ent} {U : USn} {nw : Int} {s : ST} (hA : MA B G s) (hK : RK K s) (hU : RU B U nw s) : (U = [] → f_X10_undo s = some (Int32.ofInt 0, uI s 67 4 (s.1 67 4 + Int32.ofInt 1))) ∧ (∀ (G' : Gam) (K' : List Ent) (U' : USn), U = (G', K') :: U' → ∃ (s' : ST) (nw' : Int), f_X10_undo s = some (Int32.ofInt 1, s') ∧ MA B G' s' ∧ RK K' s' ∧ RU B U' nw' s' ∧ (∀ o k : Nat, ¬ o = 112 → ¬ (o = 65 ∧ (k = 84 ∨ k = 85)) → s'.1 o k = s.1 o k) ∧ s'.2 = s.2) := by
  obtain ⟨u1, u2, u3, u4, u5⟩ := hU
  constructor
  · intro e
    rw [e] at u1
    have u1 : s.1 65 84 = Int32.ofInt 0 := u1
    simp (disch := omega) only [f_X10_undo, u1, n_i8, n_i16, n_0, n_31, n_add, n_sub, n_mul, n_neg, n_div, n_rem, n_le_t, n_le_f, n_lt_t, n_lt_f, n_eq_t, n_eq_f, n_cl, n_gd, n_gdt, n_nz, Int.reduceToNat, Int.reduceAdd, Int.reduceSub, Int.reduceMul, Int.reduceNeg, Int.reduceLT, Int.reduceLE, Int.reduceEq, Int.reduceDiv, Int.reduceMod, Nat.reduceAdd, Nat.reduceMul, ↓reduceIte, u_eq, u_no, u_nk, u_ek, u_2, u_3, j_1, j_3, j_eq, j_no, j_nk, ltd, bnd]
  · intro G' K' U' e
    subst e
    obtain ⟨⟨⟨g1, g2⟩, g3, g4⟩, g5⟩ := u5
    rw [List.length_cons] at u1 u4
    obtain ⟨s1, q1, q2, q3, q4⟩ := m_undo_L u3.1 u3.2 f_X10_undo_j55 225 fuel 0 s u2 (by omega) (by omega) (by unfold fuel; omega)
    have hR : (nw + 20 - 1) - (nw + 20 - 1) / 20 * 20 = (nw + 20 - 1) % 20 := n_rem _ _
    have e84 : s1.1 65 84 = Int32.ofInt ((U'.length : Int) + 1) := by rw [q1 65 84 (by omega), u1]; rfl
    have e85 : s1.1 65 85 = Int32.ofInt nw := (q1 65 85 (by omega)).trans u2
    have hc : ∀ k : Nat, k < 225 → s1.1 112 k = s.1 122 ((225 * nw).toNat + k) := fun k hk => by rw [q3 k, if_pos (by omega)]
    have f : ∀ o k : Nat, ¬ (o = 65 ∧ (k = 84 ∨ k = 85)) → (uI (uI s1 65 85 (Int32.ofInt ((nw + 20 - 1) % 20))) 65 84 (Int32.ofInt (U'.length : Int))).1 o k = s1.1 o k := fun o k b => by (simp only [ua, ja, u_2, u_3, j_1, j_3]; (repeat' split) <;> first | rfl | (exfalso; omega))
    refine ⟨uI (uI s1 65 85 (Int32.ofInt ((nw + 20 - 1) % 20))) 65 84 (Int32.ofInt (U'.length : Int)), (nw + 20 - 1) % 20, ?_, ⟨hA.1, g3, MB_fr hA.1 hA.2.2.1 (fun o k o1 o2 => (f o k (by omega)).trans (q1 o k (by omega))), ?_⟩, ?_, ⟨?_, ?_, ⟨by omega, by omega⟩, by omega, ?_⟩, fun o k a b => (f o k b).trans (q1 o k a), q2⟩
    · show f_X10_undo s = _
      have hne : ¬ s.1 65 84 = 0 := by
        rw [u1, n_0]
        have : (Int32.ofInt ((U'.length + 1 : Nat) : Int) = Int32.ofInt 0) = False := n_eq_f (by omega) (by omega) (by omega) (by omega) (by omega)
        rw [this]
        exact id
      unfold f_X10_undo
      rw [if_neg hne, q4]
      have hz : (U'.length : Int) + 1 - 1 = (U'.length : Int) := by omega
      simp (disch := omega) only [f_X10_undo_j55, e84, e85, hR, hz, n_i8, n_i16, n_0, n_31, n_add, n_sub, n_mul, n_neg, n_div, n_rem, n_le_t, n_le_f, n_lt_t, n_lt_f, n_eq_t, n_eq_f, n_cl, n_gd, n_gdt, n_nz, Int.reduceToNat, Int.reduceAdd, Int.reduceSub, Int.reduceMul, Int.reduceNeg, Int.reduceLT, Int.reduceLE, Int.reduceEq, Int.reduceDiv, Int.reduceMod, Nat.reduceAdd, Nat.reduceMul, ↓reduceIte, u_eq, u_no, u_nk, u_ek, u_2, u_3, j_1, j_3, j_eq, j_no, j_nk, ltd, bnd]
    · exact MGc_fr hA.1 g1 (fun k hk => (f 112 k (by omega)).trans (hc k (by omega)))
    · exact RKc_fr g2 (fun k hk => (f 112 k (by omega)).trans (hc k hk))
    · rw [u_eq]
    · rw [u_nk (by omega), u_eq]
    · rw [show nw + 20 - 1 = nw + 19 by omega]
      exact RUl_fr g5 (fun k => by rw [u_no (by omega), u_no (by omega), q1 122 k (by omega)])
