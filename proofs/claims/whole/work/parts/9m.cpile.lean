/-! L3: the class's pile, and what it reckons -/
def FO (f g : Nat) : Prop := (f = 18 ∧ g = 19) ∨ (f = 32 ∧ g = 33) ∨ (f = 34 ∧ g = 35)
theorem f_kk {α : Type} {f g : Nat} (h : FO f g) {x : Option α} : gd (kk f 2) x = x := by rcases h with ⟨rfl, rfl⟩ | ⟨rfl, rfl⟩ | ⟨rfl, rfl⟩ <;> rfl
theorem f_r0 {ρ : Nat → Option Nat} {f g : Nat} (h : FO f g) : RR ρ f 0 = some g := by rcases h with ⟨rfl, rfl⟩ | ⟨rfl, rfl⟩ | ⟨rfl, rfl⟩ <;> rfl
theorem f_kg {α : Type} {f g : Nat} (h : FO f g) {x : Option α} : gd (kk g 13) x = x := by rcases h with ⟨rfl, rfl⟩ | ⟨rfl, rfl⟩ | ⟨rfl, rfl⟩ <;> rfl
theorem f_kr {α : Type} {f g : Nat} (h : FO f g) {x : Option α} : gd (kr g) x = x := by rcases h with ⟨rfl, rfl⟩ | ⟨rfl, rfl⟩ | ⟨rfl, rfl⟩ <;> rfl
theorem f_n {f g : Nat} (h : FO f g) : (K0 g).2 = 1600 := by rcases h with ⟨rfl, rfl⟩ | ⟨rfl, rfl⟩ | ⟨rfl, rfl⟩ <;> rfl
theorem g_kr7 {α : Type} {o : Nat} (h : o = 36 ∨ o = 46) {x : Option α} : gd (kr (o + 7)) x = x := by rcases h with rfl | rfl <;> rfl
theorem g_kr9 {α : Type} {o : Nat} (h : o = 36 ∨ o = 46) {x : Option α} : gd (kr (o + 9)) x = x := by rcases h with rfl | rfl <;> rfl
theorem on33 : Int32.ofNat 33 = Int32.ofInt 33 := rfl
theorem on64 : Int32.ofNat 64 = Int32.ofInt 64 := rfl
theorem on1600 : Int32.ofNat 1600 = Int32.ofInt 1600 := rfl
def CPe (o : Nat) : List Int → ST → Prop
  | [], _ => True
  | v :: r, s => s.1 (o + 9) r.length = Int32.ofInt v ∧ CPe o r s
def CP (o : Nat) (st : List Int) (s : ST) : Prop := s.1 (o + 6) 3 = Int32.ofInt (st.length : Int) ∧ CPe o st s
def CF (o : Nat) (s s' : ST) : Prop := (∀ a k : Nat, ¬ (a = o + 6 ∧ k = 3) → ¬ a = o + 9 → s'.1 a k = s.1 a k) ∧ s'.2 = s.2
theorem CF.rf (o : Nat) (s : ST) : CF o s s := ⟨fun _ _ _ _ => rfl, rfl⟩
theorem CF.tr {o : Nat} {s t u : ST} (h1 : CF o s t) (h2 : CF o t u) : CF o s u := ⟨fun a k x y => (h2.1 a k x y).trans (h1.1 a k x y), h2.2.trans h1.2⟩
theorem CPe_fr {o : Nat} {s s' : ST} : ∀ {st : List Int}, CPe o st s → (∀ i : Nat, i < st.length → s'.1 (o + 9) i = s.1 (o + 9) i) → CPe o st s'
  | [], _, _ => trivial
  | v :: r, h, hf => ⟨(hf r.length (by rw [List.length_cons]; omega)).trans h.1, CPe_fr h.2 (fun i hi => hf i (by rw [List.length_cons]; omega))⟩
theorem c_push {o : Nat} (ho : o = 36 ∨ o = 46) {st : List Int} {s : ST} (h : CP o st s) (hl : st.length < 64) (v : Int) : ∃ s', f_X6_push (o + 6) (Int32.ofInt v) s = some s' ∧ CP o (v :: st) s' ∧ CF o s s' := by
  obtain ⟨h1, h2⟩ := h
  have e1 : ((st.length : Int)).toNat = st.length := by omega
  refine ⟨uI (uI s (o + 9) st.length (Int32.ofInt v)) (o + 6) 3 (Int32.ofInt ((st.length : Int) + 1)), ?_, ⟨?_, ?_, ?_⟩, ⟨fun a k x y => by (simp only [ua, ja, u_2, u_3, j_1, j_3]; (repeat' split) <;> first | rfl | (exfalso; omega)), rfl⟩⟩
  · simp (disch := omega) only [f_X6_push, h1, e1, g_kr9, on64, g_kk, g_k1, g_n1, g_k2, g_n2, g_k3, g_n3, g_k4, g_n4, g_k5, g_n5, g_k7, g_n7, g_k8, g_n8, g_k9, g_n9, g_k6, g_r3, g_r4, g_r5, g_r6, g_r7, g_r10, g_q0, g_q1, g_q2, p_kk, p_k1, p_n1, p_k2, p_n2, p_k3, p_n3, p_k4, p_n4, p_k5, p_n5, p_k6, p_n6, p_k7, p_n7, p_k8, p_n8, p_k9, p_n9, p_k10, p_n10, p_k11, p_n11, p_k13, p_n13, p_k12, p_r2, p_r4, p_r5, p_r6, p_r7, p_r9, p_r10, p_r11, p_r13, p_r14, p_r15, p_r16, p_h0, n_i8, n_i16, n_0, n_31, n_add, n_sub, n_mul, n_neg, n_div, n_rem, n_le_t, n_le_f, n_lt_t, n_lt_f, n_eq_t, n_eq_f, n_cl, n_gd, n_gdt, n_nz, Int.reduceToNat, Int.reduceAdd, Int.reduceSub, Int.reduceMul, Int.reduceNeg, Int.reduceLT, Int.reduceLE, Int.reduceEq, Int.reduceDiv, Int.reduceMod, Nat.reduceAdd, Nat.reduceMul, ↓reduceIte, u_eq, u_no, u_nk, u_ek, u_2, u_3, j_1, j_3, j_eq, j_no, j_nk, ltd, bnd]
  · rw [u_eq]; rfl
  · rw [u_no (by omega), u_eq]
  · exact CPe_fr h2 (fun i hi => by rw [u_no (by omega), u_nk (by omega)])
theorem c_pop {o : Nat} (ho : o = 36 ∨ o = 46) {st : List Int} {v : Int} {s : ST} (h : CP o (v :: st) s) (hl : st.length < 64) : ∃ s', f_X6_pop (o + 6) s = some (Int32.ofInt v, s') ∧ CP o st s' ∧ CF o s s' := by
  obtain ⟨h1, h2, h3⟩ := h
  have h1 : s.1 (o + 6) 3 = Int32.ofInt ((st.length : Int) + 1) := h1
  have e1 : ((st.length : Int)).toNat = st.length := by omega
  refine ⟨uI s (o + 6) 3 (Int32.ofInt (st.length : Int)), ?_, ⟨u_eq _ _ _ _, CPe_fr h3 (fun i hi => by rw [u_no (by omega)])⟩, ⟨fun a k x y => by (simp only [ua, ja, u_2, u_3, j_1, j_3]; (repeat' split) <;> first | rfl | (exfalso; omega)), rfl⟩⟩
  simp (disch := omega) only [f_X6_pop, h1, h2, e1, g_kr9, on64, Int.add_sub_cancel, g_kk, g_k1, g_n1, g_k2, g_n2, g_k3, g_n3, g_k4, g_n4, g_k5, g_n5, g_k7, g_n7, g_k8, g_n8, g_k9, g_n9, g_k6, g_r3, g_r4, g_r5, g_r6, g_r7, g_r10, g_q0, g_q1, g_q2, p_kk, p_k1, p_n1, p_k2, p_n2, p_k3, p_n3, p_k4, p_n4, p_k5, p_n5, p_k6, p_n6, p_k7, p_n7, p_k8, p_n8, p_k9, p_n9, p_k10, p_n10, p_k11, p_n11, p_k13, p_n13, p_k12, p_r2, p_r4, p_r5, p_r6, p_r7, p_r9, p_r10, p_r11, p_r13, p_r14, p_r15, p_r16, p_h0, n_i8, n_i16, n_0, n_31, n_add, n_sub, n_mul, n_neg, n_div, n_rem, n_le_t, n_le_f, n_lt_t, n_lt_f, n_eq_t, n_eq_f, n_cl, n_gd, n_gdt, n_nz, Int.reduceToNat, Int.reduceAdd, Int.reduceSub, Int.reduceMul, Int.reduceNeg, Int.reduceLT, Int.reduceLE, Int.reduceEq, Int.reduceDiv, Int.reduceMod, Nat.reduceAdd, Nat.reduceMul, ↓reduceIte, u_eq, u_no, u_nk, u_ek, u_2, u_3, j_1, j_3, j_eq, j_no, j_nk, ltd, bnd]
theorem l_lt_t {a b : Int} (h : a < b) (h1 : -9223372036854775808 ≤ a) (h4 : b ≤ 9223372036854775807) : (Int64.ofInt a < Int64.ofInt b) = True := by rw [l_lt (by omega) (by omega) (by omega) (by omega)]; exact eq_true h
theorem l_lt_f {a b : Int} (h : b ≤ a) (h1 : -9223372036854775808 ≤ b) (h4 : a ≤ 9223372036854775807) : (Int64.ofInt a < Int64.ofInt b) = False := by rw [l_lt (by omega) (by omega) (by omega) (by omega)]; exact eq_false (by omega)
theorem xor_s {a b : Int} (ha : lb a) (hb : lb b) : (Int32.ofInt 0 ≤ Int32.ofInt a ^^^ Int32.ofInt b) = ((a < 0) ↔ (b < 0)) := by
  obtain ⟨a1, a2⟩ := ha
  obtain ⟨b1, b2⟩ := hb
  have key : ∀ x : Int32, (Int32.ofInt 0 ≤ x) ↔ x.toBitVec.msb = false := by
    intro x
    rw [Int32.le_iff_toInt_le, BitVec.msb_eq_toInt, decide_eq_false_iff_not]
    show (0 : Int) ≤ x.toBitVec.toInt ↔ _
    omega
  have m : ∀ z : Int, -1000000 ≤ z → z ≤ 1000000 → (Int32.ofInt z).toBitVec.msb = decide (z < 0) := by
    intro z z1 z2
    rw [BitVec.msb_eq_toInt]
    have : (Int32.ofInt z).toBitVec.toInt = z := n_to (by omega) (by omega)
    rw [this]
  refine propext ((key _).trans ?_)
  rw [Int32.toBitVec_xor, BitVec.msb_xor, m a a1 a2, m b b1 b2]
  by_cases e1 : a < 0 <;> by_cases e2 : b < 0 <;> simp [e1, e2]
theorem n_tdiv {a b : Int} (ha : lb a) (hb : lb b) : Int32.ofInt a / Int32.ofInt b = Int32.ofInt (a.tdiv b) := by
  obtain ⟨a1, a2⟩ := ha
  obtain ⟨b1, b2⟩ := hb
  exact (Int32.ofInt_tdiv (Int.le_trans (by decide) a1) (Int.le_trans a2 (by decide)) (Int.le_trans (by decide) b1) (Int.le_trans b2 (by decide))).symm
theorem c_floor {a b : Int} (ha : lb a) (hb : lb b) (h0 : ¬ b = 0) (s : ST) : f_J9_floorDiv_7cf53 (Int32.ofInt a) (Int32.ofInt b) s = some (Int32.ofInt (fdv a b), s) := by
  have hx := xor_s ha hb
  have hd := n_tdiv ha hb
  have hq := tdiv_b ha hb h0
  have hm : (a.tdiv b * b).natAbs ≤ a.natAbs := by rw [Int.natAbs_mul, Int.natAbs_tdiv]; exact Nat.div_mul_le_self _ _
  obtain ⟨a1, a2⟩ := ha
  obtain ⟨b1, b2⟩ := hb
  unfold fdv
  rw [if_neg h0]
  generalize a.tdiv b = q at *
  generalize hw : q * b = w at *
  by_cases e1 : (a < 0) ↔ (b < 0)
  · rw [if_neg (fun c => c.2 e1)]
    rw [eq_true e1] at hx
    simp (disch := omega) only [f_J9_floorDiv_7cf53, hx, hd, n_i8, n_i16, n_0, n_31, n_add, n_sub, n_mul, n_neg, n_div, n_rem, n_le_t, n_le_f, n_lt_t, n_lt_f, n_eq_t, n_eq_f, n_cl, n_gd, n_gdt, n_nz, Int.reduceToNat, Int.reduceAdd, Int.reduceSub, Int.reduceMul, Int.reduceNeg, Int.reduceLT, Int.reduceLE, Int.reduceEq, Int.reduceDiv, Int.reduceMod, Nat.reduceAdd, Nat.reduceMul, ↓reduceIte, u_eq, u_no, u_nk, u_ek, u_2, u_3, j_1, j_3, j_eq, j_no, j_nk, ltd, bnd]
  · rw [eq_false e1] at hx
    by_cases e2 : w = a
    · rw [if_neg (fun c => c.1 (by omega))]
      simp (disch := omega) only [f_J9_floorDiv_7cf53, hx, hd, hw, n_i8, n_i16, n_0, n_31, n_add, n_sub, n_mul, n_neg, n_div, n_rem, n_le_t, n_le_f, n_lt_t, n_lt_f, n_eq_t, n_eq_f, n_cl, n_gd, n_gdt, n_nz, Int.reduceToNat, Int.reduceAdd, Int.reduceSub, Int.reduceMul, Int.reduceNeg, Int.reduceLT, Int.reduceLE, Int.reduceEq, Int.reduceDiv, Int.reduceMod, Nat.reduceAdd, Nat.reduceMul, ↓reduceIte, u_eq, u_no, u_nk, u_ek, u_2, u_3, j_1, j_3, j_eq, j_no, j_nk, ltd, bnd]
    · rw [if_pos ⟨by omega, e1⟩]
      simp (disch := omega) only [f_J9_floorDiv_7cf53, hx, hd, hw, n_i8, n_i16, n_0, n_31, n_add, n_sub, n_mul, n_neg, n_div, n_rem, n_le_t, n_le_f, n_lt_t, n_lt_f, n_eq_t, n_eq_f, n_cl, n_gd, n_gdt, n_nz, Int.reduceToNat, Int.reduceAdd, Int.reduceSub, Int.reduceMul, Int.reduceNeg, Int.reduceLT, Int.reduceLE, Int.reduceEq, Int.reduceDiv, Int.reduceMod, Nat.reduceAdd, Nat.reduceMul, ↓reduceIte, u_eq, u_no, u_nk, u_ek, u_2, u_3, j_1, j_3, j_eq, j_no, j_nk, ltd, bnd]
theorem c_joined {c a b : Int} (ha : lb a) (hb : lb b) (c1 : 1 ≤ c) (c2 : c ≤ 11) (h01 : 10 ≤ c → (a = 0 ∨ a = 1) ∧ (b = 0 ∨ b = 1)) (s : ST) : f_X6_joined (Int32.ofInt (-c)) (Int32.ofInt a) (Int32.ofInt b) s = some (Int32.ofInt (jn c a b), s) := by
  have hfl := fun h0 => c_floor ha hb h0 s
  have hmb := mul_b ha hb
  have ha' := ha
  have hb' := hb
  obtain ⟨a1, a2⟩ := ha
  obtain ⟨b1, b2⟩ := hb
  have hc : c = 1 ∨ c = 2 ∨ c = 3 ∨ c = 4 ∨ c = 5 ∨ c = 6 ∨ c = 7 ∨ c = 8 ∨ c = 9 ∨ c = 10 ∨ c = 11 := by omega
  rcases hc with rfl | rfl | rfl | rfl | rfl | rfl | rfl | rfl | rfl | rfl | rfl
  · rw [jn_1]; unfold clp
    by_cases e1 : 1000000 < a + b
    · rw [if_pos e1]; simp (disch := omega) only [f_X6_joined, n_l1, n_l2, n_l3, n_l4, n_l5, n_l6, n_l7, n_l8, n_l9, n_l10, n_l11, n_l12, n_l13, n_l14, n_l15, n_l16, n_l17, n_l18, n_l19, n_l20, n_l21, n_l22, n_l23, n_l24, n_l25, n_l26, n_l27, n_l28, n_l29, n_l30, n_l31, n_l32, n_l33, n_l34, n_l35, n_l36, n_l37, n_l38, n_l39, n_l40, n_l41, n_l42, n_l43, n_l44, n_l45, n_l46, n_l47, n_l48, n_l49, n_l50, n_l51, n_l52, n_l53, n_l54, n_l55, n_l56, n_l57, n_l58, n_l59, n_l60, n_i8, n_i16, n_0, n_31, n_add, n_sub, n_mul, n_neg, n_div, n_rem, n_le_t, n_le_f, n_lt_t, n_lt_f, n_eq_t, n_eq_f, n_cl, n_gd, n_gdt, n_nz, Int.reduceToNat, Int.reduceAdd, Int.reduceSub, Int.reduceMul, Int.reduceNeg, Int.reduceLT, Int.reduceLE, Int.reduceEq, Int.reduceDiv, Int.reduceMod, Nat.reduceAdd, Nat.reduceMul, ↓reduceIte, u_eq, u_no, u_nk, u_ek, u_2, u_3, j_1, j_3, j_eq, j_no, j_nk, ltd, bnd]
    · rw [if_neg e1]
      by_cases e2 : a + b < -1000000
      · rw [if_pos e2]; simp (disch := omega) only [f_X6_joined, n_l1, n_l2, n_l3, n_l4, n_l5, n_l6, n_l7, n_l8, n_l9, n_l10, n_l11, n_l12, n_l13, n_l14, n_l15, n_l16, n_l17, n_l18, n_l19, n_l20, n_l21, n_l22, n_l23, n_l24, n_l25, n_l26, n_l27, n_l28, n_l29, n_l30, n_l31, n_l32, n_l33, n_l34, n_l35, n_l36, n_l37, n_l38, n_l39, n_l40, n_l41, n_l42, n_l43, n_l44, n_l45, n_l46, n_l47, n_l48, n_l49, n_l50, n_l51, n_l52, n_l53, n_l54, n_l55, n_l56, n_l57, n_l58, n_l59, n_l60, n_i8, n_i16, n_0, n_31, n_add, n_sub, n_mul, n_neg, n_div, n_rem, n_le_t, n_le_f, n_lt_t, n_lt_f, n_eq_t, n_eq_f, n_cl, n_gd, n_gdt, n_nz, Int.reduceToNat, Int.reduceAdd, Int.reduceSub, Int.reduceMul, Int.reduceNeg, Int.reduceLT, Int.reduceLE, Int.reduceEq, Int.reduceDiv, Int.reduceMod, Nat.reduceAdd, Nat.reduceMul, ↓reduceIte, u_eq, u_no, u_nk, u_ek, u_2, u_3, j_1, j_3, j_eq, j_no, j_nk, ltd, bnd]
      · rw [if_neg e2]
        by_cases e3 : a + b = 1000000
        · simp (disch := omega) only [f_X6_joined, e3, n_l1, n_l2, n_l3, n_l4, n_l5, n_l6, n_l7, n_l8, n_l9, n_l10, n_l11, n_l12, n_l13, n_l14, n_l15, n_l16, n_l17, n_l18, n_l19, n_l20, n_l21, n_l22, n_l23, n_l24, n_l25, n_l26, n_l27, n_l28, n_l29, n_l30, n_l31, n_l32, n_l33, n_l34, n_l35, n_l36, n_l37, n_l38, n_l39, n_l40, n_l41, n_l42, n_l43, n_l44, n_l45, n_l46, n_l47, n_l48, n_l49, n_l50, n_l51, n_l52, n_l53, n_l54, n_l55, n_l56, n_l57, n_l58, n_l59, n_l60, n_i8, n_i16, n_0, n_31, n_add, n_sub, n_mul, n_neg, n_div, n_rem, n_le_t, n_le_f, n_lt_t, n_lt_f, n_eq_t, n_eq_f, n_cl, n_gd, n_gdt, n_nz, Int.reduceToNat, Int.reduceAdd, Int.reduceSub, Int.reduceMul, Int.reduceNeg, Int.reduceLT, Int.reduceLE, Int.reduceEq, Int.reduceDiv, Int.reduceMod, Nat.reduceAdd, Nat.reduceMul, ↓reduceIte, u_eq, u_no, u_nk, u_ek, u_2, u_3, j_1, j_3, j_eq, j_no, j_nk, ltd, bnd]
        · by_cases e4 : a + b = -1000000
          · simp (disch := omega) only [f_X6_joined, e4, n_l1, n_l2, n_l3, n_l4, n_l5, n_l6, n_l7, n_l8, n_l9, n_l10, n_l11, n_l12, n_l13, n_l14, n_l15, n_l16, n_l17, n_l18, n_l19, n_l20, n_l21, n_l22, n_l23, n_l24, n_l25, n_l26, n_l27, n_l28, n_l29, n_l30, n_l31, n_l32, n_l33, n_l34, n_l35, n_l36, n_l37, n_l38, n_l39, n_l40, n_l41, n_l42, n_l43, n_l44, n_l45, n_l46, n_l47, n_l48, n_l49, n_l50, n_l51, n_l52, n_l53, n_l54, n_l55, n_l56, n_l57, n_l58, n_l59, n_l60, n_i8, n_i16, n_0, n_31, n_add, n_sub, n_mul, n_neg, n_div, n_rem, n_le_t, n_le_f, n_lt_t, n_lt_f, n_eq_t, n_eq_f, n_cl, n_gd, n_gdt, n_nz, Int.reduceToNat, Int.reduceAdd, Int.reduceSub, Int.reduceMul, Int.reduceNeg, Int.reduceLT, Int.reduceLE, Int.reduceEq, Int.reduceDiv, Int.reduceMod, Nat.reduceAdd, Nat.reduceMul, ↓reduceIte, u_eq, u_no, u_nk, u_ek, u_2, u_3, j_1, j_3, j_eq, j_no, j_nk, ltd, bnd]
          · simp (disch := omega) only [f_X6_joined, n_l1, n_l2, n_l3, n_l4, n_l5, n_l6, n_l7, n_l8, n_l9, n_l10, n_l11, n_l12, n_l13, n_l14, n_l15, n_l16, n_l17, n_l18, n_l19, n_l20, n_l21, n_l22, n_l23, n_l24, n_l25, n_l26, n_l27, n_l28, n_l29, n_l30, n_l31, n_l32, n_l33, n_l34, n_l35, n_l36, n_l37, n_l38, n_l39, n_l40, n_l41, n_l42, n_l43, n_l44, n_l45, n_l46, n_l47, n_l48, n_l49, n_l50, n_l51, n_l52, n_l53, n_l54, n_l55, n_l56, n_l57, n_l58, n_l59, n_l60, n_i8, n_i16, n_0, n_31, n_add, n_sub, n_mul, n_neg, n_div, n_rem, n_le_t, n_le_f, n_lt_t, n_lt_f, n_eq_t, n_eq_f, n_cl, n_gd, n_gdt, n_nz, Int.reduceToNat, Int.reduceAdd, Int.reduceSub, Int.reduceMul, Int.reduceNeg, Int.reduceLT, Int.reduceLE, Int.reduceEq, Int.reduceDiv, Int.reduceMod, Nat.reduceAdd, Nat.reduceMul, ↓reduceIte, u_eq, u_no, u_nk, u_ek, u_2, u_3, j_1, j_3, j_eq, j_no, j_nk, ltd, bnd]
  · rw [jn_2]; unfold clp
    by_cases e1 : 1000000 < a - b
    · rw [if_pos e1]; simp (disch := omega) only [f_X6_joined, n_l1, n_l2, n_l3, n_l4, n_l5, n_l6, n_l7, n_l8, n_l9, n_l10, n_l11, n_l12, n_l13, n_l14, n_l15, n_l16, n_l17, n_l18, n_l19, n_l20, n_l21, n_l22, n_l23, n_l24, n_l25, n_l26, n_l27, n_l28, n_l29, n_l30, n_l31, n_l32, n_l33, n_l34, n_l35, n_l36, n_l37, n_l38, n_l39, n_l40, n_l41, n_l42, n_l43, n_l44, n_l45, n_l46, n_l47, n_l48, n_l49, n_l50, n_l51, n_l52, n_l53, n_l54, n_l55, n_l56, n_l57, n_l58, n_l59, n_l60, n_i8, n_i16, n_0, n_31, n_add, n_sub, n_mul, n_neg, n_div, n_rem, n_le_t, n_le_f, n_lt_t, n_lt_f, n_eq_t, n_eq_f, n_cl, n_gd, n_gdt, n_nz, Int.reduceToNat, Int.reduceAdd, Int.reduceSub, Int.reduceMul, Int.reduceNeg, Int.reduceLT, Int.reduceLE, Int.reduceEq, Int.reduceDiv, Int.reduceMod, Nat.reduceAdd, Nat.reduceMul, ↓reduceIte, u_eq, u_no, u_nk, u_ek, u_2, u_3, j_1, j_3, j_eq, j_no, j_nk, ltd, bnd]
    · rw [if_neg e1]
      by_cases e2 : a - b < -1000000
      · rw [if_pos e2]; simp (disch := omega) only [f_X6_joined, n_l1, n_l2, n_l3, n_l4, n_l5, n_l6, n_l7, n_l8, n_l9, n_l10, n_l11, n_l12, n_l13, n_l14, n_l15, n_l16, n_l17, n_l18, n_l19, n_l20, n_l21, n_l22, n_l23, n_l24, n_l25, n_l26, n_l27, n_l28, n_l29, n_l30, n_l31, n_l32, n_l33, n_l34, n_l35, n_l36, n_l37, n_l38, n_l39, n_l40, n_l41, n_l42, n_l43, n_l44, n_l45, n_l46, n_l47, n_l48, n_l49, n_l50, n_l51, n_l52, n_l53, n_l54, n_l55, n_l56, n_l57, n_l58, n_l59, n_l60, n_i8, n_i16, n_0, n_31, n_add, n_sub, n_mul, n_neg, n_div, n_rem, n_le_t, n_le_f, n_lt_t, n_lt_f, n_eq_t, n_eq_f, n_cl, n_gd, n_gdt, n_nz, Int.reduceToNat, Int.reduceAdd, Int.reduceSub, Int.reduceMul, Int.reduceNeg, Int.reduceLT, Int.reduceLE, Int.reduceEq, Int.reduceDiv, Int.reduceMod, Nat.reduceAdd, Nat.reduceMul, ↓reduceIte, u_eq, u_no, u_nk, u_ek, u_2, u_3, j_1, j_3, j_eq, j_no, j_nk, ltd, bnd]
      · rw [if_neg e2]
        by_cases e3 : a - b = 1000000
        · simp (disch := omega) only [f_X6_joined, e3, n_l1, n_l2, n_l3, n_l4, n_l5, n_l6, n_l7, n_l8, n_l9, n_l10, n_l11, n_l12, n_l13, n_l14, n_l15, n_l16, n_l17, n_l18, n_l19, n_l20, n_l21, n_l22, n_l23, n_l24, n_l25, n_l26, n_l27, n_l28, n_l29, n_l30, n_l31, n_l32, n_l33, n_l34, n_l35, n_l36, n_l37, n_l38, n_l39, n_l40, n_l41, n_l42, n_l43, n_l44, n_l45, n_l46, n_l47, n_l48, n_l49, n_l50, n_l51, n_l52, n_l53, n_l54, n_l55, n_l56, n_l57, n_l58, n_l59, n_l60, n_i8, n_i16, n_0, n_31, n_add, n_sub, n_mul, n_neg, n_div, n_rem, n_le_t, n_le_f, n_lt_t, n_lt_f, n_eq_t, n_eq_f, n_cl, n_gd, n_gdt, n_nz, Int.reduceToNat, Int.reduceAdd, Int.reduceSub, Int.reduceMul, Int.reduceNeg, Int.reduceLT, Int.reduceLE, Int.reduceEq, Int.reduceDiv, Int.reduceMod, Nat.reduceAdd, Nat.reduceMul, ↓reduceIte, u_eq, u_no, u_nk, u_ek, u_2, u_3, j_1, j_3, j_eq, j_no, j_nk, ltd, bnd]
        · by_cases e4 : a - b = -1000000
          · simp (disch := omega) only [f_X6_joined, e4, n_l1, n_l2, n_l3, n_l4, n_l5, n_l6, n_l7, n_l8, n_l9, n_l10, n_l11, n_l12, n_l13, n_l14, n_l15, n_l16, n_l17, n_l18, n_l19, n_l20, n_l21, n_l22, n_l23, n_l24, n_l25, n_l26, n_l27, n_l28, n_l29, n_l30, n_l31, n_l32, n_l33, n_l34, n_l35, n_l36, n_l37, n_l38, n_l39, n_l40, n_l41, n_l42, n_l43, n_l44, n_l45, n_l46, n_l47, n_l48, n_l49, n_l50, n_l51, n_l52, n_l53, n_l54, n_l55, n_l56, n_l57, n_l58, n_l59, n_l60, n_i8, n_i16, n_0, n_31, n_add, n_sub, n_mul, n_neg, n_div, n_rem, n_le_t, n_le_f, n_lt_t, n_lt_f, n_eq_t, n_eq_f, n_cl, n_gd, n_gdt, n_nz, Int.reduceToNat, Int.reduceAdd, Int.reduceSub, Int.reduceMul, Int.reduceNeg, Int.reduceLT, Int.reduceLE, Int.reduceEq, Int.reduceDiv, Int.reduceMod, Nat.reduceAdd, Nat.reduceMul, ↓reduceIte, u_eq, u_no, u_nk, u_ek, u_2, u_3, j_1, j_3, j_eq, j_no, j_nk, ltd, bnd]
          · simp (disch := omega) only [f_X6_joined, n_l1, n_l2, n_l3, n_l4, n_l5, n_l6, n_l7, n_l8, n_l9, n_l10, n_l11, n_l12, n_l13, n_l14, n_l15, n_l16, n_l17, n_l18, n_l19, n_l20, n_l21, n_l22, n_l23, n_l24, n_l25, n_l26, n_l27, n_l28, n_l29, n_l30, n_l31, n_l32, n_l33, n_l34, n_l35, n_l36, n_l37, n_l38, n_l39, n_l40, n_l41, n_l42, n_l43, n_l44, n_l45, n_l46, n_l47, n_l48, n_l49, n_l50, n_l51, n_l52, n_l53, n_l54, n_l55, n_l56, n_l57, n_l58, n_l59, n_l60, n_i8, n_i16, n_0, n_31, n_add, n_sub, n_mul, n_neg, n_div, n_rem, n_le_t, n_le_f, n_lt_t, n_lt_f, n_eq_t, n_eq_f, n_cl, n_gd, n_gdt, n_nz, Int.reduceToNat, Int.reduceAdd, Int.reduceSub, Int.reduceMul, Int.reduceNeg, Int.reduceLT, Int.reduceLE, Int.reduceEq, Int.reduceDiv, Int.reduceMod, Nat.reduceAdd, Nat.reduceMul, ↓reduceIte, u_eq, u_no, u_nk, u_ek, u_2, u_3, j_1, j_3, j_eq, j_no, j_nk, ltd, bnd]
  · rw [jn_3]; unfold clp
    generalize hw : a * b = w at *
    by_cases e1 : 1000000 < w
    · rw [if_pos e1]; simp (disch := omega) only [f_X6_joined, hw, l_i, l_j, l_mul, l_lt_t, l_lt_f, n_l1, n_l2, n_l3, n_l4, n_l5, n_l6, n_l7, n_l8, n_l9, n_l10, n_l11, n_l12, n_l13, n_l14, n_l15, n_l16, n_l17, n_l18, n_l19, n_l20, n_l21, n_l22, n_l23, n_l24, n_l25, n_l26, n_l27, n_l28, n_l29, n_l30, n_l31, n_l32, n_l33, n_l34, n_l35, n_l36, n_l37, n_l38, n_l39, n_l40, n_l41, n_l42, n_l43, n_l44, n_l45, n_l46, n_l47, n_l48, n_l49, n_l50, n_l51, n_l52, n_l53, n_l54, n_l55, n_l56, n_l57, n_l58, n_l59, n_l60, n_i8, n_i16, n_0, n_31, n_add, n_sub, n_mul, n_neg, n_div, n_rem, n_le_t, n_le_f, n_lt_t, n_lt_f, n_eq_t, n_eq_f, n_cl, n_gd, n_gdt, n_nz, Int.reduceToNat, Int.reduceAdd, Int.reduceSub, Int.reduceMul, Int.reduceNeg, Int.reduceLT, Int.reduceLE, Int.reduceEq, Int.reduceDiv, Int.reduceMod, Nat.reduceAdd, Nat.reduceMul, ↓reduceIte, u_eq, u_no, u_nk, u_ek, u_2, u_3, j_1, j_3, j_eq, j_no, j_nk, ltd, bnd]
    · rw [if_neg e1]
      by_cases e2 : w < -1000000
      · rw [if_pos e2]; simp (disch := omega) only [f_X6_joined, hw, l_i, l_j, l_mul, l_lt_t, l_lt_f, n_l1, n_l2, n_l3, n_l4, n_l5, n_l6, n_l7, n_l8, n_l9, n_l10, n_l11, n_l12, n_l13, n_l14, n_l15, n_l16, n_l17, n_l18, n_l19, n_l20, n_l21, n_l22, n_l23, n_l24, n_l25, n_l26, n_l27, n_l28, n_l29, n_l30, n_l31, n_l32, n_l33, n_l34, n_l35, n_l36, n_l37, n_l38, n_l39, n_l40, n_l41, n_l42, n_l43, n_l44, n_l45, n_l46, n_l47, n_l48, n_l49, n_l50, n_l51, n_l52, n_l53, n_l54, n_l55, n_l56, n_l57, n_l58, n_l59, n_l60, n_i8, n_i16, n_0, n_31, n_add, n_sub, n_mul, n_neg, n_div, n_rem, n_le_t, n_le_f, n_lt_t, n_lt_f, n_eq_t, n_eq_f, n_cl, n_gd, n_gdt, n_nz, Int.reduceToNat, Int.reduceAdd, Int.reduceSub, Int.reduceMul, Int.reduceNeg, Int.reduceLT, Int.reduceLE, Int.reduceEq, Int.reduceDiv, Int.reduceMod, Nat.reduceAdd, Nat.reduceMul, ↓reduceIte, u_eq, u_no, u_nk, u_ek, u_2, u_3, j_1, j_3, j_eq, j_no, j_nk, ltd, bnd]
      · rw [if_neg e2]
        by_cases e3 : w = 1000000
        · simp (disch := omega) only [f_X6_joined, hw, e3, l_i, l_j, l_mul, l_lt_t, l_lt_f, n_l1, n_l2, n_l3, n_l4, n_l5, n_l6, n_l7, n_l8, n_l9, n_l10, n_l11, n_l12, n_l13, n_l14, n_l15, n_l16, n_l17, n_l18, n_l19, n_l20, n_l21, n_l22, n_l23, n_l24, n_l25, n_l26, n_l27, n_l28, n_l29, n_l30, n_l31, n_l32, n_l33, n_l34, n_l35, n_l36, n_l37, n_l38, n_l39, n_l40, n_l41, n_l42, n_l43, n_l44, n_l45, n_l46, n_l47, n_l48, n_l49, n_l50, n_l51, n_l52, n_l53, n_l54, n_l55, n_l56, n_l57, n_l58, n_l59, n_l60, n_i8, n_i16, n_0, n_31, n_add, n_sub, n_mul, n_neg, n_div, n_rem, n_le_t, n_le_f, n_lt_t, n_lt_f, n_eq_t, n_eq_f, n_cl, n_gd, n_gdt, n_nz, Int.reduceToNat, Int.reduceAdd, Int.reduceSub, Int.reduceMul, Int.reduceNeg, Int.reduceLT, Int.reduceLE, Int.reduceEq, Int.reduceDiv, Int.reduceMod, Nat.reduceAdd, Nat.reduceMul, ↓reduceIte, u_eq, u_no, u_nk, u_ek, u_2, u_3, j_1, j_3, j_eq, j_no, j_nk, ltd, bnd]
        · simp (disch := omega) only [f_X6_joined, hw, l_i, l_j, l_mul, l_lt_t, l_lt_f, n_l1, n_l2, n_l3, n_l4, n_l5, n_l6, n_l7, n_l8, n_l9, n_l10, n_l11, n_l12, n_l13, n_l14, n_l15, n_l16, n_l17, n_l18, n_l19, n_l20, n_l21, n_l22, n_l23, n_l24, n_l25, n_l26, n_l27, n_l28, n_l29, n_l30, n_l31, n_l32, n_l33, n_l34, n_l35, n_l36, n_l37, n_l38, n_l39, n_l40, n_l41, n_l42, n_l43, n_l44, n_l45, n_l46, n_l47, n_l48, n_l49, n_l50, n_l51, n_l52, n_l53, n_l54, n_l55, n_l56, n_l57, n_l58, n_l59, n_l60, n_i8, n_i16, n_0, n_31, n_add, n_sub, n_mul, n_neg, n_div, n_rem, n_le_t, n_le_f, n_lt_t, n_lt_f, n_eq_t, n_eq_f, n_cl, n_gd, n_gdt, n_nz, Int.reduceToNat, Int.reduceAdd, Int.reduceSub, Int.reduceMul, Int.reduceNeg, Int.reduceLT, Int.reduceLE, Int.reduceEq, Int.reduceDiv, Int.reduceMod, Nat.reduceAdd, Nat.reduceMul, ↓reduceIte, u_eq, u_no, u_nk, u_ek, u_2, u_3, j_1, j_3, j_eq, j_no, j_nk, ltd, bnd]
  · rw [jn_4]
    by_cases e0 : b = 0
    · have : fdv a b = 0 := by unfold fdv; rw [if_pos e0]
      rw [this]
      simp (disch := omega) only [f_X6_joined, n_l1, n_l2, n_l3, n_l4, n_l5, n_l6, n_l7, n_l8, n_l9, n_l10, n_l11, n_l12, n_l13, n_l14, n_l15, n_l16, n_l17, n_l18, n_l19, n_l20, n_l21, n_l22, n_l23, n_l24, n_l25, n_l26, n_l27, n_l28, n_l29, n_l30, n_l31, n_l32, n_l33, n_l34, n_l35, n_l36, n_l37, n_l38, n_l39, n_l40, n_l41, n_l42, n_l43, n_l44, n_l45, n_l46, n_l47, n_l48, n_l49, n_l50, n_l51, n_l52, n_l53, n_l54, n_l55, n_l56, n_l57, n_l58, n_l59, n_l60, n_i8, n_i16, n_0, n_31, n_add, n_sub, n_mul, n_neg, n_div, n_rem, n_le_t, n_le_f, n_lt_t, n_lt_f, n_eq_t, n_eq_f, n_cl, n_gd, n_gdt, n_nz, Int.reduceToNat, Int.reduceAdd, Int.reduceSub, Int.reduceMul, Int.reduceNeg, Int.reduceLT, Int.reduceLE, Int.reduceEq, Int.reduceDiv, Int.reduceMod, Nat.reduceAdd, Nat.reduceMul, ↓reduceIte, u_eq, u_no, u_nk, u_ek, u_2, u_3, j_1, j_3, j_eq, j_no, j_nk, ltd, bnd]
    · have hfl := hfl e0
      simp (disch := omega) only [f_X6_joined, hfl, n_l1, n_l2, n_l3, n_l4, n_l5, n_l6, n_l7, n_l8, n_l9, n_l10, n_l11, n_l12, n_l13, n_l14, n_l15, n_l16, n_l17, n_l18, n_l19, n_l20, n_l21, n_l22, n_l23, n_l24, n_l25, n_l26, n_l27, n_l28, n_l29, n_l30, n_l31, n_l32, n_l33, n_l34, n_l35, n_l36, n_l37, n_l38, n_l39, n_l40, n_l41, n_l42, n_l43, n_l44, n_l45, n_l46, n_l47, n_l48, n_l49, n_l50, n_l51, n_l52, n_l53, n_l54, n_l55, n_l56, n_l57, n_l58, n_l59, n_l60, n_i8, n_i16, n_0, n_31, n_add, n_sub, n_mul, n_neg, n_div, n_rem, n_le_t, n_le_f, n_lt_t, n_lt_f, n_eq_t, n_eq_f, n_cl, n_gd, n_gdt, n_nz, Int.reduceToNat, Int.reduceAdd, Int.reduceSub, Int.reduceMul, Int.reduceNeg, Int.reduceLT, Int.reduceLE, Int.reduceEq, Int.reduceDiv, Int.reduceMod, Nat.reduceAdd, Nat.reduceMul, ↓reduceIte, u_eq, u_no, u_nk, u_ek, u_2, u_3, j_1, j_3, j_eq, j_no, j_nk, ltd, bnd]
  · rw [jn_5]
    by_cases e1 : a < b
    · rw [if_pos e1]; simp (disch := omega) only [f_X6_joined, n_l1, n_l2, n_l3, n_l4, n_l5, n_l6, n_l7, n_l8, n_l9, n_l10, n_l11, n_l12, n_l13, n_l14, n_l15, n_l16, n_l17, n_l18, n_l19, n_l20, n_l21, n_l22, n_l23, n_l24, n_l25, n_l26, n_l27, n_l28, n_l29, n_l30, n_l31, n_l32, n_l33, n_l34, n_l35, n_l36, n_l37, n_l38, n_l39, n_l40, n_l41, n_l42, n_l43, n_l44, n_l45, n_l46, n_l47, n_l48, n_l49, n_l50, n_l51, n_l52, n_l53, n_l54, n_l55, n_l56, n_l57, n_l58, n_l59, n_l60, n_i8, n_i16, n_0, n_31, n_add, n_sub, n_mul, n_neg, n_div, n_rem, n_le_t, n_le_f, n_lt_t, n_lt_f, n_eq_t, n_eq_f, n_cl, n_gd, n_gdt, n_nz, Int.reduceToNat, Int.reduceAdd, Int.reduceSub, Int.reduceMul, Int.reduceNeg, Int.reduceLT, Int.reduceLE, Int.reduceEq, Int.reduceDiv, Int.reduceMod, Nat.reduceAdd, Nat.reduceMul, ↓reduceIte, u_eq, u_no, u_nk, u_ek, u_2, u_3, j_1, j_3, j_eq, j_no, j_nk, ltd, bnd]
    · rw [if_neg e1]
      by_cases e2 : a = b
      · simp (disch := omega) only [f_X6_joined, e2, n_l1, n_l2, n_l3, n_l4, n_l5, n_l6, n_l7, n_l8, n_l9, n_l10, n_l11, n_l12, n_l13, n_l14, n_l15, n_l16, n_l17, n_l18, n_l19, n_l20, n_l21, n_l22, n_l23, n_l24, n_l25, n_l26, n_l27, n_l28, n_l29, n_l30, n_l31, n_l32, n_l33, n_l34, n_l35, n_l36, n_l37, n_l38, n_l39, n_l40, n_l41, n_l42, n_l43, n_l44, n_l45, n_l46, n_l47, n_l48, n_l49, n_l50, n_l51, n_l52, n_l53, n_l54, n_l55, n_l56, n_l57, n_l58, n_l59, n_l60, n_i8, n_i16, n_0, n_31, n_add, n_sub, n_mul, n_neg, n_div, n_rem, n_le_t, n_le_f, n_lt_t, n_lt_f, n_eq_t, n_eq_f, n_cl, n_gd, n_gdt, n_nz, Int.reduceToNat, Int.reduceAdd, Int.reduceSub, Int.reduceMul, Int.reduceNeg, Int.reduceLT, Int.reduceLE, Int.reduceEq, Int.reduceDiv, Int.reduceMod, Nat.reduceAdd, Nat.reduceMul, ↓reduceIte, u_eq, u_no, u_nk, u_ek, u_2, u_3, j_1, j_3, j_eq, j_no, j_nk, ltd, bnd]
      · simp (disch := omega) only [f_X6_joined, n_l1, n_l2, n_l3, n_l4, n_l5, n_l6, n_l7, n_l8, n_l9, n_l10, n_l11, n_l12, n_l13, n_l14, n_l15, n_l16, n_l17, n_l18, n_l19, n_l20, n_l21, n_l22, n_l23, n_l24, n_l25, n_l26, n_l27, n_l28, n_l29, n_l30, n_l31, n_l32, n_l33, n_l34, n_l35, n_l36, n_l37, n_l38, n_l39, n_l40, n_l41, n_l42, n_l43, n_l44, n_l45, n_l46, n_l47, n_l48, n_l49, n_l50, n_l51, n_l52, n_l53, n_l54, n_l55, n_l56, n_l57, n_l58, n_l59, n_l60, n_i8, n_i16, n_0, n_31, n_add, n_sub, n_mul, n_neg, n_div, n_rem, n_le_t, n_le_f, n_lt_t, n_lt_f, n_eq_t, n_eq_f, n_cl, n_gd, n_gdt, n_nz, Int.reduceToNat, Int.reduceAdd, Int.reduceSub, Int.reduceMul, Int.reduceNeg, Int.reduceLT, Int.reduceLE, Int.reduceEq, Int.reduceDiv, Int.reduceMod, Nat.reduceAdd, Nat.reduceMul, ↓reduceIte, u_eq, u_no, u_nk, u_ek, u_2, u_3, j_1, j_3, j_eq, j_no, j_nk, ltd, bnd]
  · rw [jn_6]
    by_cases e1 : b < a
    · rw [if_pos e1]; simp (disch := omega) only [f_X6_joined, n_l1, n_l2, n_l3, n_l4, n_l5, n_l6, n_l7, n_l8, n_l9, n_l10, n_l11, n_l12, n_l13, n_l14, n_l15, n_l16, n_l17, n_l18, n_l19, n_l20, n_l21, n_l22, n_l23, n_l24, n_l25, n_l26, n_l27, n_l28, n_l29, n_l30, n_l31, n_l32, n_l33, n_l34, n_l35, n_l36, n_l37, n_l38, n_l39, n_l40, n_l41, n_l42, n_l43, n_l44, n_l45, n_l46, n_l47, n_l48, n_l49, n_l50, n_l51, n_l52, n_l53, n_l54, n_l55, n_l56, n_l57, n_l58, n_l59, n_l60, n_i8, n_i16, n_0, n_31, n_add, n_sub, n_mul, n_neg, n_div, n_rem, n_le_t, n_le_f, n_lt_t, n_lt_f, n_eq_t, n_eq_f, n_cl, n_gd, n_gdt, n_nz, Int.reduceToNat, Int.reduceAdd, Int.reduceSub, Int.reduceMul, Int.reduceNeg, Int.reduceLT, Int.reduceLE, Int.reduceEq, Int.reduceDiv, Int.reduceMod, Nat.reduceAdd, Nat.reduceMul, ↓reduceIte, u_eq, u_no, u_nk, u_ek, u_2, u_3, j_1, j_3, j_eq, j_no, j_nk, ltd, bnd]
    · rw [if_neg e1]
      by_cases e2 : a = b
      · simp (disch := omega) only [f_X6_joined, e2, n_l1, n_l2, n_l3, n_l4, n_l5, n_l6, n_l7, n_l8, n_l9, n_l10, n_l11, n_l12, n_l13, n_l14, n_l15, n_l16, n_l17, n_l18, n_l19, n_l20, n_l21, n_l22, n_l23, n_l24, n_l25, n_l26, n_l27, n_l28, n_l29, n_l30, n_l31, n_l32, n_l33, n_l34, n_l35, n_l36, n_l37, n_l38, n_l39, n_l40, n_l41, n_l42, n_l43, n_l44, n_l45, n_l46, n_l47, n_l48, n_l49, n_l50, n_l51, n_l52, n_l53, n_l54, n_l55, n_l56, n_l57, n_l58, n_l59, n_l60, n_i8, n_i16, n_0, n_31, n_add, n_sub, n_mul, n_neg, n_div, n_rem, n_le_t, n_le_f, n_lt_t, n_lt_f, n_eq_t, n_eq_f, n_cl, n_gd, n_gdt, n_nz, Int.reduceToNat, Int.reduceAdd, Int.reduceSub, Int.reduceMul, Int.reduceNeg, Int.reduceLT, Int.reduceLE, Int.reduceEq, Int.reduceDiv, Int.reduceMod, Nat.reduceAdd, Nat.reduceMul, ↓reduceIte, u_eq, u_no, u_nk, u_ek, u_2, u_3, j_1, j_3, j_eq, j_no, j_nk, ltd, bnd]
      · simp (disch := omega) only [f_X6_joined, n_l1, n_l2, n_l3, n_l4, n_l5, n_l6, n_l7, n_l8, n_l9, n_l10, n_l11, n_l12, n_l13, n_l14, n_l15, n_l16, n_l17, n_l18, n_l19, n_l20, n_l21, n_l22, n_l23, n_l24, n_l25, n_l26, n_l27, n_l28, n_l29, n_l30, n_l31, n_l32, n_l33, n_l34, n_l35, n_l36, n_l37, n_l38, n_l39, n_l40, n_l41, n_l42, n_l43, n_l44, n_l45, n_l46, n_l47, n_l48, n_l49, n_l50, n_l51, n_l52, n_l53, n_l54, n_l55, n_l56, n_l57, n_l58, n_l59, n_l60, n_i8, n_i16, n_0, n_31, n_add, n_sub, n_mul, n_neg, n_div, n_rem, n_le_t, n_le_f, n_lt_t, n_lt_f, n_eq_t, n_eq_f, n_cl, n_gd, n_gdt, n_nz, Int.reduceToNat, Int.reduceAdd, Int.reduceSub, Int.reduceMul, Int.reduceNeg, Int.reduceLT, Int.reduceLE, Int.reduceEq, Int.reduceDiv, Int.reduceMod, Nat.reduceAdd, Nat.reduceMul, ↓reduceIte, u_eq, u_no, u_nk, u_ek, u_2, u_3, j_1, j_3, j_eq, j_no, j_nk, ltd, bnd]
  · rw [jn_7]
    by_cases e1 : a < b
    · rw [if_pos e1]; simp (disch := omega) only [f_X6_joined, n_l1, n_l2, n_l3, n_l4, n_l5, n_l6, n_l7, n_l8, n_l9, n_l10, n_l11, n_l12, n_l13, n_l14, n_l15, n_l16, n_l17, n_l18, n_l19, n_l20, n_l21, n_l22, n_l23, n_l24, n_l25, n_l26, n_l27, n_l28, n_l29, n_l30, n_l31, n_l32, n_l33, n_l34, n_l35, n_l36, n_l37, n_l38, n_l39, n_l40, n_l41, n_l42, n_l43, n_l44, n_l45, n_l46, n_l47, n_l48, n_l49, n_l50, n_l51, n_l52, n_l53, n_l54, n_l55, n_l56, n_l57, n_l58, n_l59, n_l60, n_i8, n_i16, n_0, n_31, n_add, n_sub, n_mul, n_neg, n_div, n_rem, n_le_t, n_le_f, n_lt_t, n_lt_f, n_eq_t, n_eq_f, n_cl, n_gd, n_gdt, n_nz, Int.reduceToNat, Int.reduceAdd, Int.reduceSub, Int.reduceMul, Int.reduceNeg, Int.reduceLT, Int.reduceLE, Int.reduceEq, Int.reduceDiv, Int.reduceMod, Nat.reduceAdd, Nat.reduceMul, ↓reduceIte, u_eq, u_no, u_nk, u_ek, u_2, u_3, j_1, j_3, j_eq, j_no, j_nk, ltd, bnd]
    · rw [if_neg e1]; simp (disch := omega) only [f_X6_joined, n_l1, n_l2, n_l3, n_l4, n_l5, n_l6, n_l7, n_l8, n_l9, n_l10, n_l11, n_l12, n_l13, n_l14, n_l15, n_l16, n_l17, n_l18, n_l19, n_l20, n_l21, n_l22, n_l23, n_l24, n_l25, n_l26, n_l27, n_l28, n_l29, n_l30, n_l31, n_l32, n_l33, n_l34, n_l35, n_l36, n_l37, n_l38, n_l39, n_l40, n_l41, n_l42, n_l43, n_l44, n_l45, n_l46, n_l47, n_l48, n_l49, n_l50, n_l51, n_l52, n_l53, n_l54, n_l55, n_l56, n_l57, n_l58, n_l59, n_l60, n_i8, n_i16, n_0, n_31, n_add, n_sub, n_mul, n_neg, n_div, n_rem, n_le_t, n_le_f, n_lt_t, n_lt_f, n_eq_t, n_eq_f, n_cl, n_gd, n_gdt, n_nz, Int.reduceToNat, Int.reduceAdd, Int.reduceSub, Int.reduceMul, Int.reduceNeg, Int.reduceLT, Int.reduceLE, Int.reduceEq, Int.reduceDiv, Int.reduceMod, Nat.reduceAdd, Nat.reduceMul, ↓reduceIte, u_eq, u_no, u_nk, u_ek, u_2, u_3, j_1, j_3, j_eq, j_no, j_nk, ltd, bnd]
  · rw [jn_8]
    by_cases e1 : b < a
    · rw [if_pos e1]; simp (disch := omega) only [f_X6_joined, n_l1, n_l2, n_l3, n_l4, n_l5, n_l6, n_l7, n_l8, n_l9, n_l10, n_l11, n_l12, n_l13, n_l14, n_l15, n_l16, n_l17, n_l18, n_l19, n_l20, n_l21, n_l22, n_l23, n_l24, n_l25, n_l26, n_l27, n_l28, n_l29, n_l30, n_l31, n_l32, n_l33, n_l34, n_l35, n_l36, n_l37, n_l38, n_l39, n_l40, n_l41, n_l42, n_l43, n_l44, n_l45, n_l46, n_l47, n_l48, n_l49, n_l50, n_l51, n_l52, n_l53, n_l54, n_l55, n_l56, n_l57, n_l58, n_l59, n_l60, n_i8, n_i16, n_0, n_31, n_add, n_sub, n_mul, n_neg, n_div, n_rem, n_le_t, n_le_f, n_lt_t, n_lt_f, n_eq_t, n_eq_f, n_cl, n_gd, n_gdt, n_nz, Int.reduceToNat, Int.reduceAdd, Int.reduceSub, Int.reduceMul, Int.reduceNeg, Int.reduceLT, Int.reduceLE, Int.reduceEq, Int.reduceDiv, Int.reduceMod, Nat.reduceAdd, Nat.reduceMul, ↓reduceIte, u_eq, u_no, u_nk, u_ek, u_2, u_3, j_1, j_3, j_eq, j_no, j_nk, ltd, bnd]
    · rw [if_neg e1]; simp (disch := omega) only [f_X6_joined, n_l1, n_l2, n_l3, n_l4, n_l5, n_l6, n_l7, n_l8, n_l9, n_l10, n_l11, n_l12, n_l13, n_l14, n_l15, n_l16, n_l17, n_l18, n_l19, n_l20, n_l21, n_l22, n_l23, n_l24, n_l25, n_l26, n_l27, n_l28, n_l29, n_l30, n_l31, n_l32, n_l33, n_l34, n_l35, n_l36, n_l37, n_l38, n_l39, n_l40, n_l41, n_l42, n_l43, n_l44, n_l45, n_l46, n_l47, n_l48, n_l49, n_l50, n_l51, n_l52, n_l53, n_l54, n_l55, n_l56, n_l57, n_l58, n_l59, n_l60, n_i8, n_i16, n_0, n_31, n_add, n_sub, n_mul, n_neg, n_div, n_rem, n_le_t, n_le_f, n_lt_t, n_lt_f, n_eq_t, n_eq_f, n_cl, n_gd, n_gdt, n_nz, Int.reduceToNat, Int.reduceAdd, Int.reduceSub, Int.reduceMul, Int.reduceNeg, Int.reduceLT, Int.reduceLE, Int.reduceEq, Int.reduceDiv, Int.reduceMod, Nat.reduceAdd, Nat.reduceMul, ↓reduceIte, u_eq, u_no, u_nk, u_ek, u_2, u_3, j_1, j_3, j_eq, j_no, j_nk, ltd, bnd]
  · rw [jn_9]
    by_cases e1 : a = b
    · rw [if_pos e1]; simp (disch := omega) only [f_X6_joined, n_l1, n_l2, n_l3, n_l4, n_l5, n_l6, n_l7, n_l8, n_l9, n_l10, n_l11, n_l12, n_l13, n_l14, n_l15, n_l16, n_l17, n_l18, n_l19, n_l20, n_l21, n_l22, n_l23, n_l24, n_l25, n_l26, n_l27, n_l28, n_l29, n_l30, n_l31, n_l32, n_l33, n_l34, n_l35, n_l36, n_l37, n_l38, n_l39, n_l40, n_l41, n_l42, n_l43, n_l44, n_l45, n_l46, n_l47, n_l48, n_l49, n_l50, n_l51, n_l52, n_l53, n_l54, n_l55, n_l56, n_l57, n_l58, n_l59, n_l60, n_i8, n_i16, n_0, n_31, n_add, n_sub, n_mul, n_neg, n_div, n_rem, n_le_t, n_le_f, n_lt_t, n_lt_f, n_eq_t, n_eq_f, n_cl, n_gd, n_gdt, n_nz, Int.reduceToNat, Int.reduceAdd, Int.reduceSub, Int.reduceMul, Int.reduceNeg, Int.reduceLT, Int.reduceLE, Int.reduceEq, Int.reduceDiv, Int.reduceMod, Nat.reduceAdd, Nat.reduceMul, ↓reduceIte, u_eq, u_no, u_nk, u_ek, u_2, u_3, j_1, j_3, j_eq, j_no, j_nk, ltd, bnd]
    · rw [if_neg e1]; simp (disch := omega) only [f_X6_joined, n_l1, n_l2, n_l3, n_l4, n_l5, n_l6, n_l7, n_l8, n_l9, n_l10, n_l11, n_l12, n_l13, n_l14, n_l15, n_l16, n_l17, n_l18, n_l19, n_l20, n_l21, n_l22, n_l23, n_l24, n_l25, n_l26, n_l27, n_l28, n_l29, n_l30, n_l31, n_l32, n_l33, n_l34, n_l35, n_l36, n_l37, n_l38, n_l39, n_l40, n_l41, n_l42, n_l43, n_l44, n_l45, n_l46, n_l47, n_l48, n_l49, n_l50, n_l51, n_l52, n_l53, n_l54, n_l55, n_l56, n_l57, n_l58, n_l59, n_l60, n_i8, n_i16, n_0, n_31, n_add, n_sub, n_mul, n_neg, n_div, n_rem, n_le_t, n_le_f, n_lt_t, n_lt_f, n_eq_t, n_eq_f, n_cl, n_gd, n_gdt, n_nz, Int.reduceToNat, Int.reduceAdd, Int.reduceSub, Int.reduceMul, Int.reduceNeg, Int.reduceLT, Int.reduceLE, Int.reduceEq, Int.reduceDiv, Int.reduceMod, Nat.reduceAdd, Nat.reduceMul, ↓reduceIte, u_eq, u_no, u_nk, u_ek, u_2, u_3, j_1, j_3, j_eq, j_no, j_nk, ltd, bnd]
  · obtain ⟨ha, hb⟩ := h01 (by omega)
    rcases ha with rfl | rfl <;> rcases hb with rfl | rfl <;> rfl
  · obtain ⟨ha, hb⟩ := h01 (by omega)
    rcases ha with rfl | rfl <;> rcases hb with rfl | rfl <;> rfl
theorem wdP_b (i : Int) : 0 ≤ wdP i ∧ wdP i ≤ 26 := by unfold wdP; (repeat' split) <;> omega
theorem c_fact {o : Nat} (ho : o = 36 ∨ o = 46) {s : ST} {w v : Int} (w0 : 0 ≤ w) (w1 : w < 33) (h : s.1 (o + 7) w.toNat = Int32.ofInt v) : f_X6_fact (o + 6) (Int32.ofInt w) s = some (Int32.ofInt v, s) := by
  simp (disch := omega) only [f_X6_fact, h, g_kr7, on33, g_kk, g_k1, g_n1, g_k2, g_n2, g_k3, g_n3, g_k4, g_n4, g_k5, g_n5, g_k7, g_n7, g_k8, g_n8, g_k9, g_n9, g_k6, g_r3, g_r4, g_r5, g_r6, g_r7, g_r10, g_q0, g_q1, g_q2, p_kk, p_k1, p_n1, p_k2, p_n2, p_k3, p_n3, p_k4, p_n4, p_k5, p_n5, p_k6, p_n6, p_k7, p_n7, p_k8, p_n8, p_k9, p_n9, p_k10, p_n10, p_k11, p_n11, p_k13, p_n13, p_k12, p_r2, p_r4, p_r5, p_r6, p_r7, p_r9, p_r10, p_r11, p_r13, p_r14, p_r15, p_r16, p_h0, n_i8, n_i16, n_0, n_31, n_add, n_sub, n_mul, n_neg, n_div, n_rem, n_le_t, n_le_f, n_lt_t, n_lt_f, n_eq_t, n_eq_f, n_cl, n_gd, n_gdt, n_nz, Int.reduceToNat, Int.reduceAdd, Int.reduceSub, Int.reduceMul, Int.reduceNeg, Int.reduceLT, Int.reduceLE, Int.reduceEq, Int.reduceDiv, Int.reduceMod, Nat.reduceAdd, Nat.reduceMul, ↓reduceIte, u_eq, u_no, u_nk, u_ek, u_2, u_3, j_1, j_3, j_eq, j_no, j_nk, ltd, bnd]
def CE (o : Nat) (U : Int → Prop) (E : Int → Int) (s : ST) : Prop := ∀ i : Int, U i → s.1 (o + 7) (wdP i).toNat = Int32.ofInt (E i)
def CR (o : Nat) (V : Prop) (Fr : Int → Int) (s : ST) : Prop := V → ∀ v : Int, 0 ≤ v → v < 6 → s.1 (o + 8) v.toNat = Int32.ofInt (Fr v)
def ffr (Fr : Int → Int) (v : Int) : Int := if 0 ≤ v ∧ v < 6 then Fr v else 0
def FC (f g : Nat) (N : Int) (C : Int → Int) (s : ST) : Prop := s.1 f 1 = Int32.ofInt N ∧ ∀ i : Int, 0 ≤ i → i < N → s.1 g i.toNat = Int32.ofInt (toC (C i))
theorem c_reck_L {o f g : Nat} (ho : o = 36 ∨ o = 46) (hfo : FO f g) {C : Int → Int} {N : Int} (N1 : N ≤ 1600) {U : Int → Prop} {V : Prop} {E Fr : Int → Int} (hE : ∀ i, 0 ≤ i → i ≤ 10 → lb (E i)) (hFr : ∀ v, 0 ≤ v → v < 6 → lb (Fr v)) (hU : ∀ i, 0 ≤ i → i < N → 40 ≤ C i → C i ≤ 50 → U (C i - 40)) (hV : ∀ i, 0 ≤ i → i < N → C i = 60 → V) (K : Nat → ST → Option (Int32 × ST)) : ∀ (n F : Nat) (i : Int) (T T' : List Bool) (st : List Int) (s : ST), FC f g N C s → CE o U E s → CR o V Fr s → 0 ≤ i → (n : Int) = N - i → n < F → CP o st s → vts T st → T.length ≤ 60 → tyL ((upto n i).map C) T = some T' → ∃ s', CF o s s' ∧ CP o (evL E (ffr Fr) ((upto n i).map C) st) s' ∧ vts T' (evL E (ffr Fr) ((upto n i).map C) st) ∧ f_X6_reckon_L7 K F (o + 6) f (Int32.ofInt i) s = K (o + 6) s' := by
  have e1 := fun {α : Type} {x : Option α} => f_kk (α := α) hfo (x := x)
  have e2 := fun {ρ : Nat → Option Nat} => f_r0 (ρ := ρ) hfo
  have e3 := fun {α : Type} {x : Option α} => f_kg (α := α) hfo (x := x)
  have e4 := fun {α : Type} {x : Option α} => f_kr (α := α) hfo (x := x)
  have e5 := f_n hfo
  have hgo : ¬ f = o + 6 ∧ ¬ f = o + 9 ∧ ¬ g = o + 6 ∧ ¬ g = o + 9 := by
    rcases hfo with ⟨rfl, rfl⟩ | ⟨rfl, rfl⟩ | ⟨rfl, rfl⟩ <;> omega
  have hF : ∀ v, lb v → lb (ffr Fr v) := by
    intro v _
    unfold ffr
    split
    · exact hFr v (by omega) (by omega)
    · exact ⟨by omega, by omega⟩
  intro n
  induction n with
  | zero =>
    intro F i T T' st s h hCE hCR h0 hn hF hP hv hl hty
    obtain ⟨F, rfl⟩ : ∃ F', F = F' + 1 := ⟨F - 1, by omega⟩
    have hT : T = T' := by
      have : some T = some T' := hty
      injection this
    have h4 := h.1
    subst hT
    refine ⟨s, CF.rf o s, hP, hv, ?_⟩
    simp (disch := omega) only [f_X6_reckon_L7, h4, e1, n_i8, n_i16, n_0, n_31, n_add, n_sub, n_mul, n_neg, n_div, n_rem, n_le_t, n_le_f, n_lt_t, n_lt_f, n_eq_t, n_eq_f, n_cl, n_gd, n_gdt, n_nz, Int.reduceToNat, Int.reduceAdd, Int.reduceSub, Int.reduceMul, Int.reduceNeg, Int.reduceLT, Int.reduceLE, Int.reduceEq, Int.reduceDiv, Int.reduceMod, Nat.reduceAdd, Nat.reduceMul, ↓reduceIte, u_eq, u_no, u_nk, u_ek, u_2, u_3, j_1, j_3, j_eq, j_no, j_nk, ltd, bnd]
  | succ n ih =>
    intro F i T T' st s h hCE hCR h0 hn hFu hP hv hl hty
    obtain ⟨F, rfl⟩ : ∃ F', F = F' + 1 := ⟨F - 1, by omega⟩
    have h4 := h.1
    have g5 := h.2 i h0 (by omega)
    have hUi := hU i h0 (by omega)
    have hVi := hV i h0 (by omega)
    simp only [upto, List.map_cons] at hty ⊢
    obtain ⟨T1, ht1, ht2⟩ := tyL_some hty
    have hv1 := ev_ty (E := E) (F := ffr Fr) hE hF hv ht1
    have hl1 := ty1_len ht1 hl
    have hlen := vts_len hv
    have next : ∀ s1 : ST, CF o s s1 → CP o (ev1 E (ffr Fr) (C i) st) s1 → ∃ s', CF o s s' ∧ CP o (evL E (ffr Fr) (C i :: (upto n (i + 1)).map C) st) s' ∧ vts T' (evL E (ffr Fr) (C i :: (upto n (i + 1)).map C) st) ∧ f_X6_reckon_L7 K F (o + 6) f (Int32.ofInt (i + 1)) s1 = K (o + 6) s' := by
      intro s1 hF1 hP1
      obtain ⟨s', q1, q2, q2b, q3⟩ := ih F (i + 1) T1 T' _ s1 ⟨(hF1.1 f 1 (by omega) (by omega)).trans h.1, fun j j0 j1 => (hF1.1 g _ (by omega) (by omega)).trans (h.2 j j0 j1)⟩ (fun j hj => (hF1.1 _ _ (by omega) (by omega)).trans (hCE j hj)) (fun hV v v0 v1 => (hF1.1 _ _ (by omega) (by omega)).trans (hCR hV v v0 v1)) (by omega) (by omega) (by omega) hP1 hv1 hl1 ht2
      exact ⟨s', hF1.tr q1, q2, q2b, q3⟩
    generalize C i = w at *
    by_cases w1 : 1000 ≤ w
    · have hw : w ≤ 10999 := by
        unfold ty1 at ht1
        rw [if_pos w1] at ht1
        split at ht1
        · rename_i hh; exact hh.1
        · cases ht1
      have ec : toC w = w - 1000 := by unfold toC; rw [if_pos w1]
      have ee : ev1 E (ffr Fr) w st = (w - 1000) :: st := by unfold ev1; rw [if_pos w1]
      obtain ⟨s1, q1, q2, q3⟩ := c_push ho hP (by omega) (w - 1000)
      rw [ee] at next
      obtain ⟨s', q4, q5, q5b, q6⟩ := next s1 q3 q2
      refine ⟨s', q4, q5, q5b, ?_⟩
      rw [ec] at g5
      simp (disch := omega) only [f_X6_reckon_L7, h4, g5, q1, q6, e1, e2, e3, e4, e5, on1600, g_kk, g_k1, g_n1, g_k2, g_n2, g_k3, g_n3, g_k4, g_n4, g_k5, g_n5, g_k7, g_n7, g_k8, g_n8, g_k9, g_n9, g_k6, g_r3, g_r4, g_r5, g_r6, g_r7, g_r10, g_q0, g_q1, g_q2, p_kk, p_k1, p_n1, p_k2, p_n2, p_k3, p_n3, p_k4, p_n4, p_k5, p_n5, p_k6, p_n6, p_k7, p_n7, p_k8, p_n8, p_k9, p_n9, p_k10, p_n10, p_k11, p_n11, p_k13, p_n13, p_k12, p_r2, p_r4, p_r5, p_r6, p_r7, p_r9, p_r10, p_r11, p_r13, p_r14, p_r15, p_r16, p_h0, n_i8, n_i16, n_0, n_31, n_add, n_sub, n_mul, n_neg, n_div, n_rem, n_le_t, n_le_f, n_lt_t, n_lt_f, n_eq_t, n_eq_f, n_cl, n_gd, n_gdt, n_nz, Int.reduceToNat, Int.reduceAdd, Int.reduceSub, Int.reduceMul, Int.reduceNeg, Int.reduceLT, Int.reduceLE, Int.reduceEq, Int.reduceDiv, Int.reduceMod, Nat.reduceAdd, Nat.reduceMul, ↓reduceIte, u_eq, u_no, u_nk, u_ek, u_2, u_3, j_1, j_3, j_eq, j_no, j_nk, ltd, bnd]
    by_cases w2 : w = 60
    · have hT : ∃ r, T = false :: r := by
        unfold ty1 at ht1
        rw [if_neg w1, if_pos w2] at ht1
        split at ht1
        · exact ⟨_, rfl⟩
        · cases ht1
      obtain ⟨r, rfl⟩ := hT
      match st, hv with
      | v :: q, hv =>
        have ec : toC w = -13 := by unfold toC; rw [if_neg w1, if_pos w2]
        have ee : ev1 E (ffr Fr) w (v :: q) = ffr Fr v :: q := by unfold ev1; rw [if_neg w1, if_pos w2]
        rw [List.length_cons] at hlen
        have hq : q.length < 60 := by simp only [List.length_cons] at hl hlen; omega
        obtain ⟨s0, p1, p2, p3⟩ := c_pop ho hP (by omega)
        obtain ⟨s1, q1, q2, q3⟩ := c_push ho p2 (by omega) (ffr Fr v)
        rw [ee] at next
        obtain ⟨s', q4, q5, q5b, q6⟩ := next s1 (p3.tr q3) q2
        refine ⟨s', q4, q5, q5b, ?_⟩
        rw [ec] at g5
        have hvb := hv.1.1
        obtain ⟨v1, v2⟩ := hvb
        by_cases x1 : v < 0
        · have ex : ffr Fr v = 0 := by unfold ffr; rw [if_neg (by omega)]
          rw [ex] at q1
          simp (disch := omega) only [f_X6_reckon_L7, f_X6_reckon_j118, f_X6_reckon_j119, h4, g5, p1, q1, q6, e1, e2, e3, e4, e5, on1600, g_kk, g_k1, g_n1, g_k2, g_n2, g_k3, g_n3, g_k4, g_n4, g_k5, g_n5, g_k7, g_n7, g_k8, g_n8, g_k9, g_n9, g_k6, g_r3, g_r4, g_r5, g_r6, g_r7, g_r10, g_q0, g_q1, g_q2, p_kk, p_k1, p_n1, p_k2, p_n2, p_k3, p_n3, p_k4, p_n4, p_k5, p_n5, p_k6, p_n6, p_k7, p_n7, p_k8, p_n8, p_k9, p_n9, p_k10, p_n10, p_k11, p_n11, p_k13, p_n13, p_k12, p_r2, p_r4, p_r5, p_r6, p_r7, p_r9, p_r10, p_r11, p_r13, p_r14, p_r15, p_r16, p_h0, n_i8, n_i16, n_0, n_31, n_add, n_sub, n_mul, n_neg, n_div, n_rem, n_le_t, n_le_f, n_lt_t, n_lt_f, n_eq_t, n_eq_f, n_cl, n_gd, n_gdt, n_nz, Int.reduceToNat, Int.reduceAdd, Int.reduceSub, Int.reduceMul, Int.reduceNeg, Int.reduceLT, Int.reduceLE, Int.reduceEq, Int.reduceDiv, Int.reduceMod, Nat.reduceAdd, Nat.reduceMul, ↓reduceIte, u_eq, u_no, u_nk, u_ek, u_2, u_3, j_1, j_3, j_eq, j_no, j_nk, ltd, bnd]
        · by_cases x2 : 6 ≤ v
          · have ex : ffr Fr v = 0 := by unfold ffr; rw [if_neg (by omega)]
            rw [ex] at q1
            simp (disch := omega) only [f_X6_reckon_L7, f_X6_reckon_j118, f_X6_reckon_j119, h4, g5, p1, q1, q6, e1, e2, e3, e4, e5, on1600, g_kk, g_k1, g_n1, g_k2, g_n2, g_k3, g_n3, g_k4, g_n4, g_k5, g_n5, g_k7, g_n7, g_k8, g_n8, g_k9, g_n9, g_k6, g_r3, g_r4, g_r5, g_r6, g_r7, g_r10, g_q0, g_q1, g_q2, p_kk, p_k1, p_n1, p_k2, p_n2, p_k3, p_n3, p_k4, p_n4, p_k5, p_n5, p_k6, p_n6, p_k7, p_n7, p_k8, p_n8, p_k9, p_n9, p_k10, p_n10, p_k11, p_n11, p_k13, p_n13, p_k12, p_r2, p_r4, p_r5, p_r6, p_r7, p_r9, p_r10, p_r11, p_r13, p_r14, p_r15, p_r16, p_h0, n_i8, n_i16, n_0, n_31, n_add, n_sub, n_mul, n_neg, n_div, n_rem, n_le_t, n_le_f, n_lt_t, n_lt_f, n_eq_t, n_eq_f, n_cl, n_gd, n_gdt, n_nz, Int.reduceToNat, Int.reduceAdd, Int.reduceSub, Int.reduceMul, Int.reduceNeg, Int.reduceLT, Int.reduceLE, Int.reduceEq, Int.reduceDiv, Int.reduceMod, Nat.reduceAdd, Nat.reduceMul, ↓reduceIte, u_eq, u_no, u_nk, u_ek, u_2, u_3, j_1, j_3, j_eq, j_no, j_nk, ltd, bnd]
          · have ex : ffr Fr v = Fr v := by unfold ffr; rw [if_pos (by omega)]
            rw [ex] at q1
            have hc := (p3.1 (o + 8) v.toNat (by omega) (by omega)).trans (hCR (hVi w2) v (by omega) (by omega))
            simp (disch := omega) only [f_X6_reckon_L7, f_X6_reckon_j118, f_X6_reckon_j119, h4, g5, p1, q1, q6, hc, e1, e2, e3, e4, e5, on1600, g_kk, g_k1, g_n1, g_k2, g_n2, g_k3, g_n3, g_k4, g_n4, g_k5, g_n5, g_k7, g_n7, g_k8, g_n8, g_k9, g_n9, g_k6, g_r3, g_r4, g_r5, g_r6, g_r7, g_r10, g_q0, g_q1, g_q2, p_kk, p_k1, p_n1, p_k2, p_n2, p_k3, p_n3, p_k4, p_n4, p_k5, p_n5, p_k6, p_n6, p_k7, p_n7, p_k8, p_n8, p_k9, p_n9, p_k10, p_n10, p_k11, p_n11, p_k13, p_n13, p_k12, p_r2, p_r4, p_r5, p_r6, p_r7, p_r9, p_r10, p_r11, p_r13, p_r14, p_r15, p_r16, p_h0, n_i8, n_i16, n_0, n_31, n_add, n_sub, n_mul, n_neg, n_div, n_rem, n_le_t, n_le_f, n_lt_t, n_lt_f, n_eq_t, n_eq_f, n_cl, n_gd, n_gdt, n_nz, Int.reduceToNat, Int.reduceAdd, Int.reduceSub, Int.reduceMul, Int.reduceNeg, Int.reduceLT, Int.reduceLE, Int.reduceEq, Int.reduceDiv, Int.reduceMod, Nat.reduceAdd, Nat.reduceMul, ↓reduceIte, u_eq, u_no, u_nk, u_ek, u_2, u_3, j_1, j_3, j_eq, j_no, j_nk, ltd, bnd]
    by_cases w3 : 40 ≤ w
    · have hw : w ≤ 50 := by
        unfold ty1 at ht1
        rw [if_neg w1, if_neg w2, if_pos w3] at ht1
        split at ht1
        · rename_i hh; exact hh.1
        · cases ht1
      have ec : toC w = -100 - wdP (w - 40) := by unfold toC; rw [if_neg w1, if_neg w2, if_pos w3]
      have ee : ev1 E (ffr Fr) w st = E (w - 40) :: st := by unfold ev1; rw [if_neg w1, if_neg w2, if_pos w3]
      have hwb := wdP_b (w - 40)
      have hfa := c_fact ho hwb.1 (by omega) (hCE (w - 40) (hUi w3 hw))
      obtain ⟨s1, q1, q2, q3⟩ := c_push ho hP (by omega) (E (w - 40))
      rw [ee] at next
      obtain ⟨s', q4, q5, q5b, q6⟩ := next s1 q3 q2
      refine ⟨s', q4, q5, q5b, ?_⟩
      rw [ec] at g5
      have hx : -100 - (-100 - wdP (w - 40)) = wdP (w - 40) := by omega
      simp (disch := omega) only [f_X6_reckon_L7, h4, g5, hx, hfa, q1, q6, e1, e2, e3, e4, e5, on1600, g_kk, g_k1, g_n1, g_k2, g_n2, g_k3, g_n3, g_k4, g_n4, g_k5, g_n5, g_k7, g_n7, g_k8, g_n8, g_k9, g_n9, g_k6, g_r3, g_r4, g_r5, g_r6, g_r7, g_r10, g_q0, g_q1, g_q2, p_kk, p_k1, p_n1, p_k2, p_n2, p_k3, p_n3, p_k4, p_n4, p_k5, p_n5, p_k6, p_n6, p_k7, p_n7, p_k8, p_n8, p_k9, p_n9, p_k10, p_n10, p_k11, p_n11, p_k13, p_n13, p_k12, p_r2, p_r4, p_r5, p_r6, p_r7, p_r9, p_r10, p_r11, p_r13, p_r14, p_r15, p_r16, p_h0, n_i8, n_i16, n_0, n_31, n_add, n_sub, n_mul, n_neg, n_div, n_rem, n_le_t, n_le_f, n_lt_t, n_lt_f, n_eq_t, n_eq_f, n_cl, n_gd, n_gdt, n_nz, Int.reduceToNat, Int.reduceAdd, Int.reduceSub, Int.reduceMul, Int.reduceNeg, Int.reduceLT, Int.reduceLE, Int.reduceEq, Int.reduceDiv, Int.reduceMod, Nat.reduceAdd, Nat.reduceMul, ↓reduceIte, u_eq, u_no, u_nk, u_ek, u_2, u_3, j_1, j_3, j_eq, j_no, j_nk, ltd, bnd]
    by_cases w4 : w = 13
    · have ec : toC w = 1 := by unfold toC; rw [if_neg w1, if_neg w2, if_neg w3, if_pos w4]
      have ee : ev1 E (ffr Fr) w st = 1 :: st := by unfold ev1; rw [if_neg w1, if_neg w2, if_neg w3, if_pos w4]
      obtain ⟨s1, q1, q2, q3⟩ := c_push ho hP (by omega) 1
      rw [ee] at next
      obtain ⟨s', q4, q5, q5b, q6⟩ := next s1 q3 q2
      refine ⟨s', q4, q5, q5b, ?_⟩
      rw [ec] at g5
      simp (disch := omega) only [f_X6_reckon_L7, h4, g5, q1, q6, e1, e2, e3, e4, e5, on1600, g_kk, g_k1, g_n1, g_k2, g_n2, g_k3, g_n3, g_k4, g_n4, g_k5, g_n5, g_k7, g_n7, g_k8, g_n8, g_k9, g_n9, g_k6, g_r3, g_r4, g_r5, g_r6, g_r7, g_r10, g_q0, g_q1, g_q2, p_kk, p_k1, p_n1, p_k2, p_n2, p_k3, p_n3, p_k4, p_n4, p_k5, p_n5, p_k6, p_n6, p_k7, p_n7, p_k8, p_n8, p_k9, p_n9, p_k10, p_n10, p_k11, p_n11, p_k13, p_n13, p_k12, p_r2, p_r4, p_r5, p_r6, p_r7, p_r9, p_r10, p_r11, p_r13, p_r14, p_r15, p_r16, p_h0, n_i8, n_i16, n_0, n_31, n_add, n_sub, n_mul, n_neg, n_div, n_rem, n_le_t, n_le_f, n_lt_t, n_lt_f, n_eq_t, n_eq_f, n_cl, n_gd, n_gdt, n_nz, Int.reduceToNat, Int.reduceAdd, Int.reduceSub, Int.reduceMul, Int.reduceNeg, Int.reduceLT, Int.reduceLE, Int.reduceEq, Int.reduceDiv, Int.reduceMod, Nat.reduceAdd, Nat.reduceMul, ↓reduceIte, u_eq, u_no, u_nk, u_ek, u_2, u_3, j_1, j_3, j_eq, j_no, j_nk, ltd, bnd]
    have ec : toC w = -w := by unfold toC; rw [if_neg w1, if_neg w2, if_neg w3, if_neg w4]
    rw [ec] at g5
    by_cases w5 : w = 12
    · have hT : ∃ r, T = true :: r := by
        unfold ty1 at ht1
        rw [if_neg w1, if_neg w2, if_neg w3, if_neg w4, if_pos w5] at ht1
        split at ht1
        · exact ⟨_, rfl⟩
        · cases ht1
      obtain ⟨r, rfl⟩ := hT
      match st, hv with
      | v :: q, hv =>
        have ee : ev1 E (ffr Fr) w (v :: q) = (1 - v) :: q := by unfold ev1; rw [if_neg w1, if_neg w2, if_neg w3, if_neg w4, if_pos w5]
        rw [List.length_cons] at hlen
        have hq : q.length < 60 := by simp only [List.length_cons] at hl hlen; omega
        obtain ⟨s0, p1, p2, p3⟩ := c_pop ho hP (by omega)
        obtain ⟨s1, q1, q2, q3⟩ := c_push ho p2 (by omega) (1 - v)
        rw [ee] at next
        obtain ⟨s', q4, q5, q5b, q6⟩ := next s1 (p3.tr q3) q2
        refine ⟨s', q4, q5, q5b, ?_⟩
        simp (disch := omega) only [f_X6_reckon_L7, h4, g5, p1, q1, q6, e1, e2, e3, e4, e5, on1600, g_kk, g_k1, g_n1, g_k2, g_n2, g_k3, g_n3, g_k4, g_n4, g_k5, g_n5, g_k7, g_n7, g_k8, g_n8, g_k9, g_n9, g_k6, g_r3, g_r4, g_r5, g_r6, g_r7, g_r10, g_q0, g_q1, g_q2, p_kk, p_k1, p_n1, p_k2, p_n2, p_k3, p_n3, p_k4, p_n4, p_k5, p_n5, p_k6, p_n6, p_k7, p_n7, p_k8, p_n8, p_k9, p_n9, p_k10, p_n10, p_k11, p_n11, p_k13, p_n13, p_k12, p_r2, p_r4, p_r5, p_r6, p_r7, p_r9, p_r10, p_r11, p_r13, p_r14, p_r15, p_r16, p_h0, n_i8, n_i16, n_0, n_31, n_add, n_sub, n_mul, n_neg, n_div, n_rem, n_le_t, n_le_f, n_lt_t, n_lt_f, n_eq_t, n_eq_f, n_cl, n_gd, n_gdt, n_nz, Int.reduceToNat, Int.reduceAdd, Int.reduceSub, Int.reduceMul, Int.reduceNeg, Int.reduceLT, Int.reduceLE, Int.reduceEq, Int.reduceDiv, Int.reduceMod, Nat.reduceAdd, Nat.reduceMul, ↓reduceIte, u_eq, u_no, u_nk, u_ek, u_2, u_3, j_1, j_3, j_eq, j_no, j_nk, ltd, bnd]
    have hT : (1 ≤ w ∧ w ≤ 11) ∧ ∃ t u r, T = t :: u :: r ∧ (10 ≤ w → t = true ∧ u = true) := by
      unfold ty1 at ht1
      rw [if_neg w1, if_neg w2, if_neg w3, if_neg w4, if_neg w5] at ht1
      by_cases y1 : 1 ≤ w ∧ w ≤ 6
      · rw [if_pos y1] at ht1
        split at ht1
        · exact ⟨by omega, _, _, _, rfl, fun h => by omega⟩
        · cases ht1
      rw [if_neg y1] at ht1
      by_cases y2 : 7 ≤ w ∧ w ≤ 9
      · rw [if_pos y2] at ht1
        split at ht1
        · exact ⟨by omega, _, _, _, rfl, fun h => by omega⟩
        · cases ht1
      rw [if_neg y2] at ht1
      by_cases y3 : 10 ≤ w ∧ w ≤ 11
      · rw [if_pos y3] at ht1
        split at ht1
        · exact ⟨by omega, _, _, _, rfl, fun h => ⟨rfl, rfl⟩⟩
        · cases ht1
      rw [if_neg y3] at ht1
      cases ht1
    obtain ⟨⟨y1, y2⟩, t, u, r, rfl, htu⟩ := hT
    match st, hv with
    | b :: a :: q, hv =>
      have ee : ev1 E (ffr Fr) w (b :: a :: q) = jn w a b :: q := by unfold ev1; rw [if_neg w1, if_neg w2, if_neg w3, if_neg w4, if_neg w5]
      rw [List.length_cons, List.length_cons] at hlen
      have hq : q.length < 60 := by simp only [List.length_cons] at hl hlen; omega
      obtain ⟨s0, p1, p2, p3⟩ := c_pop ho hP (by rw [List.length_cons]; omega)
      obtain ⟨s2, p4, p5, p6⟩ := c_pop ho p2 (by omega)
      have hj := c_joined (c := w) hv.2.1.1 hv.1.1 y1 y2 (fun h => ⟨hv.2.1.2 (htu h).2, hv.1.2 (htu h).1⟩) s2
      obtain ⟨s1, q1, q2, q3⟩ := c_push ho p5 (by omega) (jn w a b)
      rw [ee] at next
      obtain ⟨s', q4, q5, q5b, q6⟩ := next s1 ((p3.tr p6).tr q3) q2
      refine ⟨s', q4, q5, q5b, ?_⟩
      simp (disch := omega) only [f_X6_reckon_L7, h4, g5, p1, p4, hj, q1, q6, e1, e2, e3, e4, e5, on1600, g_kk, g_k1, g_n1, g_k2, g_n2, g_k3, g_n3, g_k4, g_n4, g_k5, g_n5, g_k7, g_n7, g_k8, g_n8, g_k9, g_n9, g_k6, g_r3, g_r4, g_r5, g_r6, g_r7, g_r10, g_q0, g_q1, g_q2, p_kk, p_k1, p_n1, p_k2, p_n2, p_k3, p_n3, p_k4, p_n4, p_k5, p_n5, p_k6, p_n6, p_k7, p_n7, p_k8, p_n8, p_k9, p_n9, p_k10, p_n10, p_k11, p_n11, p_k13, p_n13, p_k12, p_r2, p_r4, p_r5, p_r6, p_r7, p_r9, p_r10, p_r11, p_r13, p_r14, p_r15, p_r16, p_h0, n_i8, n_i16, n_0, n_31, n_add, n_sub, n_mul, n_neg, n_div, n_rem, n_le_t, n_le_f, n_lt_t, n_lt_f, n_eq_t, n_eq_f, n_cl, n_gd, n_gdt, n_nz, Int.reduceToNat, Int.reduceAdd, Int.reduceSub, Int.reduceMul, Int.reduceNeg, Int.reduceLT, Int.reduceLE, Int.reduceEq, Int.reduceDiv, Int.reduceMod, Nat.reduceAdd, Nat.reduceMul, ↓reduceIte, u_eq, u_no, u_nk, u_ek, u_2, u_3, j_1, j_3, j_eq, j_no, j_nk, ltd, bnd]
theorem c_reckon {o f g : Nat} (ho : o = 36 ∨ o = 46) (hfo : FO f g) {C : Int → Int} {N : Int} (N0 : 0 ≤ N) (N1 : N ≤ 1600) {U : Int → Prop} {V : Prop} {E Fr : Int → Int} (hE : ∀ i, 0 ≤ i → i ≤ 10 → lb (E i)) (hFr : ∀ v, 0 ≤ v → v < 6 → lb (Fr v)) (hU : ∀ i, 0 ≤ i → i < N → 40 ≤ C i → C i ≤ 50 → U (C i - 40)) (hV : ∀ i, 0 ≤ i → i < N → C i = 60 → V) {s : ST} (hFC : FC f g N C s) (hCE : CE o U E s) (hCR : CR o V Fr s) {t : Bool} (hty : tyL ((upto N.toNat 0).map C) [] = some [t]) : ∃ v s', evL E (ffr Fr) ((upto N.toNat 0).map C) [] = [v] ∧ vt t v ∧ f_X6_reckon (o + 6) f s = some (Int32.ofInt v, s') ∧ CF o s s' := by
  have hgo : ¬ f = o + 6 ∧ ¬ g = o + 6 := by
    rcases hfo with ⟨rfl, rfl⟩ | ⟨rfl, rfl⟩ | ⟨rfl, rfl⟩ <;> omega
  have f1 : CF o s (uI s (o + 6) 3 (Int32.ofInt 0)) := ⟨fun a k x y => by (simp only [ua, ja, u_2, u_3, j_1, j_3]; (repeat' split) <;> first | rfl | (exfalso; omega)), rfl⟩
  obtain ⟨s1, q1, q2, q3, q4⟩ := c_reck_L ho hfo N1 hE hFr hU hV f_X6_reckon_j155 N.toNat fuel 0 [] [t] [] (uI s (o + 6) 3 (Int32.ofInt 0)) ⟨by rw [u_no (by omega)]; exact hFC.1, fun j j0 j1 => by rw [u_no (by omega)]; exact hFC.2 j j0 j1⟩ (fun j hj => by rw [u_no (by omega)]; exact hCE j hj) (fun hV v v0 v1 => by rw [u_no (by omega)]; exact hCR hV v v0 v1) (by omega) (by omega) (by unfold fuel; omega) ⟨u_eq _ _ _ _, trivial⟩ trivial (by simp only [List.length_nil]; omega) hty
  generalize evL E (ffr Fr) ((upto N.toNat 0).map C) [] = r at *
  match r, q3 with
  | [v], q3 =>
    obtain ⟨s2, p1, p2, p3⟩ := c_pop ho q2 (by simp only [List.length_nil]; omega)
    refine ⟨v, s2, rfl, q3.1, ?_, (f1.tr q1).tr p3⟩
    have h1 : f_X6_reckon (o + 6) f s = gd (kk (o + 6) 6) (f_X6_reckon_L7 f_X6_reckon_j155 fuel (o + 6) f (Int32.ofInt 0) (uI s (o + 6) 3 (Int32.ofInt 0))) := rfl
    rw [h1, q4]
    simp (disch := omega) only [f_X6_reckon_j155, p1, g_kk, g_k1, g_n1, g_k2, g_n2, g_k3, g_n3, g_k4, g_n4, g_k5, g_n5, g_k7, g_n7, g_k8, g_n8, g_k9, g_n9, g_k6, g_r3, g_r4, g_r5, g_r6, g_r7, g_r10, g_q0, g_q1, g_q2, p_kk, p_k1, p_n1, p_k2, p_n2, p_k3, p_n3, p_k4, p_n4, p_k5, p_n5, p_k6, p_n6, p_k7, p_n7, p_k8, p_n8, p_k9, p_n9, p_k10, p_n10, p_k11, p_n11, p_k13, p_n13, p_k12, p_r2, p_r4, p_r5, p_r6, p_r7, p_r9, p_r10, p_r11, p_r13, p_r14, p_r15, p_r16, p_h0, n_i8, n_i16, n_0, n_31, n_add, n_sub, n_mul, n_neg, n_div, n_rem, n_le_t, n_le_f, n_lt_t, n_lt_f, n_eq_t, n_eq_f, n_cl, n_gd, n_gdt, n_nz, Int.reduceToNat, Int.reduceAdd, Int.reduceSub, Int.reduceMul, Int.reduceNeg, Int.reduceLT, Int.reduceLE, Int.reduceEq, Int.reduceDiv, Int.reduceMod, Nat.reduceAdd, Nat.reduceMul, ↓reduceIte, u_eq, u_no, u_nk, u_ek, u_2, u_3, j_1, j_3, j_eq, j_no, j_nk, ltd, bnd]
