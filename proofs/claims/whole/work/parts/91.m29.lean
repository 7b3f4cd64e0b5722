/-! L3: an image is taken, of the reference -/
def fldB (B : Brd) (T : Int → Int) (f : Int) : Bool := decide (256 * T (3 + 2 * bM B + 2 * f) + T (3 + 2 * bM B + 2 * f + 1) ≤ 999)
def bytes (T : Int → Int) (n : Int) : List Int := (upto n.toNat 0).map T
def imgOK (B : Brd) (brd : Bool) (T : Int → Int) (n : Int) : Prop := brd = true ∧ n = 3 + 2 * bM B + 2 * bF B + 1 ∧ T (n - 1) = mrk (bytes T (n - 1)) ∧ 256 * T 0 + T 1 ≤ 999 ∧ T 2 ≤ 1 ∧ areM B T 3 = true ∧ (flds B).all (fldB B T) = true
def imgG (B : Brd) (T : Int → Int) : Gam := fun i j => if i = 0 then (if j = 0 then 256 * T 0 + T 1 else T 2) else if i = 1 then unb (T (3 + 2 * j)) else if i = 2 then unb (T (3 + 2 * j + 1)) else 256 * T (3 + 2 * bM B + 2 * j) + T (3 + 2 * bM B + 2 * j + 1)
theorem upto_get : ∀ {n : Nat} {i : Int} {k : Nat}, k < n → (upto n i)[k]? = some (i + k)
  | n + 1, i, 0, _ => by simp [upto]
  | n + 1, i, k + 1, h => by
    simp only [upto, List.getElem?_cons_succ]
    rw [upto_get (by omega)]
    congr 1
    omega
theorem bytes_len (T : Int → Int) (n : Int) : (bytes T n).length = n.toNat := by unfold bytes; rw [List.length_map, upto_len]
theorem bytes_get {T : Int → Int} {n : Int} {k : Nat} (h : (k : Int) < n) : (bytes T n).getD k 0 = T k := by
  unfold bytes
  rw [List.getD_eq_getElem?_getD, List.getElem?_map, upto_get (by omega), Int.zero_add]
  rfl
theorem mrk_b1 : ∀ (L : List Int) (c : Int), 0 ≤ c → c ≤ 250 → 0 ≤ L.foldl (fun c v => (3 * c + v) % 251) c ∧ L.foldl (fun c v => (3 * c + v) % 251) c ≤ 250
  | [], c, h1, h2 => ⟨h1, h2⟩
  | v :: L, c, h1, h2 => by
    rw [List.foldl_cons]
    exact mrk_b1 L _ (by omega) (by omega)
theorem mrk_b (L : List Int) : 0 ≤ mrk L ∧ mrk L ≤ 250 := mrk_b1 L 59 (by omega) (by omega)
theorem m_isImage_L {B : Brd} {G : Gam} {T : Int → Int} {n : Int} {s : ST} (h : MA B G s) (hT : TC T n s) (hn : n ≤ 1600) (hm : 3 + 2 * bM B + 2 * bF B ≤ n) : ∀ (c F : Nat) (i : Int), 0 ≤ i → (c : Int) = bF B - i → c < F → f_X10_isImage_L96 F (Int32.ofInt (3 + 2 * bM B)) (Int32.ofInt i) s = some (bI ((upto c i).all (fldB B T)), s) := by
  have hF6 : bF B ≤ 6 := h.1.1.1.2.2.2.2.2.2.2.2.2
  have hM : bM B ≤ 8 := h.1.1.1.2.2.2.2.2.2.2.1; have hM0 : 0 ≤ bM B := h.1.1.1.2.2.2.2.2.2.1
  have hff := m_fieldMany h
  intro c
  induction c with
  | zero =>
    intro F i h0 hc hF
    obtain ⟨F, rfl⟩ : ∃ F', F = F' + 1 := ⟨F - 1, by omega⟩
    simp (disch := omega) only [f_X10_isImage_L96, hff, upto, List.all_nil, bI_t, n_i8, n_i16, n_0, n_31, n_add, n_sub, n_mul, n_neg, n_div, n_rem, n_le_t, n_le_f, n_lt_t, n_lt_f, n_eq_t, n_eq_f, n_cl, n_gd, n_gdt, n_nz, Int.reduceToNat, Int.reduceAdd, Int.reduceSub, Int.reduceMul, Int.reduceNeg, Int.reduceLT, Int.reduceLE, Int.reduceEq, Int.reduceDiv, Int.reduceMod, Nat.reduceAdd, Nat.reduceMul, ↓reduceIte, u_eq, u_no, u_nk, u_ek, u_2, u_3, j_1, j_3, j_eq, j_no, j_nk, ltd, bnd]
  | succ c ih =>
    intro F i h0 hc hF
    obtain ⟨F, rfl⟩ : ∃ F', F = F' + 1 := ⟨F - 1, by omega⟩
    have t1 := hT (3 + 2 * bM B + 2 * i) (by omega) (by omega)
    have t2 := hT (3 + 2 * bM B + 2 * i + 1) (by omega) (by omega)
    have ih := ih F (i + 1) (by omega) (by omega) (by omega)
    simp only [upto, List.all_cons]
    by_cases e : 256 * T (3 + 2 * bM B + 2 * i) + T (3 + 2 * bM B + 2 * i + 1) ≤ 999
    · have e' : fldB B T i = true := decide_eq_true e
      rw [e', Bool.true_and, ← ih]
      rw [f_X10_isImage_L96]
      simp (disch := omega) only [hff, t1.1, t2.1, n_i8, n_i16, n_0, n_31, n_add, n_sub, n_mul, n_neg, n_div, n_rem, n_le_t, n_le_f, n_lt_t, n_lt_f, n_eq_t, n_eq_f, n_cl, n_gd, n_gdt, n_nz, Int.reduceToNat, Int.reduceAdd, Int.reduceSub, Int.reduceMul, Int.reduceNeg, Int.reduceLT, Int.reduceLE, Int.reduceEq, Int.reduceDiv, Int.reduceMod, Nat.reduceAdd, Nat.reduceMul, ↓reduceIte, u_eq, u_no, u_nk, u_ek, u_2, u_3, j_1, j_3, j_eq, j_no, j_nk, ltd, bnd]
    · have e' : fldB B T i = false := decide_eq_false e
      rw [e', Bool.false_and]
      rw [f_X10_isImage_L96]
      simp (disch := omega) only [hff, t1.1, t2.1, bI_f, n_i8, n_i16, n_0, n_31, n_add, n_sub, n_mul, n_neg, n_div, n_rem, n_le_t, n_le_f, n_lt_t, n_lt_f, n_eq_t, n_eq_f, n_cl, n_gd, n_gdt, n_nz, Int.reduceToNat, Int.reduceAdd, Int.reduceSub, Int.reduceMul, Int.reduceNeg, Int.reduceLT, Int.reduceLE, Int.reduceEq, Int.reduceDiv, Int.reduceMod, Nat.reduceAdd, Nat.reduceMul, ↓reduceIte, u_eq, u_no, u_nk, u_ek, u_2, u_3, j_1, j_3, j_eq, j_no, j_nk, ltd, bnd]
theorem m_isImage {B : Brd} {G : Gam} {brd : Bool} {T : Int → Int} {n : Int} {s : ST} (h : MA B G s) (hb : s.1 65 58 = bI brd) (hT : TC T n s) (n0 : 0 ≤ n) (hn : n ≤ 1600) : (imgOK B brd T n → f_X10_isImage (Int32.ofInt n) s = some (Int32.ofInt 1, s)) ∧ (¬ imgOK B brd T n → f_X10_isImage (Int32.ofInt n) s = some (Int32.ofInt 0, s)) := by
  have hF0 : 0 ≤ bF B := h.1.1.1.2.2.2.2.2.2.2.2.1
  have hF6 : bF B ≤ 6 := h.1.1.1.2.2.2.2.2.2.2.2.2
  have hM : bM B ≤ 8 := h.1.1.1.2.2.2.2.2.2.2.1; have hM0 : 0 ≤ bM B := h.1.1.1.2.2.2.2.2.2.1
  have hff := m_fieldMany h
  have hmm := m_manMany h
  cases brd with
  | false =>
    refine ⟨fun c => (by cases c.1), fun _ => ?_⟩
    simp (disch := omega) only [f_X10_isImage, hmm, hb, bI_f, n_i8, n_i16, n_0, n_31, n_add, n_sub, n_mul, n_neg, n_div, n_rem, n_le_t, n_le_f, n_lt_t, n_lt_f, n_eq_t, n_eq_f, n_cl, n_gd, n_gdt, n_nz, Int.reduceToNat, Int.reduceAdd, Int.reduceSub, Int.reduceMul, Int.reduceNeg, Int.reduceLT, Int.reduceLE, Int.reduceEq, Int.reduceDiv, Int.reduceMod, Nat.reduceAdd, Nat.reduceMul, ↓reduceIte, u_eq, u_no, u_nk, u_ek, u_2, u_3, j_1, j_3, j_eq, j_no, j_nk, ltd, bnd]
  | true =>
    by_cases e1 : n = 3 + 2 * bM B + 2 * bF B + 1
    · have hl : ((bytes T (n - 1)).length : Int) = n - 1 := by rw [bytes_len]; omega
      have hck := m_checked (o := 66) rfl (N := 1600) rfl (by omega) (L := bytes T (n - 1)) (s := s) (fun j hj => by
        rw [bytes_len] at hj
        rw [bytes_get (by omega)]
        exact (hT j (by omega) (by omega)).1) (fun v hv => by
        unfold bytes at hv
        obtain ⟨j, hj, rfl⟩ := List.mem_map.mp hv
        rw [mem_upto] at hj
        exact (hT j hj.1 (by omega)).2) (by rw [bytes_len]; omega)
      rw [hl] at hck
      have hmb := mrk_b (bytes T (n - 1))
      have tn := hT (n - 1) (by omega) (by omega)
      have t0 := hT 0 (by omega) (by omega)
      have t1 := hT 1 (by omega) (by omega)
      have t2 := hT 2 (by omega) (by omega)
      have t0' : s.1 66 0 = Int32.ofInt (T 0) := t0.1
      have t1' : s.1 66 1 = Int32.ofInt (T 1) := t1.1
      have t2' : s.1 66 2 = Int32.ofInt (T 2) := t2.1
      have har := m_areMen h hT hn (fr := 3) (by omega) (by omega)
      have hfl : f_X10_isImage_L96 fuel (Int32.ofInt (3 + 2 * bM B)) (Int32.ofInt 0) s = some (bI ((flds B).all (fldB B T)), s) := m_isImage_L h hT hn (by omega) (bF B).toNat fuel 0 (by omega) (by omega) (by unfold fuel; omega)
      by_cases e2 : T (n - 1) = mrk (bytes T (n - 1))
      · by_cases e3 : 256 * T 0 + T 1 ≤ 999
        · by_cases e4 : T 2 ≤ 1
          · cases e5 : areM B T 3 with
            | false =>
              refine ⟨fun c => ?_, fun _ => ?_⟩
              · have := c.2.2.2.2.2.1; rw [e5] at this; cases this
              · rw [e5] at har
                simp (disch := omega) only [f_X10_isImage, hmm, hff, hb, hck, tn.1, t0', t1', t2', har, bI_t, bI_f, n_i8, n_i16, n_0, n_31, n_add, n_sub, n_mul, n_neg, n_div, n_rem, n_le_t, n_le_f, n_lt_t, n_lt_f, n_eq_t, n_eq_f, n_cl, n_gd, n_gdt, n_nz, Int.reduceToNat, Int.reduceAdd, Int.reduceSub, Int.reduceMul, Int.reduceNeg, Int.reduceLT, Int.reduceLE, Int.reduceEq, Int.reduceDiv, Int.reduceMod, Nat.reduceAdd, Nat.reduceMul, ↓reduceIte, u_eq, u_no, u_nk, u_ek, u_2, u_3, j_1, j_3, j_eq, j_no, j_nk, ltd, bnd]
            | true =>
              rw [e5] at har
              cases e6 : (flds B).all (fldB B T) with
              | false =>
                refine ⟨fun c => ?_, fun _ => ?_⟩
                · have := c.2.2.2.2.2.2; rw [e6] at this; cases this
                · rw [e6] at hfl
                  simp (disch := omega) only [f_X10_isImage, hmm, hff, hb, hck, tn.1, t0', t1', t2', har, hfl, bI_t, bI_f, n_i8, n_i16, n_0, n_31, n_add, n_sub, n_mul, n_neg, n_div, n_rem, n_le_t, n_le_f, n_lt_t, n_lt_f, n_eq_t, n_eq_f, n_cl, n_gd, n_gdt, n_nz, Int.reduceToNat, Int.reduceAdd, Int.reduceSub, Int.reduceMul, Int.reduceNeg, Int.reduceLT, Int.reduceLE, Int.reduceEq, Int.reduceDiv, Int.reduceMod, Nat.reduceAdd, Nat.reduceMul, ↓reduceIte, u_eq, u_no, u_nk, u_ek, u_2, u_3, j_1, j_3, j_eq, j_no, j_nk, ltd, bnd]
              | true =>
                refine ⟨fun _ => ?_, fun c => absurd ⟨rfl, e1, e2, e3, e4, e5, e6⟩ c⟩
                rw [e6] at hfl
                simp (disch := omega) only [f_X10_isImage, hmm, hff, hb, hck, tn.1, t0', t1', t2', har, hfl, bI_t, n_i8, n_i16, n_0, n_31, n_add, n_sub, n_mul, n_neg, n_div, n_rem, n_le_t, n_le_f, n_lt_t, n_lt_f, n_eq_t, n_eq_f, n_cl, n_gd, n_gdt, n_nz, Int.reduceToNat, Int.reduceAdd, Int.reduceSub, Int.reduceMul, Int.reduceNeg, Int.reduceLT, Int.reduceLE, Int.reduceEq, Int.reduceDiv, Int.reduceMod, Nat.reduceAdd, Nat.reduceMul, ↓reduceIte, u_eq, u_no, u_nk, u_ek, u_2, u_3, j_1, j_3, j_eq, j_no, j_nk, ltd, bnd]
          · refine ⟨fun c => absurd c.2.2.2.2.1 e4, fun _ => ?_⟩
            simp (disch := omega) only [f_X10_isImage, hmm, hff, hb, hck, tn.1, t0', t1', t2', bI_t, n_i8, n_i16, n_0, n_31, n_add, n_sub, n_mul, n_neg, n_div, n_rem, n_le_t, n_le_f, n_lt_t, n_lt_f, n_eq_t, n_eq_f, n_cl, n_gd, n_gdt, n_nz, Int.reduceToNat, Int.reduceAdd, Int.reduceSub, Int.reduceMul, Int.reduceNeg, Int.reduceLT, Int.reduceLE, Int.reduceEq, Int.reduceDiv, Int.reduceMod, Nat.reduceAdd, Nat.reduceMul, ↓reduceIte, u_eq, u_no, u_nk, u_ek, u_2, u_3, j_1, j_3, j_eq, j_no, j_nk, ltd, bnd]
        · refine ⟨fun c => absurd c.2.2.2.1 e3, fun _ => ?_⟩
          simp (disch := omega) only [f_X10_isImage, hmm, hff, hb, hck, tn.1, t0', t1', t2', bI_t, n_i8, n_i16, n_0, n_31, n_add, n_sub, n_mul, n_neg, n_div, n_rem, n_le_t, n_le_f, n_lt_t, n_lt_f, n_eq_t, n_eq_f, n_cl, n_gd, n_gdt, n_nz, Int.reduceToNat, Int.reduceAdd, Int.reduceSub, Int.reduceMul, Int.reduceNeg, Int.reduceLT, Int.reduceLE, Int.reduceEq, Int.reduceDiv, Int.reduceMod, Nat.reduceAdd, Nat.reduceMul, ↓reduceIte, u_eq, u_no, u_nk, u_ek, u_2, u_3, j_1, j_3, j_eq, j_no, j_nk, ltd, bnd]
      · refine ⟨fun c => absurd c.2.2.1 e2, fun _ => ?_⟩
        simp (disch := omega) only [f_X10_isImage, hmm, hff, hb, hck, tn.1, bI_t, n_i8, n_i16, n_0, n_31, n_add, n_sub, n_mul, n_neg, n_div, n_rem, n_le_t, n_le_f, n_lt_t, n_lt_f, n_eq_t, n_eq_f, n_cl, n_gd, n_gdt, n_nz, Int.reduceToNat, Int.reduceAdd, Int.reduceSub, Int.reduceMul, Int.reduceNeg, Int.reduceLT, Int.reduceLE, Int.reduceEq, Int.reduceDiv, Int.reduceMod, Nat.reduceAdd, Nat.reduceMul, ↓reduceIte, u_eq, u_no, u_nk, u_ek, u_2, u_3, j_1, j_3, j_eq, j_no, j_nk, ltd, bnd]
    · refine ⟨fun c => absurd c.2.1 e1, fun _ => ?_⟩
      simp (disch := omega) only [f_X10_isImage, hmm, hff, hb, bI_t, n_i8, n_i16, n_0, n_31, n_add, n_sub, n_mul, n_neg, n_div, n_rem, n_le_t, n_le_f, n_lt_t, n_lt_f, n_eq_t, n_eq_f, n_cl, n_gd, n_gdt, n_nz, Int.reduceToNat, Int.reduceAdd, Int.reduceSub, Int.reduceMul, Int.reduceNeg, Int.reduceLT, Int.reduceLE, Int.reduceEq, Int.reduceDiv, Int.reduceMod, Nat.reduceAdd, Nat.reduceMul, ↓reduceIte, u_eq, u_no, u_nk, u_ek, u_2, u_3, j_1, j_3, j_eq, j_no, j_nk, ltd, bnd]
theorem imgG_v {B : Brd} {brd : Bool} {T : Int → Int} {n : Int} (hB : Bv B) (hb : ∀ j : Int, 0 ≤ j → j < n → 0 ≤ T j ∧ T j ≤ 255) (h : imgOK B brd T n) : Gv B (imgG B T) ∧ gd_ (imgG B T) ≤ 999 := by
  obtain ⟨-, h1, -, h3, h4, h5, h6⟩ := h
  have hF0 : 0 ≤ bF B := hB.1.1.2.2.2.2.2.2.2.2.1
  have hM0 : 0 ≤ bM B := hB.1.1.2.2.2.2.2.2.1
  have hWW : bW B ≤ 5 := hB.1.1.2.1
  have hHH : bH B ≤ 5 := hB.1.1.2.2.2.1
  have t0 := hb 0 (by omega) (by omega)
  have t1 := hb 1 (by omega) (by omega)
  have t2 := hb 2 (by omega) (by omega)
  have gd' : gd_ (imgG B T) = 256 * T 0 + T 1 := rfl
  have gs' : gs (imgG B T) = T 2 := rfl
  have gx' : ∀ m, gx (imgG B T) m = unb (T (3 + 2 * m)) := fun _ => rfl
  have gy' : ∀ m, gy (imgG B T) m = unb (T (3 + 2 * m + 1)) := fun _ => rfl
  have gb' : ∀ f, gb (imgG B T) f = 256 * T (3 + 2 * bM B + 2 * f) + T (3 + 2 * bM B + 2 * f + 1) := fun _ => rfl
  refine ⟨⟨by rw [gd', gs']; omega, fun m m0 m1 => ?_, fun m k m0 m1 k0 k1 hx e1 e2 => ?_, fun f f0 f1 => ?_⟩, by rw [gd']; omega⟩
  · rw [gx', gy']
    have a := hb (3 + 2 * m) (by omega) (by omega)
    have b := hb (3 + 2 * m + 1) (by omega) (by omega)
    unfold unb
    rcases areM_at h5 hM0 m0 m1 with ⟨p, q⟩ | ⟨p, q, -⟩
    · rw [if_pos p, if_pos q]; omega
    · rw [if_neg (by omega), if_neg (by omega)]; omega
  · rw [gx', gx'] at e1
    rw [gy', gy'] at e2
    rw [gx'] at hx
    unfold unb at e1 e2 hx
    have am := areM_at h5 hM0 m0 m1
    have ak := areM_at h5 hM0 k0 k1
    have bm1 := hb (3 + 2 * m) (by omega) (by omega)
    have bm2 := hb (3 + 2 * m + 1) (by omega) (by omega)
    have bk1 := hb (3 + 2 * k) (by omega) (by omega)
    have bk2 := hb (3 + 2 * k + 1) (by omega) (by omega)
    rcases am with ⟨p, q⟩ | ⟨p, q, r⟩
    · rw [if_pos p] at hx; omega
    · rcases ak with ⟨p', q'⟩ | ⟨p', q', r'⟩
      · rw [if_neg (by omega), if_pos p'] at e1; omega
      · rw [if_neg (by omega), if_neg (by omega)] at e1
        rw [if_neg (by omega), if_neg (by omega)] at e2
        by_cases c : m < k
        · exact absurd ⟨e1, e2⟩ (r' m m0 c)
        · by_cases c2 : k < m
          · exact absurd ⟨e1.symm, e2.symm⟩ (r k k0 c2)
          · omega
  · rw [gb']
    have a := hb (3 + 2 * bM B + 2 * f) (by omega) (by omega)
    have b := hb (3 + 2 * bM B + 2 * f + 1) (by omega) (by omega)
    rw [List.all_eq_true] at h6
    have := of_decide_eq_true (h6 f (by unfold flds; exact mem_upto.mpr (by omega)))
    omega
theorem m_on_m {B : Brd} {T : Int → Int} {n : Int} (hB : Bv B) (hn : n ≤ 1600) (hm : 3 + 2 * bM B ≤ n) (K : ST → Option (Int32 × ST)) : ∀ (c F : Nat) (i : Int) (s : ST), s.1 101 4 = Int32.ofInt (bM B) → TC T n s → 0 ≤ i → (c : Int) = 2 * bM B - i → c < F → ∃ s', (∀ o k : Nat, ¬ (o = 112 ∧ 2 ≤ k ∧ k < 18) → s'.1 o k = s.1 o k) ∧ s'.2 = s.2 ∧ (∀ j : Int, i ≤ j → j < 2 * bM B → s'.1 112 (2 + j).toNat = Int32.ofInt (unb (T (3 + j)))) ∧ (∀ j : Int, 0 ≤ j → j < i → s'.1 112 (2 + j).toNat = s.1 112 (2 + j).toNat) ∧ f_X10_on_L67 K F (Int32.ofInt i) s = K s' := by
  have hM : bM B ≤ 8 := hB.1.1.2.2.2.2.2.2.2.1
  intro c
  induction c with
  | zero =>
    intro F i s h4 hT h0 hc hF
    obtain ⟨F, rfl⟩ : ∃ F', F = F' + 1 := ⟨F - 1, by omega⟩
    refine ⟨s, fun _ _ _ => rfl, rfl, fun j j1 j2 => by omega, fun _ _ _ => rfl, ?_⟩
    simp (disch := omega) only [f_X10_on_L67, f_X10_manMany, h4, n_i8, n_i16, n_0, n_31, n_add, n_sub, n_mul, n_neg, n_div, n_rem, n_le_t, n_le_f, n_lt_t, n_lt_f, n_eq_t, n_eq_f, n_cl, n_gd, n_gdt, n_nz, Int.reduceToNat, Int.reduceAdd, Int.reduceSub, Int.reduceMul, Int.reduceNeg, Int.reduceLT, Int.reduceLE, Int.reduceEq, Int.reduceDiv, Int.reduceMod, Nat.reduceAdd, Nat.reduceMul, ↓reduceIte, u_eq, u_no, u_nk, u_ek, u_2, u_3, j_1, j_3, j_eq, j_no, j_nk, ltd, bnd]
  | succ c ih =>
    intro F i s h4 hT h0 hc hF
    obtain ⟨F, rfl⟩ : ∃ F', F = F' + 1 := ⟨F - 1, by omega⟩
    have ht := hT (3 + i) (by omega) (by omega)
    obtain ⟨s', q1, q2, q3, q4, q5⟩ := ih F (i + 1) (uI s 112 (2 + i).toNat (Int32.ofInt (unb (T (3 + i))))) (by rw [u_no (by omega)]; exact h4) (fun j j1 j2 => by rw [u_no (by omega)]; exact hT j j1 j2) (by omega) (by omega) (by omega)
    refine ⟨s', fun o k ho => (q1 o k ho).trans (by (simp only [ua, ja, u_2, u_3, j_1, j_3]; (repeat' split) <;> first | rfl | (exfalso; omega))), q2, fun j j1 j2 => ?_, fun j j1 j2 => ?_, ?_⟩
    · by_cases e : j = i
      · subst e; rw [q4 j h0 (by omega), u_eq]
      · exact q3 j (by omega) j2
    · rw [q4 j j1 (by omega), u_nk (by omega)]
    · rw [← q5]
      unfold unb
      by_cases e : T (3 + i) = 255
      · rw [if_pos e]
        simp (disch := omega) only [f_X10_on_L67, f_X10_on_j110, f_X10_manMany, h4, ht.1, n_i8, n_i16, n_0, n_31, n_add, n_sub, n_mul, n_neg, n_div, n_rem, n_le_t, n_le_f, n_lt_t, n_lt_f, n_eq_t, n_eq_f, n_cl, n_gd, n_gdt, n_nz, Int.reduceToNat, Int.reduceAdd, Int.reduceSub, Int.reduceMul, Int.reduceNeg, Int.reduceLT, Int.reduceLE, Int.reduceEq, Int.reduceDiv, Int.reduceMod, Nat.reduceAdd, Nat.reduceMul, ↓reduceIte, u_eq, u_no, u_nk, u_ek, u_2, u_3, j_1, j_3, j_eq, j_no, j_nk, ltd, bnd]
      · rw [if_neg e]
        simp (disch := omega) only [f_X10_on_L67, f_X10_on_j110, f_X10_manMany, h4, ht.1, n_i8, n_i16, n_0, n_31, n_add, n_sub, n_mul, n_neg, n_div, n_rem, n_le_t, n_le_f, n_lt_t, n_lt_f, n_eq_t, n_eq_f, n_cl, n_gd, n_gdt, n_nz, Int.reduceToNat, Int.reduceAdd, Int.reduceSub, Int.reduceMul, Int.reduceNeg, Int.reduceLT, Int.reduceLE, Int.reduceEq, Int.reduceDiv, Int.reduceMod, Nat.reduceAdd, Nat.reduceMul, ↓reduceIte, u_eq, u_no, u_nk, u_ek, u_2, u_3, j_1, j_3, j_eq, j_no, j_nk, ltd, bnd]
theorem m_on_f {B : Brd} {T : Int → Int} {n : Int} (hB : Bv B) (hn : n ≤ 1600) (hm : 3 + 2 * bM B + 2 * bF B ≤ n) (K : ST → Option (Int32 × ST)) : ∀ (c F : Nat) (i : Int) (s : ST), s.1 101 5 = Int32.ofInt (bF B) → TC T n s → 0 ≤ i → (c : Int) = bF B - i → c < F → ∃ s', (∀ o k : Nat, ¬ (o = 112 ∧ 18 ≤ k ∧ k < 24) → s'.1 o k = s.1 o k) ∧ s'.2 = s.2 ∧ (∀ j : Int, i ≤ j → j < bF B → s'.1 112 (18 + j).toNat = Int32.ofInt (256 * T (3 + 2 * bM B + 2 * j) + T (3 + 2 * bM B + 2 * j + 1))) ∧ (∀ j : Int, 0 ≤ j → j < i → s'.1 112 (18 + j).toNat = s.1 112 (18 + j).toNat) ∧ f_X10_on_L128 K F (Int32.ofInt (3 + 2 * bM B)) (Int32.ofInt i) s = K s' := by
  have hF6 : bF B ≤ 6 := hB.1.1.2.2.2.2.2.2.2.2.2
  have hM : bM B ≤ 8 := hB.1.1.2.2.2.2.2.2.2.1
  have hM0 : 0 ≤ bM B := hB.1.1.2.2.2.2.2.2.1
  intro c
  induction c with
  | zero =>
    intro F i s h4 hT h0 hc hF
    obtain ⟨F, rfl⟩ : ∃ F', F = F' + 1 := ⟨F - 1, by omega⟩
    refine ⟨s, fun _ _ _ => rfl, rfl, fun j j1 j2 => by omega, fun _ _ _ => rfl, ?_⟩
    simp (disch := omega) only [f_X10_on_L128, f_X10_fieldMany, h4, n_i8, n_i16, n_0, n_31, n_add, n_sub, n_mul, n_neg, n_div, n_rem, n_le_t, n_le_f, n_lt_t, n_lt_f, n_eq_t, n_eq_f, n_cl, n_gd, n_gdt, n_nz, Int.reduceToNat, Int.reduceAdd, Int.reduceSub, Int.reduceMul, Int.reduceNeg, Int.reduceLT, Int.reduceLE, Int.reduceEq, Int.reduceDiv, Int.reduceMod, Nat.reduceAdd, Nat.reduceMul, ↓reduceIte, u_eq, u_no, u_nk, u_ek, u_2, u_3, j_1, j_3, j_eq, j_no, j_nk, ltd, bnd]
  | succ c ih =>
    intro F i s h4 hT h0 hc hF
    obtain ⟨F, rfl⟩ : ∃ F', F = F' + 1 := ⟨F - 1, by omega⟩
    have t1 := hT (3 + 2 * bM B + 2 * i) (by omega) (by omega)
    have t2 := hT (3 + 2 * bM B + 2 * i + 1) (by omega) (by omega)
    obtain ⟨s', q1, q2, q3, q4, q5⟩ := ih F (i + 1) (uI s 112 (18 + i).toNat (Int32.ofInt (256 * T (3 + 2 * bM B + 2 * i) + T (3 + 2 * bM B + 2 * i + 1)))) (by rw [u_no (by omega)]; exact h4) (fun j j1 j2 => by rw [u_no (by omega)]; exact hT j j1 j2) (by omega) (by omega) (by omega)
    refine ⟨s', fun o k ho => (q1 o k ho).trans (by (simp only [ua, ja, u_2, u_3, j_1, j_3]; (repeat' split) <;> first | rfl | (exfalso; omega))), q2, fun j j1 j2 => ?_, fun j j1 j2 => ?_, ?_⟩
    · by_cases e : j = i
      · subst e; rw [q4 j h0 (by omega), u_eq]
      · exact q3 j (by omega) j2
    · rw [q4 j j1 (by omega), u_nk (by omega)]
    · rw [← q5]
      simp (disch := omega) only [f_X10_on_L128, f_X10_fieldMany, h4, t1.1, t2.1, n_i8, n_i16, n_0, n_31, n_add, n_sub, n_mul, n_neg, n_div, n_rem, n_le_t, n_le_f, n_lt_t, n_lt_f, n_eq_t, n_eq_f, n_cl, n_gd, n_gdt, n_nz, Int.reduceToNat, Int.reduceAdd, Int.reduceSub, Int.reduceMul, Int.reduceNeg, Int.reduceLT, Int.reduceLE, Int.reduceEq, Int.reduceDiv, Int.reduceMod, Nat.reduceAdd, Nat.reduceMul, ↓reduceIte, u_eq, u_no, u_nk, u_ek, u_2, u_3, j_1, j_3, j_eq, j_no, j_nk, ltd, bnd]
theorem m_on {B : Brd} {G : Gam} {brd : Bool} {T : Int → Int} {n : Int} {s : ST} (hR : RS B G brd s) (hT : TP T n s) : (imgOK B brd T n → ∃ s', f_X10_on s = some (Int32.ofInt 1, s') ∧ MA B (imgG B T) s' ∧ RK [] s' ∧ s'.1 65 84 = Int32.ofInt 0 ∧ s'.1 65 1 = Int32.ofInt 0 ∧ (∀ o k : Nat, ¬ o = 112 → ¬ (o = 65 ∧ (k = 1 ∨ k = 84)) → s'.1 o k = s.1 o k) ∧ s'.2 = s.2) ∧ (¬ imgOK B brd T n → f_X10_on s = some (Int32.ofInt 0, rfS (uI s 65 1 (Int32.ofInt 0)) 5)) := by
  obtain ⟨h1, h2, h3⟩ := hT
  have h := hR.1.1
  have hF0 : 0 ≤ bF B := h.1.1.1.2.2.2.2.2.2.2.2.1
  have hF6 : bF B ≤ 6 := h.1.1.1.2.2.2.2.2.2.2.2.2
  have hM : bM B ≤ 8 := h.1.1.1.2.2.2.2.2.2.2.1; have hM0 : 0 ≤ bM B := h.1.1.1.2.2.2.2.2.2.1
  have hA1 : MA B G (uI s 65 1 (Int32.ofInt 0)) := MA_o h (fun o k ho => u_no ho)
  have hT1 : TC T n (uI s 65 1 (Int32.ofInt 0)) := fun j j1 j2 => by rw [u_no (by omega)]; exact h3 j j1 j2
  have hb : (uI s 65 1 (Int32.ofInt 0)).1 65 58 = bI brd := by rw [u_nk (by omega)]; exact hR.2.1
  have hi := m_isImage hA1 hb hT1 h2.1 h2.2
  constructor
  · intro c
    have hi := hi.1 c
    have hv := imgG_v h.1 (fun j j1 j2 => (h3 j j1 j2).2) c
    obtain ⟨-, c1, -, -, -, -, -⟩ := c
    have t0 : (uI s 65 1 (Int32.ofInt 0)).1 66 0 = Int32.ofInt (T 0) := (hT1 0 (by omega) (by omega)).1
    have t1 : (uI s 65 1 (Int32.ofInt 0)).1 66 1 = Int32.ofInt (T 1) := (hT1 1 (by omega) (by omega)).1
    have t2 : (uI s 65 1 (Int32.ofInt 0)).1 66 2 = Int32.ofInt (T 2) := (hT1 2 (by omega) (by omega)).1
    have hbase : ∃ s0, s0 = uI (uI (uI s 65 1 (Int32.ofInt 0)) 112 0 (Int32.ofInt (256 * T 0 + T 1))) 112 1 (Int32.ofInt (T 2)) := ⟨_, rfl⟩
    obtain ⟨s0, hs0⟩ := hbase
    have f0 : ∀ o k : Nat, ¬ (o = 112 ∧ k < 2) → ¬ (o = 65 ∧ k = 1) → s0.1 o k = s.1 o k := fun o k a b => by rw [hs0]; (simp only [ua, ja, u_2, u_3, j_1, j_3]; (repeat' split) <;> first | rfl | (exfalso; omega))
    have c4 : s.1 101 4 = Int32.ofInt (bM B) := h.2.2.1.1.2.1
    have c5 : s.1 101 5 = Int32.ofInt (bF B) := h.2.2.1.1.2.2.1
    have hT0 : TC T n s0 := fun j j1 j2 => by rw [f0 66 _ (by omega) (by omega)]; exact h3 j j1 j2
    obtain ⟨s1, q1, q2, q3, q4, q5⟩ := m_on_m h.1 h2.2 (by omega) f_X10_on_j117 (2 * bM B).toNat fuel 0 s0 ((f0 101 4 (by omega) (by omega)).trans c4) hT0 (by omega) (by omega) (by unfold fuel; omega)
    have d4 : s1.1 101 4 = Int32.ofInt (bM B) := (q1 101 4 (by omega)).trans ((f0 101 4 (by omega) (by omega)).trans c4)
    have hT2 : TC T n s1 := fun j j1 j2 => by rw [q1 66 _ (by omega)]; exact hT0 j j1 j2
    obtain ⟨s2, r1, r2, r3, r4, r5⟩ := m_on_f h.1 h2.2 (by omega) f_X10_on_j178 (bF B).toNat fuel 0 s1 ((q1 101 5 (by omega)).trans ((f0 101 5 (by omega) (by omega)).trans c5)) hT2 (by omega) (by omega) (by unfold fuel; omega)
    have hs3 : ∃ s3, s3 = uI (uI s2 112 24 (Int32.ofInt 0)) 65 84 (Int32.ofInt 0) := ⟨_, rfl⟩
    obtain ⟨s3, hs3⟩ := hs3
    have f3 : ∀ o k : Nat, ¬ (o = 112 ∧ k = 24) → ¬ (o = 65 ∧ k = 84) → s3.1 o k = s2.1 o k := fun o k a b => by rw [hs3]; (simp only [ua, ja, u_2, u_3, j_1, j_3]; (repeat' split) <;> first | rfl | (exfalso; omega))
    have g0 : s3.1 112 0 = Int32.ofInt (256 * T 0 + T 1) := by
      rw [f3 112 0 (by omega) (by omega), r1 112 0 (by omega), q1 112 0 (by omega), hs0, u_nk (by omega), u_eq]
    have g1 : s3.1 112 1 = Int32.ofInt (T 2) := by
      rw [f3 112 1 (by omega) (by omega), r1 112 1 (by omega), q1 112 1 (by omega), hs0, u_eq]
    have g2 : ∀ j : Int, 0 ≤ j → j < 2 * bM B → s3.1 112 (2 + j).toNat = Int32.ofInt (unb (T (3 + j))) := fun j j0 j1 => by
      rw [f3 112 _ (by omega) (by omega), r1 112 _ (by omega)]
      exact q3 j j0 j1
    have fall : ∀ o k : Nat, ¬ o = 112 → ¬ (o = 65 ∧ (k = 1 ∨ k = 84)) → s3.1 o k = s.1 o k := fun o k a b => by
      rw [f3 o k (by omega) (by omega), r1 o k (by omega), q1 o k (by omega), f0 o k (by omega) (by omega)]
    refine ⟨s3, ?_, ⟨h.1, hv.1, MB_fr h.1 h.2.2.1 (fun o k o1 o2 => fall o k (by omega) (by omega)), ⟨g0, g1⟩, fun m m0 m1 => ⟨?_, ?_⟩, fun f f1 f2 => ?_⟩, ⟨?_, fun j i j1 j2 _ _ => ?_⟩, ?_, ?_, fall, ?_⟩
    · have hz1 : f_X10_on_j117 s1 = f_X10_on_j178 s2 := by
        rw [← r5]
        simp (disch := omega) only [f_X10_on_j117, f_X10_manMany, d4, n_i8, n_i16, n_0, n_31, n_add, n_sub, n_mul, n_neg, n_div, n_rem, n_le_t, n_le_f, n_lt_t, n_lt_f, n_eq_t, n_eq_f, n_cl, n_gd, n_gdt, n_nz, Int.reduceToNat, Int.reduceAdd, Int.reduceSub, Int.reduceMul, Int.reduceNeg, Int.reduceLT, Int.reduceLE, Int.reduceEq, Int.reduceDiv, Int.reduceMod, Nat.reduceAdd, Nat.reduceMul, ↓reduceIte, u_eq, u_no, u_nk, u_ek, u_2, u_3, j_1, j_3, j_eq, j_no, j_nk, ltd, bnd]
      have hz2 : f_X10_on_j178 s2 = some (Int32.ofInt 1, s3) := by
        rw [hs3]
        simp (disch := omega) only [f_X10_on_j178, n_i8, n_i16, n_0, n_31, n_add, n_sub, n_mul, n_neg, n_div, n_rem, n_le_t, n_le_f, n_lt_t, n_lt_f, n_eq_t, n_eq_f, n_cl, n_gd, n_gdt, n_nz, Int.reduceToNat, Int.reduceAdd, Int.reduceSub, Int.reduceMul, Int.reduceNeg, Int.reduceLT, Int.reduceLE, Int.reduceEq, Int.reduceDiv, Int.reduceMod, Nat.reduceAdd, Nat.reduceMul, ↓reduceIte, ltd, bnd]
      have hz3 : f_X10_on_L67 f_X10_on_j117 fuel (Int32.ofInt 0) s0 = some (Int32.ofInt 1, s3) := by rw [q5, hz1, hz2]
      rw [hs0] at hz3
      simp (disch := omega) only [f_X10_on, h1, hi, t0, t1, t2, hz3, u_no, n_i8, n_i16, n_0, n_31, n_add, n_sub, n_mul, n_neg, n_div, n_rem, n_le_t, n_le_f, n_lt_t, n_lt_f, n_eq_t, n_eq_f, n_cl, n_gd, n_gdt, n_nz, Int.reduceToNat, Int.reduceAdd, Int.reduceSub, Int.reduceMul, Int.reduceNeg, Int.reduceLT, Int.reduceLE, Int.reduceEq, Int.reduceDiv, Int.reduceMod, Nat.reduceAdd, Nat.reduceMul, ↓reduceIte, ltd, bnd, Int.toNat_zero, Int.toNat_one]
    · have := g2 (2 * m) (by omega) (by omega)
      exact this
    · have := g2 (2 * m + 1) (by omega) (by omega)
      rw [show 2 + 2 * m + 1 = 2 + (2 * m + 1) by omega, this]
      show Int32.ofInt (unb (T (3 + (2 * m + 1)))) = Int32.ofInt (unb (T (3 + 2 * m + 1)))
      rw [show 3 + (2 * m + 1) = 3 + 2 * m + 1 by omega]
    · rw [f3 112 _ (by omega) (by omega)]
      exact r3 f f1 f2
    · rw [hs3, u_no (by omega), u_eq]; rfl
    · have : kn [] = 0 := rfl
      omega
    · rw [hs3, u_eq]
    · rw [f3 65 1 (by omega) (by omega), r1 65 1 (by omega), q1 65 1 (by omega), hs0, u_no (by omega), u_no (by omega), u_eq]
    · rw [hs3]
      show s2.2 = s.2
      rw [r2, q2, hs0]
      rfl
  · intro c
    have hi := hi.2 c
    unfold rfS
    simp (disch := omega) only [f_X10_on, h1, hi, n_i8, n_i16, n_0, n_31, n_add, n_sub, n_mul, n_neg, n_div, n_rem, n_le_t, n_le_f, n_lt_t, n_lt_f, n_eq_t, n_eq_f, n_cl, n_gd, n_gdt, n_nz, Int.reduceToNat, Int.reduceAdd, Int.reduceSub, Int.reduceMul, Int.reduceNeg, Int.reduceLT, Int.reduceLE, Int.reduceEq, Int.reduceDiv, Int.reduceMod, Nat.reduceAdd, Nat.reduceMul, ↓reduceIte, u_eq, u_no, u_nk, u_ek, u_2, u_3, j_1, j_3, j_eq, j_no, j_nk, ltd, bnd]
