/-! L3: what the class takes off the tape -/
theorem c_fail {k p : Int} {s : ST} (h : s.1 3 5 = Int32.ofInt 0) (k1 : 1 ≤ k) (k5 : k ≤ 5) : ∃ s', f_X5_fail (Int32.ofInt k) (Int32.ofInt p) s = some s' ∧ CD k p s' ∧ CFr s s' := by
  refine ⟨uI (uI (uI s 3 5 (Int32.ofInt k)) 3 6 (Int32.ofInt p)) 3 3 (Int32.ofInt 4), ?_, ⟨?_, ?_, u_eq _ _ _ _, k1, k5⟩, ⟨fun o k hk => by (simp only [ua, ja, u_2, u_3, j_1, j_3]; (repeat' split) <;> first | rfl | (exfalso; omega)), rfl⟩⟩
  · simp (disch := omega) only [f_X5_fail, h, n_i8, n_i16, n_0, n_31, n_add, n_sub, n_mul, n_neg, n_div, n_rem, n_le_t, n_le_f, n_lt_t, n_lt_f, n_eq_t, n_eq_f, n_cl, n_gd, n_gdt, n_nz, Int.reduceToNat, Int.reduceAdd, Int.reduceSub, Int.reduceMul, Int.reduceNeg, Int.reduceLT, Int.reduceLE, Int.reduceEq, Int.reduceDiv, Int.reduceMod, Nat.reduceAdd, Nat.reduceMul, ↓reduceIte, u_eq, u_no, u_nk, u_ek, u_2, u_3, j_1, j_3, j_eq, j_no, j_nk, ltd, bnd]
  · rw [u_nk (by omega), u_nk (by omega), u_eq]
  · rw [u_nk (by omega), u_eq]
theorem c_failD {k p : Int} {s : ST} (h : CD k p s) (a b : Int32) : f_X5_fail a b s = some s := by
  obtain ⟨h1, h2, h3, h4, h5⟩ := h
  simp (disch := omega) only [f_X5_fail, h1, n_i8, n_i16, n_0, n_31, n_add, n_sub, n_mul, n_neg, n_div, n_rem, n_le_t, n_le_f, n_lt_t, n_lt_f, n_eq_t, n_eq_f, n_cl, n_gd, n_gdt, n_nz, Int.reduceToNat, Int.reduceAdd, Int.reduceSub, Int.reduceMul, Int.reduceNeg, Int.reduceLT, Int.reduceLE, Int.reduceEq, Int.reduceDiv, Int.reduceMod, Nat.reduceAdd, Nat.reduceMul, ↓reduceIte, u_eq, u_no, u_nk, u_ek, u_2, u_3, j_1, j_3, j_eq, j_no, j_nk, ltd, bnd]
theorem c_ff {T : Int → Int} {n : Int} {c : Cur} {s : ST} (h : CC T n c s) : ∃ s', f_X5_failForm s = some s' ∧ CD 1 (frm T n c) s' ∧ CFr s s' := by
  obtain ⟨s', q1, q2, q3⟩ := c_fail (k := 1) (p := frm T n c) h.2.2.2.2.2.2.1 (by omega) (by omega)
  refine ⟨s', ?_, q2, q3⟩
  unfold f_X5_failForm
  rw [h.2.2.1, q1, bnd]
theorem c_ffD {k p : Int} {s : ST} (h : CD k p s) : f_X5_failForm s = some s := by
  unfold f_X5_failForm
  rw [c_failD h, bnd]
theorem c_isW {T : Int → Int} {n : Int} {c : Cur} {s : ST} (h : CC T n c s) {k : Nat} (hk : k < 39) : f_X5_isWord (Int32.ofInt (k : Int)) s = some (bI (isWL T n c (WDl k)), s) := by
  obtain ⟨h1, h2, h3, h4, h5, h6, h7, h8⟩ := h
  have hsb := srt_b T n c
  have hwb := wix_b T n c
  have he := wix_eq (T := T) (n := n) (c := c) hk
  unfold isWL
  by_cases e1 : srt T n c = 1
  · have h6 := h6 e1
    rw [srt_1.mp e1, Bool.true_and]
    by_cases e2 : wix T n c = (k : Int)
    · rw [decide_eq_true (he.mp e2)]
      simp (disch := omega) only [f_X5_isWord, h5, h6, bI_t, n_i8, n_i16, n_0, n_31, n_add, n_sub, n_mul, n_neg, n_div, n_rem, n_le_t, n_le_f, n_lt_t, n_lt_f, n_eq_t, n_eq_f, n_cl, n_gd, n_gdt, n_nz, Int.reduceToNat, Int.reduceAdd, Int.reduceSub, Int.reduceMul, Int.reduceNeg, Int.reduceLT, Int.reduceLE, Int.reduceEq, Int.reduceDiv, Int.reduceMod, Nat.reduceAdd, Nat.reduceMul, ↓reduceIte, u_eq, u_no, u_nk, u_ek, u_2, u_3, j_1, j_3, j_eq, j_no, j_nk, ltd, bnd]
    · rw [decide_eq_false (fun x => e2 (he.mpr x))]
      simp (disch := omega) only [f_X5_isWord, h5, h6, bI_f, n_i8, n_i16, n_0, n_31, n_add, n_sub, n_mul, n_neg, n_div, n_rem, n_le_t, n_le_f, n_lt_t, n_lt_f, n_eq_t, n_eq_f, n_cl, n_gd, n_gdt, n_nz, Int.reduceToNat, Int.reduceAdd, Int.reduceSub, Int.reduceMul, Int.reduceNeg, Int.reduceLT, Int.reduceLE, Int.reduceEq, Int.reduceDiv, Int.reduceMod, Nat.reduceAdd, Nat.reduceMul, ↓reduceIte, u_eq, u_no, u_nk, u_ek, u_2, u_3, j_1, j_3, j_eq, j_no, j_nk, ltd, bnd]
  · have e3 : isW T n c = false := by
      cases x : isW T n c with
      | false => rfl
      | true => exact absurd (srt_1.mpr x) e1
    rw [e3, Bool.false_and]
    simp (disch := omega) only [f_X5_isWord, h5, bI_f, n_i8, n_i16, n_0, n_31, n_add, n_sub, n_mul, n_neg, n_div, n_rem, n_le_t, n_le_f, n_lt_t, n_lt_f, n_eq_t, n_eq_f, n_cl, n_gd, n_gdt, n_nz, Int.reduceToNat, Int.reduceAdd, Int.reduceSub, Int.reduceMul, Int.reduceNeg, Int.reduceLT, Int.reduceLE, Int.reduceEq, Int.reduceDiv, Int.reduceMod, Nat.reduceAdd, Nat.reduceMul, ↓reduceIte, u_eq, u_no, u_nk, u_ek, u_2, u_3, j_1, j_3, j_eq, j_no, j_nk, ltd, bnd]
theorem c_isWD {k p : Int} {s : ST} (h : CD k p s) (a : Int32) : f_X5_isWord a s = some (Int32.ofInt 0, s) := by
  obtain ⟨h1, h2, h3, h4, h5⟩ := h
  simp (disch := omega) only [f_X5_isWord, h3, n_i8, n_i16, n_0, n_31, n_add, n_sub, n_mul, n_neg, n_div, n_rem, n_le_t, n_le_f, n_lt_t, n_lt_f, n_eq_t, n_eq_f, n_cl, n_gd, n_gdt, n_nz, Int.reduceToNat, Int.reduceAdd, Int.reduceSub, Int.reduceMul, Int.reduceNeg, Int.reduceLT, Int.reduceLE, Int.reduceEq, Int.reduceDiv, Int.reduceMod, Nat.reduceAdd, Nat.reduceMul, ↓reduceIte, u_eq, u_no, u_nk, u_ek, u_2, u_3, j_1, j_3, j_eq, j_no, j_nk, ltd, bnd]
theorem srt_3 {T : Int → Int} {n : Int} {c : Cur} {ch : Int} (hs : sv ch = 3) (h : isSg T n c ch = true) : srt T n c = 3 := by
  unfold isSg at h
  rw [Bool.and_eq_true, decide_eq_true_iff, decide_eq_true_iff] at h
  unfold srt
  rw [if_pos h.1, h.2, hs, if_neg (by omega)]
theorem c_isS {T : Int → Int} {n : Int} {c : Cur} {s : ST} (h : CC T n c s) {ch : Int} (c0 : 0 ≤ ch) (c1 : ch ≤ 255) (hs : sv ch = 3) : f_X5_isSign (Int32.ofInt ch) s = some (bI (isSg T n c ch), s) := by
  obtain ⟨h1, h2, h3, h4, h5, h6, h7, h8⟩ := h
  have hsb := srt_b T n c
  have hf := frm_b (T := T) h2.1 h2.2
  by_cases e1 : srt T n c = 3
  · have e2 : frm T n c < n := by
      by_cases x : frm T n c < n
      · exact x
      · have := srt_0.mpr x; omega
    have hb := c_byteAt h1 (k := frm T n c) (by omega) e2
    obtain ⟨-, t0, t1⟩ := h1.2.2 (frm T n c) (by omega) e2
    rw [e1] at h5
    unfold isSg
    rw [decide_eq_true e2, Bool.true_and]
    by_cases e3 : T (frm T n c) = ch
    · rw [decide_eq_true e3]
      simp (disch := omega) only [f_X5_isSign, h3, h5, hb, bI_t, n_i8, n_i16, n_0, n_31, n_add, n_sub, n_mul, n_neg, n_div, n_rem, n_le_t, n_le_f, n_lt_t, n_lt_f, n_eq_t, n_eq_f, n_cl, n_gd, n_gdt, n_nz, Int.reduceToNat, Int.reduceAdd, Int.reduceSub, Int.reduceMul, Int.reduceNeg, Int.reduceLT, Int.reduceLE, Int.reduceEq, Int.reduceDiv, Int.reduceMod, Nat.reduceAdd, Nat.reduceMul, ↓reduceIte, u_eq, u_no, u_nk, u_ek, u_2, u_3, j_1, j_3, j_eq, j_no, j_nk, ltd, bnd]
    · rw [decide_eq_false e3]
      simp (disch := omega) only [f_X5_isSign, h3, h5, hb, bI_f, n_i8, n_i16, n_0, n_31, n_add, n_sub, n_mul, n_neg, n_div, n_rem, n_le_t, n_le_f, n_lt_t, n_lt_f, n_eq_t, n_eq_f, n_cl, n_gd, n_gdt, n_nz, Int.reduceToNat, Int.reduceAdd, Int.reduceSub, Int.reduceMul, Int.reduceNeg, Int.reduceLT, Int.reduceLE, Int.reduceEq, Int.reduceDiv, Int.reduceMod, Nat.reduceAdd, Nat.reduceMul, ↓reduceIte, u_eq, u_no, u_nk, u_ek, u_2, u_3, j_1, j_3, j_eq, j_no, j_nk, ltd, bnd]
  · have e2 : isSg T n c ch = false := by
      cases x : isSg T n c ch with
      | false => rfl
      | true => exact absurd (srt_3 hs x) e1
    rw [e2]
    simp (disch := omega) only [f_X5_isSign, h5, bI_f, n_i8, n_i16, n_0, n_31, n_add, n_sub, n_mul, n_neg, n_div, n_rem, n_le_t, n_le_f, n_lt_t, n_lt_f, n_eq_t, n_eq_f, n_cl, n_gd, n_gdt, n_nz, Int.reduceToNat, Int.reduceAdd, Int.reduceSub, Int.reduceMul, Int.reduceNeg, Int.reduceLT, Int.reduceLE, Int.reduceEq, Int.reduceDiv, Int.reduceMod, Nat.reduceAdd, Nat.reduceMul, ↓reduceIte, u_eq, u_no, u_nk, u_ek, u_2, u_3, j_1, j_3, j_eq, j_no, j_nk, ltd, bnd]
theorem c_isSD {k p : Int} {s : ST} (h : CD k p s) (a : Int32) : f_X5_isSign a s = some (Int32.ofInt 0, s) := by
  obtain ⟨h1, h2, h3, h4, h5⟩ := h
  simp (disch := omega) only [f_X5_isSign, h3, n_i8, n_i16, n_0, n_31, n_add, n_sub, n_mul, n_neg, n_div, n_rem, n_le_t, n_le_f, n_lt_t, n_lt_f, n_eq_t, n_eq_f, n_cl, n_gd, n_gdt, n_nz, Int.reduceToNat, Int.reduceAdd, Int.reduceSub, Int.reduceMul, Int.reduceNeg, Int.reduceLT, Int.reduceLE, Int.reduceEq, Int.reduceDiv, Int.reduceMod, Nat.reduceAdd, Nat.reduceMul, ↓reduceIte, u_eq, u_no, u_nk, u_ek, u_2, u_3, j_1, j_3, j_eq, j_no, j_nk, ltd, bnd]
theorem nx_W {T : Int → Int} {n : Int} {c : Cur} (h : isW T n c = true) : nx T n c = nxW T n c := by
  have e1 := srt_1.mpr h
  unfold nx nxW
  rw [decide_eq_true (Or.inl e1)]
  unfold isW at h
  rw [Bool.and_eq_true, Bool.and_eq_true, decide_eq_true_iff] at h
  unfold beh
  rw [if_pos h.1.1, if_pos ((sv_i1 _).mpr h.1.2)]
theorem nx_N {T : Int → Int} {n : Int} {c : Cur} (h : nmB T n c = true) : nx T n c = nxN T n c := by
  have e1 := srt_2.mpr h
  unfold nx nxN nmE
  rw [decide_eq_true (Or.inr e1)]
  unfold nmB at h
  rw [Bool.and_eq_true, Bool.and_eq_true, decide_eq_true_iff] at h
  have e2 := (sv_i2 _).mpr h.1.2
  unfold beh
  rw [if_pos h.1.1, if_neg (by omega), if_pos e2]
theorem nx_S {T : Int → Int} {n : Int} {c : Cur} {ch : Int} (hs : sv ch = 3) (h : isSg T n c ch = true) : nx T n c = nxS T n c := by
  have e1 := srt_3 hs h
  unfold nx nxS
  rw [decide_eq_false (by omega)]
  unfold isSg at h
  rw [Bool.and_eq_true, decide_eq_true_iff, decide_eq_true_iff] at h
  unfold beh
  rw [if_pos h.1, h.2, hs, if_neg (by omega), if_neg (by omega)]
theorem isWL_W {T : Int → Int} {n : Int} {c : Cur} {l : List Int} (h : isWL T n c l = true) : isW T n c = true := by
  unfold isWL at h
  rw [Bool.and_eq_true] at h
  exact h.1
theorem c_tW {T : Int → Int} {n : Int} {c : Cur} {s : ST} (h : CC T n c s) {k : Nat} (hk : k < 39) : ∃ s', f_X5_takeWord (Int32.ofInt (k : Int)) s = some s' ∧ (isWL T n c (WDl k) = true → CC T n (nxW T n c) s') ∧ (isWL T n c (WDl k) = false → CD 1 (frm T n c) s') ∧ CFr s s' := by
  have hw := c_isW h hk
  cases e : isWL T n c (WDl k) with
  | true =>
    rw [e] at hw
    obtain ⟨s', q1, q2, q3⟩ := c_step h
    rw [nx_W (isWL_W e)] at q2
    refine ⟨s', ?_, fun _ => q2, fun x => (by cases x), q3⟩
    simp (disch := omega) only [f_X5_takeWord, hw, q1, bI_t, n_i8, n_i16, n_0, n_31, n_add, n_sub, n_mul, n_neg, n_div, n_rem, n_le_t, n_le_f, n_lt_t, n_lt_f, n_eq_t, n_eq_f, n_cl, n_gd, n_gdt, n_nz, Int.reduceToNat, Int.reduceAdd, Int.reduceSub, Int.reduceMul, Int.reduceNeg, Int.reduceLT, Int.reduceLE, Int.reduceEq, Int.reduceDiv, Int.reduceMod, Nat.reduceAdd, Nat.reduceMul, ↓reduceIte, u_eq, u_no, u_nk, u_ek, u_2, u_3, j_1, j_3, j_eq, j_no, j_nk, ltd, bnd]
  | false =>
    rw [e] at hw
    obtain ⟨s', q1, q2, q3⟩ := c_ff h
    refine ⟨s', ?_, fun x => (by cases x), fun _ => q2, q3⟩
    simp (disch := omega) only [f_X5_takeWord, hw, q1, bI_f, n_i8, n_i16, n_0, n_31, n_add, n_sub, n_mul, n_neg, n_div, n_rem, n_le_t, n_le_f, n_lt_t, n_lt_f, n_eq_t, n_eq_f, n_cl, n_gd, n_gdt, n_nz, Int.reduceToNat, Int.reduceAdd, Int.reduceSub, Int.reduceMul, Int.reduceNeg, Int.reduceLT, Int.reduceLE, Int.reduceEq, Int.reduceDiv, Int.reduceMod, Nat.reduceAdd, Nat.reduceMul, ↓reduceIte, u_eq, u_no, u_nk, u_ek, u_2, u_3, j_1, j_3, j_eq, j_no, j_nk, ltd, bnd]
theorem c_tWD {k p : Int} {s : ST} (h : CD k p s) (a : Int32) : f_X5_takeWord a s = some s := by
  have h1 := c_isWD h a
  have h2 := c_ffD h
  simp (disch := omega) only [f_X5_takeWord, h1, h2, n_i8, n_i16, n_0, n_31, n_add, n_sub, n_mul, n_neg, n_div, n_rem, n_le_t, n_le_f, n_lt_t, n_lt_f, n_eq_t, n_eq_f, n_cl, n_gd, n_gdt, n_nz, Int.reduceToNat, Int.reduceAdd, Int.reduceSub, Int.reduceMul, Int.reduceNeg, Int.reduceLT, Int.reduceLE, Int.reduceEq, Int.reduceDiv, Int.reduceMod, Nat.reduceAdd, Nat.reduceMul, ↓reduceIte, u_eq, u_no, u_nk, u_ek, u_2, u_3, j_1, j_3, j_eq, j_no, j_nk, ltd, bnd]
theorem c_tS {T : Int → Int} {n : Int} {c : Cur} {s : ST} (h : CC T n c s) {ch : Int} (c0 : 0 ≤ ch) (c1 : ch ≤ 255) (hs : sv ch = 3) : ∃ s', f_X5_takeSign (Int32.ofInt ch) s = some s' ∧ (isSg T n c ch = true → CC T n (nxS T n c) s') ∧ (isSg T n c ch = false → CD 1 (frm T n c) s') ∧ CFr s s' := by
  have hw := c_isS h c0 c1 hs
  cases e : isSg T n c ch with
  | true =>
    rw [e] at hw
    obtain ⟨s', q1, q2, q3⟩ := c_step h
    rw [nx_S hs e] at q2
    refine ⟨s', ?_, fun _ => q2, fun x => (by cases x), q3⟩
    simp (disch := omega) only [f_X5_takeSign, hw, q1, bI_t, n_i8, n_i16, n_0, n_31, n_add, n_sub, n_mul, n_neg, n_div, n_rem, n_le_t, n_le_f, n_lt_t, n_lt_f, n_eq_t, n_eq_f, n_cl, n_gd, n_gdt, n_nz, Int.reduceToNat, Int.reduceAdd, Int.reduceSub, Int.reduceMul, Int.reduceNeg, Int.reduceLT, Int.reduceLE, Int.reduceEq, Int.reduceDiv, Int.reduceMod, Nat.reduceAdd, Nat.reduceMul, ↓reduceIte, u_eq, u_no, u_nk, u_ek, u_2, u_3, j_1, j_3, j_eq, j_no, j_nk, ltd, bnd]
  | false =>
    rw [e] at hw
    obtain ⟨s', q1, q2, q3⟩ := c_ff h
    refine ⟨s', ?_, fun x => (by cases x), fun _ => q2, q3⟩
    simp (disch := omega) only [f_X5_takeSign, hw, q1, bI_f, n_i8, n_i16, n_0, n_31, n_add, n_sub, n_mul, n_neg, n_div, n_rem, n_le_t, n_le_f, n_lt_t, n_lt_f, n_eq_t, n_eq_f, n_cl, n_gd, n_gdt, n_nz, Int.reduceToNat, Int.reduceAdd, Int.reduceSub, Int.reduceMul, Int.reduceNeg, Int.reduceLT, Int.reduceLE, Int.reduceEq, Int.reduceDiv, Int.reduceMod, Nat.reduceAdd, Nat.reduceMul, ↓reduceIte, u_eq, u_no, u_nk, u_ek, u_2, u_3, j_1, j_3, j_eq, j_no, j_nk, ltd, bnd]
theorem c_tSD {k p : Int} {s : ST} (h : CD k p s) (a : Int32) : f_X5_takeSign a s = some s := by
  have h1 := c_isSD h a
  have h2 := c_ffD h
  simp (disch := omega) only [f_X5_takeSign, h1, h2, n_i8, n_i16, n_0, n_31, n_add, n_sub, n_mul, n_neg, n_div, n_rem, n_le_t, n_le_f, n_lt_t, n_lt_f, n_eq_t, n_eq_f, n_cl, n_gd, n_gdt, n_nz, Int.reduceToNat, Int.reduceAdd, Int.reduceSub, Int.reduceMul, Int.reduceNeg, Int.reduceLT, Int.reduceLE, Int.reduceEq, Int.reduceDiv, Int.reduceMod, Nat.reduceAdd, Nat.reduceMul, ↓reduceIte, u_eq, u_no, u_nk, u_ek, u_2, u_3, j_1, j_3, j_eq, j_no, j_nk, ltd, bnd]
theorem c_tn_L {T : Int → Int} {n e : Int} {s : ST} (h : CT T n s) (he : s.1 3 2 = Int32.ofInt e) (e0 : 0 ≤ e) (en : e ≤ n) (K : Int32 → Int32 → Int32 → ST → Option (Int32 × ST)) (x1 x2 : Int32) : ∀ (m F : Nat) (a v : Int), 0 ≤ a → a ≤ n → (e - a).toNat = m → m < F → f_X5_takeNumber_L48 K F x1 x2 (Int32.ofInt v) (Int32.ofInt a) s = K x1 x2 (Int32.ofInt (dv T (e - a).toNat a v)) s := by
  have hnb := h.2.1
  intro m
  induction m with
  | zero =>
    intro F a v a0 an hm hF
    obtain ⟨F, rfl⟩ : ∃ F', F = F' + 1 := ⟨F - 1, by omega⟩
    rw [hm]
    simp (disch := omega) only [f_X5_takeNumber_L48, he, dv, n_i8, n_i16, n_0, n_31, n_add, n_sub, n_mul, n_neg, n_div, n_rem, n_le_t, n_le_f, n_lt_t, n_lt_f, n_eq_t, n_eq_f, n_cl, n_gd, n_gdt, n_nz, Int.reduceToNat, Int.reduceAdd, Int.reduceSub, Int.reduceMul, Int.reduceNeg, Int.reduceLT, Int.reduceLE, Int.reduceEq, Int.reduceDiv, Int.reduceMod, Nat.reduceAdd, Nat.reduceMul, ↓reduceIte, u_eq, u_no, u_nk, u_ek, u_2, u_3, j_1, j_3, j_eq, j_no, j_nk, ltd, bnd]
  | succ m ih =>
    intro F a v a0 an hm hF
    obtain ⟨F, rfl⟩ : ∃ F', F = F' + 1 := ⟨F - 1, by omega⟩
    have hb := c_byteAt h a0 (by omega)
    have ih := ih F (a + 1) (10 * v + T a - 48) (by omega) (by omega) (by omega) (by omega)
    rw [show (e - a).toNat = (e - (a + 1)).toNat + 1 by omega]
    refine Eq.trans ?_ ih
    rw [f_X5_takeNumber_L48]
    simp (disch := omega) only [he, hb, n_i8, n_i16, n_0, n_31, n_add, n_sub, n_mul, n_neg, n_div, n_rem, n_le_t, n_le_f, n_lt_t, n_lt_f, n_eq_t, n_eq_f, n_cl, n_gd, n_gdt, n_nz, Int.reduceToNat, Int.reduceAdd, Int.reduceSub, Int.reduceMul, Int.reduceNeg, Int.reduceLT, Int.reduceLE, Int.reduceEq, Int.reduceDiv, Int.reduceMod, Nat.reduceAdd, Nat.reduceMul, ↓reduceIte, u_eq, u_no, u_nk, u_ek, u_2, u_3, j_1, j_3, j_eq, j_no, j_nk, ltd, bnd]
theorem c_tN {T : Int → Int} {n : Int} {c : Cur} {s : ST} (h : CC T n c s) {lo hi : Int} (l0 : -1000000 ≤ lo) (l1 : lo ≤ 1000000) (h0 : -1000000 ≤ hi) (h1 : hi ≤ 1000000) : ∃ v s', f_X5_takeNumber (Int32.ofInt lo) (Int32.ofInt hi) s = some (v, s') ∧ CFr s s' ∧ RQ (numS T n c lo hi) (fun r => v = Int32.ofInt r.1 ∧ CC T n r.2 s') (fun k p => v = Int32.ofInt lo ∧ CD k p s') := by
  have h' := h
  obtain ⟨t1, t2, h3, h4, h5, h6, h7, h8⟩ := h'
  have hsb := srt_b T n c
  have hf := frm_b (T := T) t2.1 t2.2
  have hnb := t1.2.1
  unfold numS
  cases eB : nmB T n c with
  | false =>
    have e1 : ¬ srt T n c = 2 := fun x => by rw [srt_2.mp x] at eB; cases eB
    obtain ⟨s', q1, q2, q3⟩ := c_ff h
    refine ⟨Int32.ofInt lo, s', ?_, q3, RQ.er ⟨rfl, q2⟩⟩
    simp (disch := omega) only [f_X5_takeNumber, h5, q1, n_i8, n_i16, n_0, n_31, n_add, n_sub, n_mul, n_neg, n_div, n_rem, n_le_t, n_le_f, n_lt_t, n_lt_f, n_eq_t, n_eq_f, n_cl, n_gd, n_gdt, n_nz, Int.reduceToNat, Int.reduceAdd, Int.reduceSub, Int.reduceMul, Int.reduceNeg, Int.reduceLT, Int.reduceLE, Int.reduceEq, Int.reduceDiv, Int.reduceMod, Nat.reduceAdd, Nat.reduceMul, ↓reduceIte, u_eq, u_no, u_nk, u_ek, u_2, u_3, j_1, j_3, j_eq, j_no, j_nk, ltd, bnd]
  | true =>
    have e1 := srt_2.mpr eB
    rw [e1] at h5
    have hE := nmE_b eB t2.2
    have hnx := nx_N eB
    have hbe : beh T n c = nmE T n c := congrArg Prod.fst hnx
    rw [hbe] at h4
    simp only [↓reduceIte]
    by_cases e4 : nmE T n c - frm T n c ≤ 4
    · rw [if_pos e4]
      have hvb := nmV_b eB t2.2 e4
      have hL := c_tn_L t1 h4 (by omega) hE.2.1 f_X5_takeNumber_j81 (Int32.ofInt lo) (Int32.ofInt hi) (nmE T n c - frm T n c).toNat fuel (frm T n c) 0 (by omega) (by omega) rfl (by unfold fuel; omega)
      have eV : dv T (nmE T n c - frm T n c).toNat (frm T n c) 0 = nmV T n c := rfl
      rw [eV] at hL
      have ef : f_X5_takeNumber (Int32.ofInt lo) (Int32.ofInt hi) s = f_X5_takeNumber_j81 (Int32.ofInt lo) (Int32.ofInt hi) (Int32.ofInt (nmV T n c)) s := by
        rw [← hL]
        simp (disch := omega) only [f_X5_takeNumber, h3, h4, h5, n_i8, n_i16, n_0, n_31, n_add, n_sub, n_mul, n_neg, n_div, n_rem, n_le_t, n_le_f, n_lt_t, n_lt_f, n_eq_t, n_eq_f, n_cl, n_gd, n_gdt, n_nz, Int.reduceToNat, Int.reduceAdd, Int.reduceSub, Int.reduceMul, Int.reduceNeg, Int.reduceLT, Int.reduceLE, Int.reduceEq, Int.reduceDiv, Int.reduceMod, Nat.reduceAdd, Nat.reduceMul, ↓reduceIte, u_eq, u_no, u_nk, u_ek, u_2, u_3, j_1, j_3, j_eq, j_no, j_nk, ltd, bnd]
      rw [ef]
      by_cases e5 : lo ≤ nmV T n c ∧ nmV T n c ≤ hi
      · rw [if_pos e5]
        obtain ⟨s', q1, q2, q3⟩ := c_step h
        rw [hnx] at q2
        refine ⟨_, s', ?_, q3, RQ.ok ⟨rfl, q2⟩⟩
        simp (disch := omega) only [f_X5_takeNumber_j81, q1, n_i8, n_i16, n_0, n_31, n_add, n_sub, n_mul, n_neg, n_div, n_rem, n_le_t, n_le_f, n_lt_t, n_lt_f, n_eq_t, n_eq_f, n_cl, n_gd, n_gdt, n_nz, Int.reduceToNat, Int.reduceAdd, Int.reduceSub, Int.reduceMul, Int.reduceNeg, Int.reduceLT, Int.reduceLE, Int.reduceEq, Int.reduceDiv, Int.reduceMod, Nat.reduceAdd, Nat.reduceMul, ↓reduceIte, u_eq, u_no, u_nk, u_ek, u_2, u_3, j_1, j_3, j_eq, j_no, j_nk, ltd, bnd]
      · rw [if_neg e5]
        obtain ⟨s', q1, q2, q3⟩ := c_fail (k := 2) (p := frm T n c) h7 (by omega) (by omega)
        refine ⟨Int32.ofInt lo, s', ?_, q3, RQ.er ⟨rfl, q2⟩⟩
        by_cases e6 : nmV T n c < lo
        · simp (disch := omega) only [f_X5_takeNumber_j81, f_X5_takeNumber_j91, h3, q1, n_i8, n_i16, n_0, n_31, n_add, n_sub, n_mul, n_neg, n_div, n_rem, n_le_t, n_le_f, n_lt_t, n_lt_f, n_eq_t, n_eq_f, n_cl, n_gd, n_gdt, n_nz, Int.reduceToNat, Int.reduceAdd, Int.reduceSub, Int.reduceMul, Int.reduceNeg, Int.reduceLT, Int.reduceLE, Int.reduceEq, Int.reduceDiv, Int.reduceMod, Nat.reduceAdd, Nat.reduceMul, ↓reduceIte, u_eq, u_no, u_nk, u_ek, u_2, u_3, j_1, j_3, j_eq, j_no, j_nk, ltd, bnd]
        · simp (disch := omega) only [f_X5_takeNumber_j81, f_X5_takeNumber_j91, h3, q1, n_i8, n_i16, n_0, n_31, n_add, n_sub, n_mul, n_neg, n_div, n_rem, n_le_t, n_le_f, n_lt_t, n_lt_f, n_eq_t, n_eq_f, n_cl, n_gd, n_gdt, n_nz, Int.reduceToNat, Int.reduceAdd, Int.reduceSub, Int.reduceMul, Int.reduceNeg, Int.reduceLT, Int.reduceLE, Int.reduceEq, Int.reduceDiv, Int.reduceMod, Nat.reduceAdd, Nat.reduceMul, ↓reduceIte, u_eq, u_no, u_nk, u_ek, u_2, u_3, j_1, j_3, j_eq, j_no, j_nk, ltd, bnd]
    · rw [if_neg e4]
      obtain ⟨s', q1, q2, q3⟩ := c_fail (k := 1) (p := frm T n c + 4) h7 (by omega) (by omega)
      refine ⟨Int32.ofInt lo, s', ?_, q3, RQ.er ⟨rfl, q2⟩⟩
      simp (disch := omega) only [f_X5_takeNumber, h3, h4, h5, q1, n_i8, n_i16, n_0, n_31, n_add, n_sub, n_mul, n_neg, n_div, n_rem, n_le_t, n_le_f, n_lt_t, n_lt_f, n_eq_t, n_eq_f, n_cl, n_gd, n_gdt, n_nz, Int.reduceToNat, Int.reduceAdd, Int.reduceSub, Int.reduceMul, Int.reduceNeg, Int.reduceLT, Int.reduceLE, Int.reduceEq, Int.reduceDiv, Int.reduceMod, Nat.reduceAdd, Nat.reduceMul, ↓reduceIte, u_eq, u_no, u_nk, u_ek, u_2, u_3, j_1, j_3, j_eq, j_no, j_nk, ltd, bnd]
theorem c_tND {k p : Int} {s : ST} (h : CD k p s) (a b : Int32) : f_X5_takeNumber a b s = some (a, s) := by
  have h2 := c_ffD h
  obtain ⟨-, -, h3, -, -⟩ := h
  simp (disch := omega) only [f_X5_takeNumber, h3, h2, n_i8, n_i16, n_0, n_31, n_add, n_sub, n_mul, n_neg, n_div, n_rem, n_le_t, n_le_f, n_lt_t, n_lt_f, n_eq_t, n_eq_f, n_cl, n_gd, n_gdt, n_nz, Int.reduceToNat, Int.reduceAdd, Int.reduceSub, Int.reduceMul, Int.reduceNeg, Int.reduceLT, Int.reduceLE, Int.reduceEq, Int.reduceDiv, Int.reduceMod, Nat.reduceAdd, Nat.reduceMul, ↓reduceIte, u_eq, u_no, u_nk, u_ek, u_2, u_3, j_1, j_3, j_eq, j_no, j_nk, ltd, bnd]
/-! names: five bits a letter -/
theorem shl_or {a v : Nat} (ha : a < 33554432) (hv : v < 32) : (Int32.ofInt (a : Int) <<< (Int32.ofInt 5 &&& 31)) ||| Int32.ofInt (v : Int) = Int32.ofInt ((32 * a + v : Nat) : Int) := by
  have e5 : (Int32.ofInt 5 &&& 31) = 5 := by decide
  rw [e5]
  apply Int32.toBitVec.inj
  rw [Int32.toBitVec_or]
  have h1 : (Int32.ofInt (a : Int) <<< (5 : Int32)).toBitVec = BitVec.ofNat 32 a <<< 5 := by
    rw [Int32.toBitVec_shiftLeft]
    have : (Int32.ofInt (a : Int)).toBitVec = BitVec.ofNat 32 a := by
      show BitVec.ofInt 32 (a : Int) = _
      exact BitVec.ofInt_natCast ..
    rw [this]
    rfl
  have h2 : (Int32.ofInt (v : Int)).toBitVec = BitVec.ofNat 32 v := BitVec.ofInt_natCast ..
  have h3 : (Int32.ofInt ((32 * a + v : Nat) : Int)).toBitVec = BitVec.ofNat 32 (32 * a + v) := BitVec.ofInt_natCast ..
  rw [h1, h2, h3]
  apply BitVec.eq_of_toNat_eq
  rw [BitVec.toNat_or, BitVec.toNat_shiftLeft, BitVec.toNat_ofNat, BitVec.toNat_ofNat, BitVec.toNat_ofNat, Nat.mod_eq_of_lt (show a < 2 ^ 32 by omega), Nat.mod_eq_of_lt (show v < 2 ^ 32 by omega), Nat.mod_eq_of_lt (show 32 * a + v < 2 ^ 32 by omega), Nat.shiftLeft_eq, Nat.mod_eq_of_lt (show a * 2 ^ 5 < 2 ^ 32 by omega)]
  have := Nat.shiftLeft_add_eq_or_of_lt (i := 5) (b := v) (by omega) a
  rw [Nat.shiftLeft_eq] at this
  omega
theorem wl_snoc (T : Int → Int) : ∀ (k : Nat) (f : Int), wl T f (k + 1) = wl T f k ++ [T (f + k)]
  | 0, f => by
    show [T f] = [T (f + ((0 : Nat) : Int))]
    rw [show f + ((0 : Nat) : Int) = f by omega]
  | k + 1, f => by
    show T f :: wl T (f + 1) (k + 1) = (T f :: wl T (f + 1) k) ++ [T (f + ((k + 1 : Nat) : Int))]
    rw [wl_snoc T k (f + 1), List.cons_append, show f + 1 + (k : Int) = f + ((k + 1 : Nat) : Int) by omega]
def pw32 : Nat → Int
  | 0 => 1
  | k + 1 => 32 * pw32 k
theorem pw32_p : ∀ k : Nat, 1 ≤ pw32 k
  | 0 => by decide
  | k + 1 => by
    have := pw32_p k
    show 1 ≤ 32 * pw32 k
    omega
/-- the letters before i are still to come; y is what those from i on make -/
theorem c_nam_L {T : Int → Int} {n f : Int} {s : ST} (h : CT T n s) (hf : s.1 3 1 = Int32.ofInt f) (f0 : 0 ≤ f) : ∀ (m F : Nat) (y : Nat), f + m ≤ n → (∀ j, f ≤ j → j < f + m → isL (T j) = true) → m < F → ((y : Int) + 1) * pw32 m ≤ 1073741824 → f_X5_nameAtHand_L72 F (Int32.ofInt (y : Int)) (Int32.ofInt (f + m - 1)) s = some (Int32.ofInt (((wl T f m).map (fun v => v - 96)).foldr (fun v a => 32 * a + v) (y : Int)), s) := by
  have hnb := h.2.1
  intro m
  induction m with
  | zero =>
    intro F y hm hl hF hy
    obtain ⟨F, rfl⟩ : ∃ F', F = F' + 1 := ⟨F - 1, by omega⟩
    show _ = some (Int32.ofInt (y : Int), s)
    simp (disch := omega) only [f_X5_nameAtHand_L72, hf, n_i8, n_i16, n_0, n_31, n_add, n_sub, n_mul, n_neg, n_div, n_rem, n_le_t, n_le_f, n_lt_t, n_lt_f, n_eq_t, n_eq_f, n_cl, n_gd, n_gdt, n_nz, Int.reduceToNat, Int.reduceAdd, Int.reduceSub, Int.reduceMul, Int.reduceNeg, Int.reduceLT, Int.reduceLE, Int.reduceEq, Int.reduceDiv, Int.reduceMod, Nat.reduceAdd, Nat.reduceMul, ↓reduceIte, u_eq, u_no, u_nk, u_ek, u_2, u_3, j_1, j_3, j_eq, j_no, j_nk, ltd, bnd]
  | succ m ih =>
    intro F y hm hl hF hy
    obtain ⟨F, rfl⟩ : ∃ F', F = F' + 1 := ⟨F - 1, by omega⟩
    have hlt : 97 ≤ T (f + m) ∧ T (f + m) ≤ 122 := of_decide_eq_true (hl (f + m) (by omega) (by omega))
    have hb := c_byteAt h (k := f + m) (by omega) (by omega)
    have hy' : ((y : Int) + 1) * (32 * pw32 m) ≤ 1073741824 := hy
    have hp := pw32_p m
    have hyb : ((y : Int) + 1) * 32 ≤ 1073741824 := by
      have e1 : ((y : Int) + 1) * 32 * 1 ≤ ((y : Int) + 1) * 32 * pw32 m := Int.mul_le_mul_of_nonneg_left hp (by omega)
      rw [← Int.mul_assoc] at hy'
      omega
    have hso := shl_or (a := y) (v := (T (f + m) - 96).toNat) (by omega) (by omega)
    rw [show (((T (f + m) - 96).toNat : Nat) : Int) = T (f + m) - 97 + 1 by omega, n_31] at hso
    have hbound : (((32 * y + (T (f + m) - 96).toNat : Nat) : Int) + 1) * pw32 m ≤ 1073741824 := by
      have e1 : (((32 * y + (T (f + m) - 96).toNat : Nat) : Int) + 1) * pw32 m ≤ (((y : Int) + 1) * 32) * pw32 m := Int.mul_le_mul_of_nonneg_right (by omega) (by omega)
      rw [← Int.mul_assoc] at hy'
      omega
    have ih := ih F (32 * y + (T (f + m) - 96).toNat) (by omega) (fun j j0 j1 => hl j j0 (by omega)) (by omega) hbound
    rw [wl_snoc, List.map_append, List.foldr_append]
    show _ = some (Int32.ofInt (((wl T f m).map (fun v => v - 96)).foldr (fun v a => 32 * a + v) (32 * (y : Int) + (T (f + m) - 96))), s)
    rw [show 32 * (y : Int) + (T (f + m) - 96) = ((32 * y + (T (f + m) - 96).toNat : Nat) : Int) by omega, ← ih, show f + ((m + 1 : Nat) : Int) - 1 = f + m by omega, f_X5_nameAtHand_L72]
    simp (disch := omega) only [hf, hb, hso, n_i8, n_i16, n_0, n_31, n_add, n_sub, n_mul, n_neg, n_div, n_rem, n_le_t, n_le_f, n_lt_t, n_lt_f, n_eq_t, n_eq_f, n_cl, n_gd, n_gdt, n_nz, Int.reduceToNat, Int.reduceAdd, Int.reduceSub, Int.reduceMul, Int.reduceNeg, Int.reduceLT, Int.reduceLE, Int.reduceEq, Int.reduceDiv, Int.reduceMod, Nat.reduceAdd, Nat.reduceMul, ↓reduceIte, u_eq, u_no, u_nk, u_ek, u_2, u_3, j_1, j_3, j_eq, j_no, j_nk, ltd, bnd]
    rw [show f + (m : Int) + -1 = f + m - 1 by omega]
theorem c_nm {T : Int → Int} {n : Int} {c : Cur} {s : ST} (h : CC T n c s) : ∃ v s', f_X5_nameAtHand s = some (v, s') ∧ CFr s s' ∧ RQ (namS T n c) (fun r => v = Int32.ofInt (b32 r.1) ∧ s' = s ∧ NV r.1 ∧ r.2 = nx T n c ∧ isW T n c = true) (fun k p => v = Int32.ofInt (-1) ∧ CD k p s') := by
  have h' := h
  obtain ⟨t1, t2, h3, h4, h5, h6, h7, h8⟩ := h'
  have hsb := srt_b T n c
  have hf := frm_b (T := T) t2.1 t2.2
  have hnb := t1.2.1
  have hwb := wix_b T n c
  obtain ⟨sf, f1, f2, f3⟩ := c_fail (k := 1) (p := frm T n c) h7 (by omega) (by omega)
  have ej : f_X5_nameAtHand_j24 s = some (Int32.ofInt (-1), sf) := by
    simp (disch := omega) only [f_X5_nameAtHand_j24, h3, f1, n_i8, n_i16, n_0, n_31, n_add, n_sub, n_mul, n_neg, n_div, n_rem, n_le_t, n_le_f, n_lt_t, n_lt_f, n_eq_t, n_eq_f, n_cl, n_gd, n_gdt, n_nz, Int.reduceToNat, Int.reduceAdd, Int.reduceSub, Int.reduceMul, Int.reduceNeg, Int.reduceLT, Int.reduceLE, Int.reduceEq, Int.reduceDiv, Int.reduceMod, Nat.reduceAdd, Nat.reduceMul, ↓reduceIte, u_eq, u_no, u_nk, u_ek, u_2, u_3, j_1, j_3, j_eq, j_no, j_nk, ltd, bnd]
  unfold namS
  rw [wix_own]
  cases eB : isW T n c with
  | false =>
    rw [Bool.false_and]
    have e1 : ¬ srt T n c = 1 := fun x => by rw [srt_1.mp x] at eB; cases eB
    refine ⟨Int32.ofInt (-1), sf, ?_, f3, RQ.er ⟨rfl, f2⟩⟩
    rw [← ej]
    simp (disch := omega) only [f_X5_nameAtHand, h5, n_i8, n_i16, n_0, n_31, n_add, n_sub, n_mul, n_neg, n_div, n_rem, n_le_t, n_le_f, n_lt_t, n_lt_f, n_eq_t, n_eq_f, n_cl, n_gd, n_gdt, n_nz, Int.reduceToNat, Int.reduceAdd, Int.reduceSub, Int.reduceMul, Int.reduceNeg, Int.reduceLT, Int.reduceLE, Int.reduceEq, Int.reduceDiv, Int.reduceMod, Nat.reduceAdd, Nat.reduceMul, ↓reduceIte, u_eq, u_no, u_nk, u_ek, u_2, u_3, j_1, j_3, j_eq, j_no, j_nk, ltd, bnd]
  | true =>
    have e1 := srt_1.mpr eB
    have h6 := h6 e1
    rw [e1] at h5
    rw [Bool.true_and]
    have hE := nm_ty eB t2.2
    have hnx := nx_W eB
    have hbe : beh T n c = sk isL T n (frm T n c) := congrArg Prod.fst hnx
    rw [hbe] at h4
    by_cases eo : 0 ≤ wix T n c ∧ wix T n c < 33
    · rw [decide_eq_true eo]
      refine ⟨Int32.ofInt (-1), sf, ?_, f3, RQ.er ⟨rfl, f2⟩⟩
      rw [← ej]
      simp (disch := omega) only [f_X5_nameAtHand, h5, h6, n_i8, n_i16, n_0, n_31, n_add, n_sub, n_mul, n_neg, n_div, n_rem, n_le_t, n_le_f, n_lt_t, n_lt_f, n_eq_t, n_eq_f, n_cl, n_gd, n_gdt, n_nz, Int.reduceToNat, Int.reduceAdd, Int.reduceSub, Int.reduceMul, Int.reduceNeg, Int.reduceLT, Int.reduceLE, Int.reduceEq, Int.reduceDiv, Int.reduceMod, Nat.reduceAdd, Nat.reduceMul, ↓reduceIte, u_eq, u_no, u_nk, u_ek, u_2, u_3, j_1, j_3, j_eq, j_no, j_nk, ltd, bnd]
    · rw [decide_eq_false eo]
      have ef : f_X5_nameAtHand s = f_X5_nameAtHand_j35 s := by
        by_cases x : wix T n c < 0
        · simp (disch := omega) only [f_X5_nameAtHand, h5, h6, n_i8, n_i16, n_0, n_31, n_add, n_sub, n_mul, n_neg, n_div, n_rem, n_le_t, n_le_f, n_lt_t, n_lt_f, n_eq_t, n_eq_f, n_cl, n_gd, n_gdt, n_nz, Int.reduceToNat, Int.reduceAdd, Int.reduceSub, Int.reduceMul, Int.reduceNeg, Int.reduceLT, Int.reduceLE, Int.reduceEq, Int.reduceDiv, Int.reduceMod, Nat.reduceAdd, Nat.reduceMul, ↓reduceIte, u_eq, u_no, u_nk, u_ek, u_2, u_3, j_1, j_3, j_eq, j_no, j_nk, ltd, bnd]
        · simp (disch := omega) only [f_X5_nameAtHand, h5, h6, n_i8, n_i16, n_0, n_31, n_add, n_sub, n_mul, n_neg, n_div, n_rem, n_le_t, n_le_f, n_lt_t, n_lt_f, n_eq_t, n_eq_f, n_cl, n_gd, n_gdt, n_nz, Int.reduceToNat, Int.reduceAdd, Int.reduceSub, Int.reduceMul, Int.reduceNeg, Int.reduceLT, Int.reduceLE, Int.reduceEq, Int.reduceDiv, Int.reduceMod, Nat.reduceAdd, Nat.reduceMul, ↓reduceIte, u_eq, u_no, u_nk, u_ek, u_2, u_3, j_1, j_3, j_eq, j_no, j_nk, ltd, bnd]
      rw [ef]
      simp only [Bool.not_false, ↓reduceIte]
      by_cases e4 : sk isL T n (frm T n c) - frm T n c ≤ 6
      · rw [if_pos e4]
        have hp : ((0 : Nat) + 1 : Int) * pw32 (sk isL T n (frm T n c) - frm T n c).toNat ≤ 1073741824 := by
          have hx : ∀ q : Nat, q ≤ 6 → ((0 : Nat) + 1 : Int) * pw32 q ≤ 1073741824 := by decide
          exact hx _ (by omega)
        have hL := c_nam_L t1 h3 (by omega) (sk isL T n (frm T n c) - frm T n c).toNat fuel 0 (by omega) (fun j j0 j1 => hE.2.2 j j0 (by omega)) (by unfold fuel; omega) hp
        rw [show frm T n c + (((sk isL T n (frm T n c) - frm T n c).toNat : Nat) : Int) - 1 = sk isL T n (frm T n c) - 1 by omega] at hL
        refine ⟨_, s, ?_, CFr.rf s, RQ.ok ⟨rfl, rfl, nm_NV eB t2.2 e4, hnx.symm, trivial⟩⟩
        refine Eq.trans ?_ hL
        simp (disch := omega) only [f_X5_nameAtHand_j35, h3, h4, n_i8, n_i16, n_0, n_31, n_add, n_sub, n_mul, n_neg, n_div, n_rem, n_le_t, n_le_f, n_lt_t, n_lt_f, n_eq_t, n_eq_f, n_cl, n_gd, n_gdt, n_nz, Int.reduceToNat, Int.reduceAdd, Int.reduceSub, Int.reduceMul, Int.reduceNeg, Int.reduceLT, Int.reduceLE, Int.reduceEq, Int.reduceDiv, Int.reduceMod, Nat.reduceAdd, Nat.reduceMul, ↓reduceIte, u_eq, u_no, u_nk, u_ek, u_2, u_3, j_1, j_3, j_eq, j_no, j_nk, ltd, bnd]
        rfl
      · rw [if_neg e4]
        obtain ⟨s', q1, q2, q3⟩ := c_fail (k := 1) (p := frm T n c + 6) h7 (by omega) (by omega)
        refine ⟨Int32.ofInt (-1), s', ?_, q3, RQ.er ⟨rfl, q2⟩⟩
        simp (disch := omega) only [f_X5_nameAtHand_j35, h3, h4, q1, n_i8, n_i16, n_0, n_31, n_add, n_sub, n_mul, n_neg, n_div, n_rem, n_le_t, n_le_f, n_lt_t, n_lt_f, n_eq_t, n_eq_f, n_cl, n_gd, n_gdt, n_nz, Int.reduceToNat, Int.reduceAdd, Int.reduceSub, Int.reduceMul, Int.reduceNeg, Int.reduceLT, Int.reduceLE, Int.reduceEq, Int.reduceDiv, Int.reduceMod, Nat.reduceAdd, Nat.reduceMul, ↓reduceIte, u_eq, u_no, u_nk, u_ek, u_2, u_3, j_1, j_3, j_eq, j_no, j_nk, ltd, bnd]
theorem c_nmD {k p : Int} {s : ST} (h : CD k p s) : f_X5_nameAtHand s = some (Int32.ofInt (-1), s) := by
  have h2 := c_failD h (Int32.ofInt 1) (s.1 3 1)
  obtain ⟨-, -, h3, -, -⟩ := h
  simp (disch := omega) only [f_X5_nameAtHand, f_X5_nameAtHand_j24, h3, h2, n_i8, n_i16, n_0, n_31, n_add, n_sub, n_mul, n_neg, n_div, n_rem, n_le_t, n_le_f, n_lt_t, n_lt_f, n_eq_t, n_eq_f, n_cl, n_gd, n_gdt, n_nz, Int.reduceToNat, Int.reduceAdd, Int.reduceSub, Int.reduceMul, Int.reduceNeg, Int.reduceLT, Int.reduceLE, Int.reduceEq, Int.reduceDiv, Int.reduceMod, Nat.reduceAdd, Nat.reduceMul, ↓reduceIte, u_eq, u_no, u_nk, u_ek, u_2, u_3, j_1, j_3, j_eq, j_no, j_nk, ltd, bnd]
