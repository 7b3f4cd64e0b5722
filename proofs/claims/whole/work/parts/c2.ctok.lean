/-! L3: how the class reads words, numbers, signs -/
def sv (v : Int) : Int := if isL v = true then 1 else if isD v = true then 2 else 3
theorem sv_D {v : Int} (h : isD v = true) : sv v = 2 := by
  have h1 : 48 ≤ v ∧ v ≤ 57 := of_decide_eq_true h
  have h2 : isL v = false := decide_eq_false (by omega)
  unfold sv
  rw [h2, h, if_neg (by decide), if_pos rfl]
theorem sv_i1 (v : Int) : (sv v = 1) ↔ isL v = true := by
  unfold sv
  constructor
  · intro h
    split at h
    · assumption
    · split at h <;> omega
  · intro h
    rw [if_pos h]
theorem sv_i2 (v : Int) : (sv v = 2) ↔ isD v = true := by
  constructor
  · intro h
    unfold sv at h
    split at h
    · omega
    · split at h
      · assumption
      · omega
  · exact sv_D
theorem sv_b (v : Int) : 1 ≤ sv v ∧ sv v ≤ 3 := by
  unfold sv
  (repeat' split) <;> omega
def ixo (w : List Int) : List (List Int) → Int → Int
  | [], _ => -1
  | l :: r, k => if w = l then k else ixo w r (k + 1)
theorem ixo_some {w : List Int} : ∀ (L : List (List Int)) (i k : Int), 0 ≤ i → ixo w L i = k → 0 ≤ k → i ≤ k ∧ k < i + L.length ∧ w = L.getD (k - i).toNat []
  | [], i, k, i0, h, k0 => by
    have : (-1 : Int) = k := h
    omega
  | l :: r, i, k, i0, h, k0 => by
    have h : (if w = l then i else ixo w r (i + 1)) = k := h
    split at h
    · rename_i e
      subst h
      rw [show (i - i).toNat = 0 by omega]
      rw [List.length_cons]
      exact ⟨by omega, by omega, e⟩
    · obtain ⟨a, b, c⟩ := ixo_some r (i + 1) k (by omega) h k0
      rw [List.length_cons]
      refine ⟨by omega, by omega, ?_⟩
      rw [show (k - i).toNat = (k - (i + 1)).toNat + 1 by omega, List.getD_cons_succ]
      exact c
theorem ixo_b {w : List Int} : ∀ (L : List (List Int)) (i : Int), 0 ≤ i → -1 ≤ ixo w L i ∧ ixo w L i < i + L.length ∨ ixo w L i = -1
  | [], i, i0 => Or.inr rfl
  | l :: r, i, i0 => by
    show -1 ≤ (if w = l then i else ixo w r (i + 1)) ∧ (if w = l then i else ixo w r (i + 1)) < i + (l :: r).length ∨ (if w = l then i else ixo w r (i + 1)) = -1
    rw [List.length_cons]
    split
    · left; omega
    · rcases ixo_b (w := w) r (i + 1) (by omega) with h | h
      · left; omega
      · right; exact h
theorem ixo_wd : ∀ k : Nat, k < 39 → ixo (WDl k) WD 0 = (k : Int) := by decide +kernel
def wix (T : Int → Int) (n : Int) (c : Cur) : Int := ixo (wd T n c) WD 0
theorem wix_b (T : Int → Int) (n : Int) (c : Cur) : -1 ≤ wix T n c ∧ wix T n c ≤ 38 := by
  unfold wix
  have hl : WD.length = 39 := rfl
  rcases ixo_b (w := wd T n c) WD 0 (by omega) with h | h
  · rw [hl] at h; omega
  · omega
theorem wix_eq {T : Int → Int} {n : Int} {c : Cur} {k : Nat} (hk : k < 39) : (wix T n c = (k : Int)) ↔ wd T n c = WDl k := by
  unfold wix
  constructor
  · intro h
    obtain ⟨-, -, e⟩ := ixo_some WD 0 (k : Int) (by omega) h (by omega)
    rw [show ((k : Int) - 0).toNat = k by omega] at e
    exact e
  · intro h
    rw [h]
    exact ixo_wd k hk
theorem wix_own {T : Int → Int} {n : Int} {c : Cur} : ownw T n c = decide (0 ≤ wix T n c ∧ wix T n c < 33) := by
  have hb := wix_b T n c
  by_cases e : 0 ≤ wix T n c ∧ wix T n c < 33
  · rw [decide_eq_true e]
    unfold ownw
    rw [List.any_eq_true]
    obtain ⟨k, hk⟩ : ∃ k : Nat, wix T n c = (k : Int) := ⟨(wix T n c).toNat, by omega⟩
    have h1 := (wix_eq (k := k) (by omega)).mp hk
    have hk33 : k < 33 := by omega
    refine ⟨WDl k, ?_, decide_eq_true h1⟩
    have hm : ∀ k : Nat, k < 33 → WDl k ∈ WD.take 33 := by decide +kernel
    exact hm k hk33
  · rw [decide_eq_false e]
    cases ho : ownw T n c with
    | false => rfl
    | true =>
      exfalso
      unfold ownw at ho
      rw [List.any_eq_true] at ho
      obtain ⟨l, hl, hw⟩ := ho
      have hw := of_decide_eq_true hw
      have hm : ∀ l ∈ WD.take 33, ∃ k : Nat, k < 33 ∧ l = WDl k := by decide +kernel
      obtain ⟨k, hk, hlk⟩ := hm l hl
      have := (wix_eq (k := k) (T := T) (n := n) (c := c) (by omega)).mpr (hw.trans hlk)
      omega
def srt (T : Int → Int) (n : Int) (c : Cur) : Int := if frm T n c < n then (if adj T n c = true ∧ sv (T (frm T n c)) ≤ 2 then 4 else sv (T (frm T n c))) else 0
def beh (T : Int → Int) (n : Int) (c : Cur) : Int := if frm T n c < n then (if sv (T (frm T n c)) = 1 then sk isL T n (frm T n c) else if sv (T (frm T n c)) = 2 then sk isD T n (frm T n c) else frm T n c + 1) else frm T n c
theorem srt_b (T : Int → Int) (n : Int) (c : Cur) : 0 ≤ srt T n c ∧ srt T n c ≤ 4 := by
  have := sv_b (T (frm T n c))
  unfold srt
  (repeat' split) <;> omega
theorem srt_1 {T : Int → Int} {n : Int} {c : Cur} : (srt T n c = 1) ↔ isW T n c = true := by
  have hb := sv_b (T (frm T n c))
  unfold srt isW
  rw [Bool.and_eq_true, Bool.and_eq_true, decide_eq_true_iff, ← sv_i1]
  by_cases e1 : frm T n c < n
  · rw [if_pos e1]
    cases e2 : adj T n c with
    | true =>
      simp only [Bool.not_true]
      by_cases e3 : sv (T (frm T n c)) ≤ 2
      · rw [if_pos ⟨trivial, e3⟩]
        constructor
        · intro h; omega
        · intro h; cases h.2
      · rw [if_neg (fun x => e3 x.2)]
        constructor
        · intro h; omega
        · intro h; cases h.2
    | false =>
      rw [if_neg (fun x => by cases x.1)]
      constructor
      · intro h; exact ⟨⟨e1, h⟩, rfl⟩
      · intro h; exact h.1.2
  · rw [if_neg e1]
    constructor
    · intro h; omega
    · intro h; exact absurd h.1.1 e1
theorem srt_2 {T : Int → Int} {n : Int} {c : Cur} : (srt T n c = 2) ↔ nmB T n c = true := by
  have hb := sv_b (T (frm T n c))
  unfold srt nmB
  rw [Bool.and_eq_true, Bool.and_eq_true, decide_eq_true_iff, ← sv_i2]
  by_cases e1 : frm T n c < n
  · rw [if_pos e1]
    cases e2 : adj T n c with
    | true =>
      simp only [Bool.not_true]
      by_cases e3 : sv (T (frm T n c)) ≤ 2
      · rw [if_pos ⟨trivial, e3⟩]
        constructor
        · intro h; omega
        · intro h; cases h.2
      · rw [if_neg (fun x => e3 x.2)]
        constructor
        · intro h; omega
        · intro h; cases h.2
    | false =>
      rw [if_neg (fun x => by cases x.1)]
      constructor
      · intro h; exact ⟨⟨e1, h⟩, rfl⟩
      · intro h; exact h.1.2
  · rw [if_neg e1]
    constructor
    · intro h; omega
    · intro h; exact absurd h.1.1 e1
theorem srt_0 {T : Int → Int} {n : Int} {c : Cur} : (srt T n c = 0) ↔ ¬ frm T n c < n := by
  have hb := sv_b (T (frm T n c))
  unfold srt
  constructor
  · intro h x
    rw [if_pos x] at h
    split at h <;> omega
  · intro h
    rw [if_neg h]
/-- the class's reader stands at c -/
def CC (T : Int → Int) (n : Int) (c : Cur) (s : ST) : Prop := CT T n s ∧ (0 ≤ c.1 ∧ c.1 ≤ n) ∧ s.1 3 1 = Int32.ofInt (frm T n c) ∧ s.1 3 2 = Int32.ofInt (beh T n c) ∧ s.1 3 3 = Int32.ofInt (srt T n c) ∧ (srt T n c = 1 → s.1 3 4 = Int32.ofInt (wix T n c)) ∧ s.1 3 5 = Int32.ofInt 0 ∧ s.1 3 6 = Int32.ofInt (-1)
/-- it has found a fault -/
def CD (k p : Int) (s : ST) : Prop := s.1 3 5 = Int32.ofInt k ∧ s.1 3 6 = Int32.ofInt p ∧ s.1 3 3 = Int32.ofInt 4 ∧ 1 ≤ k ∧ k ≤ 5
def CFr (s s' : ST) : Prop := (∀ o k : Nat, ¬ o = 3 → s'.1 o k = s.1 o k) ∧ s'.2 = s.2
theorem CFr.rf (s : ST) : CFr s s := ⟨fun _ _ _ => rfl, rfl⟩
theorem CFr.tr {s t u : ST} (h1 : CFr s t) (h2 : CFr t u) : CFr s u := ⟨fun o k x => (h2.1 o k x).trans (h1.1 o k x), h2.2.trans h1.2⟩
theorem CC_fr {T : Int → Int} {n : Int} {c : Cur} {s s' : ST} (h : CC T n c s) (hf : ∀ o k : Nat, o ≤ 3 → s'.1 o k = s.1 o k) : CC T n c s' := by
  obtain ⟨h1, h2, h3, h4, h5, h6, h7, h8⟩ := h
  exact ⟨CT_fr h1 (hf 1 1 (by omega)) (fun k => hf 2 k (by omega)), h2, (hf 3 1 (by omega)).trans h3, (hf 3 2 (by omega)).trans h4, (hf 3 3 (by omega)).trans h5, fun x => (hf 3 4 (by omega)).trans (h6 x), (hf 3 5 (by omega)).trans h7, (hf 3 6 (by omega)).trans h8⟩
theorem CD_fr {k p : Int} {s s' : ST} (h : CD k p s) (hf : ∀ k : Nat, s'.1 3 k = s.1 3 k) : CD k p s' := ⟨(hf 5).trans h.1, (hf 6).trans h.2.1, (hf 3).trans h.2.2.1, h.2.2.2⟩
theorem c_sort {v : Int} (v0 : 0 ≤ v) (v1 : v ≤ 255) (s : ST) : f_X5_sortOf (Int32.ofInt v) s = some (Int32.ofInt (sv v), s) := by
  by_cases e1 : v < 48
  · have : sv v = 3 := by unfold sv; rw [if_neg (by unfold isL; rw [decide_eq_true_iff]; omega), if_neg (by unfold isD; rw [decide_eq_true_iff]; omega)]
    rw [this]
    simp (disch := omega) only [f_X5_sortOf, f_X5_sortOf_j14, n_i8, n_i16, n_0, n_31, n_add, n_sub, n_mul, n_neg, n_div, n_rem, n_le_t, n_le_f, n_lt_t, n_lt_f, n_eq_t, n_eq_f, n_cl, n_gd, n_gdt, n_nz, Int.reduceToNat, Int.reduceAdd, Int.reduceSub, Int.reduceMul, Int.reduceNeg, Int.reduceLT, Int.reduceLE, Int.reduceEq, Int.reduceDiv, Int.reduceMod, Nat.reduceAdd, Nat.reduceMul, ↓reduceIte, u_eq, u_no, u_nk, u_ek, u_2, u_3, j_1, j_3, j_eq, j_no, j_nk, ltd, bnd]
  by_cases e2 : v ≤ 57
  · have : sv v = 2 := sv_D (decide_eq_true (by omega))
    rw [this]
    simp (disch := omega) only [f_X5_sortOf, f_X5_sortOf_j14, n_i8, n_i16, n_0, n_31, n_add, n_sub, n_mul, n_neg, n_div, n_rem, n_le_t, n_le_f, n_lt_t, n_lt_f, n_eq_t, n_eq_f, n_cl, n_gd, n_gdt, n_nz, Int.reduceToNat, Int.reduceAdd, Int.reduceSub, Int.reduceMul, Int.reduceNeg, Int.reduceLT, Int.reduceLE, Int.reduceEq, Int.reduceDiv, Int.reduceMod, Nat.reduceAdd, Nat.reduceMul, ↓reduceIte, u_eq, u_no, u_nk, u_ek, u_2, u_3, j_1, j_3, j_eq, j_no, j_nk, ltd, bnd]
  by_cases e3 : v < 97
  · have : sv v = 3 := by unfold sv; rw [if_neg (by unfold isL; rw [decide_eq_true_iff]; omega), if_neg (by unfold isD; rw [decide_eq_true_iff]; omega)]
    rw [this]
    simp (disch := omega) only [f_X5_sortOf, f_X5_sortOf_j14, n_i8, n_i16, n_0, n_31, n_add, n_sub, n_mul, n_neg, n_div, n_rem, n_le_t, n_le_f, n_lt_t, n_lt_f, n_eq_t, n_eq_f, n_cl, n_gd, n_gdt, n_nz, Int.reduceToNat, Int.reduceAdd, Int.reduceSub, Int.reduceMul, Int.reduceNeg, Int.reduceLT, Int.reduceLE, Int.reduceEq, Int.reduceDiv, Int.reduceMod, Nat.reduceAdd, Nat.reduceMul, ↓reduceIte, u_eq, u_no, u_nk, u_ek, u_2, u_3, j_1, j_3, j_eq, j_no, j_nk, ltd, bnd]
  by_cases e4 : v ≤ 122
  · have : sv v = 1 := (sv_i1 v).mpr (decide_eq_true (by omega))
    rw [this]
    simp (disch := omega) only [f_X5_sortOf, f_X5_sortOf_j14, n_i8, n_i16, n_0, n_31, n_add, n_sub, n_mul, n_neg, n_div, n_rem, n_le_t, n_le_f, n_lt_t, n_lt_f, n_eq_t, n_eq_f, n_cl, n_gd, n_gdt, n_nz, Int.reduceToNat, Int.reduceAdd, Int.reduceSub, Int.reduceMul, Int.reduceNeg, Int.reduceLT, Int.reduceLE, Int.reduceEq, Int.reduceDiv, Int.reduceMod, Nat.reduceAdd, Nat.reduceMul, ↓reduceIte, u_eq, u_no, u_nk, u_ek, u_2, u_3, j_1, j_3, j_eq, j_no, j_nk, ltd, bnd]
  · have : sv v = 3 := by unfold sv; rw [if_neg (by unfold isL; rw [decide_eq_true_iff]; omega), if_neg (by unfold isD; rw [decide_eq_true_iff]; omega)]
    rw [this]
    simp (disch := omega) only [f_X5_sortOf, f_X5_sortOf_j14, n_i8, n_i16, n_0, n_31, n_add, n_sub, n_mul, n_neg, n_div, n_rem, n_le_t, n_le_f, n_lt_t, n_lt_f, n_eq_t, n_eq_f, n_cl, n_gd, n_gdt, n_nz, Int.reduceToNat, Int.reduceAdd, Int.reduceSub, Int.reduceMul, Int.reduceNeg, Int.reduceLT, Int.reduceLE, Int.reduceEq, Int.reduceDiv, Int.reduceMod, Nat.reduceAdd, Nat.reduceMul, ↓reduceIte, u_eq, u_no, u_nk, u_ek, u_2, u_3, j_1, j_3, j_eq, j_no, j_nk, ltd, bnd]
theorem c_isBk {v : Int} (v0 : 0 ≤ v) (v1 : v ≤ 255) (s : ST) : f_X5_isBlank (Int32.ofInt v) s = some (bI (isBk v), s) := by
  by_cases e1 : v = 10
  · rw [show isBk v = true from decide_eq_true (Or.inl e1)]
    simp (disch := omega) only [f_X5_isBlank, bI_t, n_i8, n_i16, n_0, n_31, n_add, n_sub, n_mul, n_neg, n_div, n_rem, n_le_t, n_le_f, n_lt_t, n_lt_f, n_eq_t, n_eq_f, n_cl, n_gd, n_gdt, n_nz, Int.reduceToNat, Int.reduceAdd, Int.reduceSub, Int.reduceMul, Int.reduceNeg, Int.reduceLT, Int.reduceLE, Int.reduceEq, Int.reduceDiv, Int.reduceMod, Nat.reduceAdd, Nat.reduceMul, ↓reduceIte, u_eq, u_no, u_nk, u_ek, u_2, u_3, j_1, j_3, j_eq, j_no, j_nk, ltd, bnd]
  by_cases e2 : v = 32
  · rw [show isBk v = true from decide_eq_true (Or.inr e2)]
    simp (disch := omega) only [f_X5_isBlank, bI_t, n_i8, n_i16, n_0, n_31, n_add, n_sub, n_mul, n_neg, n_div, n_rem, n_le_t, n_le_f, n_lt_t, n_lt_f, n_eq_t, n_eq_f, n_cl, n_gd, n_gdt, n_nz, Int.reduceToNat, Int.reduceAdd, Int.reduceSub, Int.reduceMul, Int.reduceNeg, Int.reduceLT, Int.reduceLE, Int.reduceEq, Int.reduceDiv, Int.reduceMod, Nat.reduceAdd, Nat.reduceMul, ↓reduceIte, u_eq, u_no, u_nk, u_ek, u_2, u_3, j_1, j_3, j_eq, j_no, j_nk, ltd, bnd]
  · rw [show isBk v = false from decide_eq_false (by omega)]
    simp (disch := omega) only [f_X5_isBlank, bI_f, n_i8, n_i16, n_0, n_31, n_add, n_sub, n_mul, n_neg, n_div, n_rem, n_le_t, n_le_f, n_lt_t, n_lt_f, n_eq_t, n_eq_f, n_cl, n_gd, n_gdt, n_nz, Int.reduceToNat, Int.reduceAdd, Int.reduceSub, Int.reduceMul, Int.reduceNeg, Int.reduceLT, Int.reduceLE, Int.reduceEq, Int.reduceDiv, Int.reduceMod, Nat.reduceAdd, Nat.reduceMul, ↓reduceIte, u_eq, u_no, u_nk, u_ek, u_2, u_3, j_1, j_3, j_eq, j_no, j_nk, ltd, bnd]
def C1f (q : Nat) (s s' : ST) : Prop := (∀ o k : Nat, ¬ (o = 3 ∧ k = q) → s'.1 o k = s.1 o k) ∧ s'.2 = s.2
theorem C1f.cf {q : Nat} {s s' : ST} (h : C1f q s s') : CFr s s' := ⟨fun o k x => h.1 o k (by omega), h.2⟩
theorem c_skip_L {T : Int → Int} {n : Int} (K : Int32 → ST → Option ST) (x1 : Int32) : ∀ (m F : Nat) (a : Int) (s : ST), CT T n s → s.1 3 1 = Int32.ofInt a → 0 ≤ a → a ≤ n → (n - a).toNat = m → m < F → ∃ s', f_X5_step_L38 K F x1 s = K x1 s' ∧ s'.1 3 1 = Int32.ofInt (sk isBk T n a) ∧ C1f 1 s s' := by
  intro m
  induction m with
  | zero =>
    intro F a s h ha a0 a1 hm hF
    obtain ⟨F, rfl⟩ : ∃ F', F = F' + 1 := ⟨F - 1, by omega⟩
    have hn := h.1
    have hnb := h.2.1
    rw [sk_ge (by omega)]
    refine ⟨s, ?_, ha, fun _ _ _ => rfl, rfl⟩
    simp (disch := omega) only [f_X5_step_L38, hn, ha, n_i8, n_i16, n_0, n_31, n_add, n_sub, n_mul, n_neg, n_div, n_rem, n_le_t, n_le_f, n_lt_t, n_lt_f, n_eq_t, n_eq_f, n_cl, n_gd, n_gdt, n_nz, Int.reduceToNat, Int.reduceAdd, Int.reduceSub, Int.reduceMul, Int.reduceNeg, Int.reduceLT, Int.reduceLE, Int.reduceEq, Int.reduceDiv, Int.reduceMod, Nat.reduceAdd, Nat.reduceMul, ↓reduceIte, u_eq, u_no, u_nk, u_ek, u_2, u_3, j_1, j_3, j_eq, j_no, j_nk, ltd, bnd]
  | succ m ih =>
    intro F a s h ha a0 a1 hm hF
    obtain ⟨F, rfl⟩ : ∃ F', F = F' + 1 := ⟨F - 1, by omega⟩
    have hn := h.1
    have hnb := h.2.1
    have hb := c_byteAt h a0 (by omega)
    obtain ⟨-, t0, t1⟩ := h.2.2 a a0 (by omega)
    have hk := c_isBk t0 t1 s
    cases e : isBk (T a) with
    | false =>
      rw [e] at hk
      rw [sk_f e]
      refine ⟨s, ?_, ha, fun _ _ _ => rfl, rfl⟩
      simp (disch := omega) only [f_X5_step_L38, hn, ha, hb, hk, bI_f, n_i8, n_i16, n_0, n_31, n_add, n_sub, n_mul, n_neg, n_div, n_rem, n_le_t, n_le_f, n_lt_t, n_lt_f, n_eq_t, n_eq_f, n_cl, n_gd, n_gdt, n_nz, Int.reduceToNat, Int.reduceAdd, Int.reduceSub, Int.reduceMul, Int.reduceNeg, Int.reduceLT, Int.reduceLE, Int.reduceEq, Int.reduceDiv, Int.reduceMod, Nat.reduceAdd, Nat.reduceMul, ↓reduceIte, u_eq, u_no, u_nk, u_ek, u_2, u_3, j_1, j_3, j_eq, j_no, j_nk, ltd, bnd]
    | true =>
      rw [e] at hk
      rw [sk_t (by omega) e]
      have hf : C1f 1 s (uI s 3 1 (Int32.ofInt (a + 1))) := ⟨fun o k x => by (simp only [ua, ja, u_2, u_3, j_1, j_3]; (repeat' split) <;> first | rfl | (exfalso; omega)), rfl⟩
      obtain ⟨s', q1, q2, q3⟩ := ih F (a + 1) _ (CT_fr h (hf.1 1 1 (by omega)) (fun k => hf.1 2 k (by omega))) (u_eq _ _ _ _) (by omega) (by omega) (by omega) (by omega)
      refine ⟨s', ?_, q2, fun o k x => (q3.1 o k x).trans (hf.1 o k x), q3.2.trans hf.2⟩
      rw [← q1, f_X5_step_L38]
      simp (disch := omega) only [hn, ha, hb, hk, bI_t, n_i8, n_i16, n_0, n_31, n_add, n_sub, n_mul, n_neg, n_div, n_rem, n_le_t, n_le_f, n_lt_t, n_lt_f, n_eq_t, n_eq_f, n_cl, n_gd, n_gdt, n_nz, Int.reduceToNat, Int.reduceAdd, Int.reduceSub, Int.reduceMul, Int.reduceNeg, Int.reduceLT, Int.reduceLE, Int.reduceEq, Int.reduceDiv, Int.reduceMod, Nat.reduceAdd, Nat.reduceMul, ↓reduceIte, u_eq, u_no, u_nk, u_ek, u_2, u_3, j_1, j_3, j_eq, j_no, j_nk, ltd, bnd]
theorem c_run_L {T : Int → Int} {n : Int} {p : Int → Bool} {w : Int} (hp : ∀ v, (sv v = w) ↔ p v = true) (w1 : 1 ≤ w) (w2 : w ≤ 2) (K : Int32 → ST → Option ST) (x1 : Int32) : ∀ (m F : Nat) (a : Int) (s : ST), CT T n s → s.1 3 2 = Int32.ofInt a → s.1 3 3 = Int32.ofInt w → 0 ≤ a → a ≤ n → (n - a).toNat = m → m < F → ∃ s', f_X5_step_L163 K F x1 s = K x1 s' ∧ s'.1 3 2 = Int32.ofInt (sk p T n a) ∧ C1f 2 s s' := by
  intro m
  induction m with
  | zero =>
    intro F a s h ha hw a0 a1 hm hF
    obtain ⟨F, rfl⟩ : ∃ F', F = F' + 1 := ⟨F - 1, by omega⟩
    have hn := h.1
    have hnb := h.2.1
    rw [sk_ge (by omega)]
    refine ⟨s, ?_, ha, fun _ _ _ => rfl, rfl⟩
    simp (disch := omega) only [f_X5_step_L163, hn, ha, hw, n_i8, n_i16, n_0, n_31, n_add, n_sub, n_mul, n_neg, n_div, n_rem, n_le_t, n_le_f, n_lt_t, n_lt_f, n_eq_t, n_eq_f, n_cl, n_gd, n_gdt, n_nz, Int.reduceToNat, Int.reduceAdd, Int.reduceSub, Int.reduceMul, Int.reduceNeg, Int.reduceLT, Int.reduceLE, Int.reduceEq, Int.reduceDiv, Int.reduceMod, Nat.reduceAdd, Nat.reduceMul, ↓reduceIte, u_eq, u_no, u_nk, u_ek, u_2, u_3, j_1, j_3, j_eq, j_no, j_nk, ltd, bnd]
  | succ m ih =>
    intro F a s h ha hw a0 a1 hm hF
    obtain ⟨F, rfl⟩ : ∃ F', F = F' + 1 := ⟨F - 1, by omega⟩
    have hn := h.1
    have hnb := h.2.1
    have hb := c_byteAt h a0 (by omega)
    obtain ⟨-, t0, t1⟩ := h.2.2 a a0 (by omega)
    have hk := c_sort t0 t1 s
    have hsb := sv_b (T a)
    cases e : p (T a) with
    | false =>
      have hne : ¬ sv (T a) = w := fun x => by rw [(hp _).mp x] at e; cases e
      rw [sk_f e]
      refine ⟨s, ?_, ha, fun _ _ _ => rfl, rfl⟩
      simp (disch := omega) only [f_X5_step_L163, hn, ha, hw, hb, hk, n_i8, n_i16, n_0, n_31, n_add, n_sub, n_mul, n_neg, n_div, n_rem, n_le_t, n_le_f, n_lt_t, n_lt_f, n_eq_t, n_eq_f, n_cl, n_gd, n_gdt, n_nz, Int.reduceToNat, Int.reduceAdd, Int.reduceSub, Int.reduceMul, Int.reduceNeg, Int.reduceLT, Int.reduceLE, Int.reduceEq, Int.reduceDiv, Int.reduceMod, Nat.reduceAdd, Nat.reduceMul, ↓reduceIte, u_eq, u_no, u_nk, u_ek, u_2, u_3, j_1, j_3, j_eq, j_no, j_nk, ltd, bnd]
    | true =>
      have hne : sv (T a) = w := (hp _).mpr e
      rw [sk_t (by omega) e]
      have hf : C1f 2 s (uI s 3 2 (Int32.ofInt (a + 1))) := ⟨fun o k x => by (simp only [ua, ja, u_2, u_3, j_1, j_3]; (repeat' split) <;> first | rfl | (exfalso; omega)), rfl⟩
      obtain ⟨s', q1, q2, q3⟩ := ih F (a + 1) _ (CT_fr h (hf.1 1 1 (by omega)) (fun k => hf.1 2 k (by omega))) (u_eq _ _ _ _) ((hf.1 3 3 (by omega)).trans hw) (by omega) (by omega) (by omega) (by omega)
      refine ⟨s', ?_, q2, fun o k x => (q3.1 o k x).trans (hf.1 o k x), q3.2.trans hf.2⟩
      rw [← q1, f_X5_step_L163]
      simp (disch := omega) only [hn, ha, hw, hb, hk, n_i8, n_i16, n_0, n_31, n_add, n_sub, n_mul, n_neg, n_div, n_rem, n_le_t, n_le_f, n_lt_t, n_lt_f, n_eq_t, n_eq_f, n_cl, n_gd, n_gdt, n_nz, Int.reduceToNat, Int.reduceAdd, Int.reduceSub, Int.reduceMul, Int.reduceNeg, Int.reduceLT, Int.reduceLE, Int.reduceEq, Int.reduceDiv, Int.reduceMod, Nat.reduceAdd, Nat.reduceMul, ↓reduceIte, u_eq, u_no, u_nk, u_ek, u_2, u_3, j_1, j_3, j_eq, j_no, j_nk, ltd, bnd]
/-! the text of words -/
def wof : Nat → Int
  | 0 => 0
  | k + 1 => wof k + (WDl k).length + 1
theorem wb_len : Int32.ofNat sm_wb.length >>> ((0 : Int32) &&& 31) = Int32.ofInt (wof 39) := by decide +kernel
theorem wb_n : sm_wb.length = (wof 39).toNat := by decide +kernel
theorem wof_39 : wof 39 = 198 := by decide +kernel
theorem wb_L (s : ST) : f_J0_length_8abf5 s = some (Int32.ofInt (wof 39), s) := by
  unfold f_J0_length_8abf5
  rw [wb_len]
set_option maxRecDepth 100000 in
theorem wb_ch : ∀ k : Nat, k < 39 → ∀ j : Nat, j < (WDl k).length → sm_ch (Int32.ofInt (wof k + (j : Int))) = Int32.ofInt ((WDl k).getD j 0) := by decide +kernel
set_option maxRecDepth 100000 in
theorem wb_bl : ∀ k : Nat, k < 39 → sm_ch (Int32.ofInt (wof k + ((WDl k).length : Int))) = Int32.ofInt 32 := by decide +kernel
theorem wof_b : ∀ k : Nat, k < 39 → 0 ≤ wof k ∧ wof k + (WDl k).length + 1 ≤ wof 39 ∧ (WDl k).length ≤ 6 ∧ ∀ v ∈ WDl k, 97 ≤ v ∧ v ≤ 122 := by decide +kernel
theorem wb_mono : ∀ k : Nat, k < 39 → wof (k + 1) = wof k + (WDl k).length + 1 := fun _ _ => rfl
/-- a letter has been otherwise: to the next word -/
theorem c_wn_0 {f : Int} {s : ST} (hf : s.1 3 1 = Int32.ofInt f) {k : Nat} (hk : k < 39) (x2 : Int32) : ∀ (m F : Nat) (j : Nat), m + j = (WDl k).length → m < F → f_X5_numberOfWord_L12 F (Int32.ofInt (k : Int)) x2 (Int32.ofInt 0) (Int32.ofInt (wof k + (j : Int))) s = f_X5_numberOfWord_L12 (F - (m + 1)) (Int32.ofInt ((k : Int) + 1)) (Int32.ofInt f) (Int32.ofInt 1) (Int32.ofInt (wof (k + 1))) s := by
  obtain ⟨b0, b1, b2, b3⟩ := wof_b k hk
  have e39 := wof_39
  intro m
  induction m with
  | zero =>
    intro F j hm hF
    obtain ⟨F, rfl⟩ : ∃ F', F = F' + 1 := ⟨F - 1, by omega⟩
    have hc := wb_bl k hk
    have hj : j = (WDl k).length := by omega
    rw [hj, wb_mono k hk, show F + 1 - (0 + 1) = F by omega, f_X5_numberOfWord_L12]
    simp (disch := omega) only [wb_L, f_J0_charAt_5068e, f_X5_numberOfWord_j52, wb_n, hc, hf, n_i8, n_i16, n_0, n_31, n_add, n_sub, n_mul, n_neg, n_div, n_rem, n_le_t, n_le_f, n_lt_t, n_lt_f, n_eq_t, n_eq_f, n_cl, n_gd, n_gdt, n_nz, Int.reduceToNat, Int.reduceAdd, Int.reduceSub, Int.reduceMul, Int.reduceNeg, Int.reduceLT, Int.reduceLE, Int.reduceEq, Int.reduceDiv, Int.reduceMod, Nat.reduceAdd, Nat.reduceMul, ↓reduceIte, u_eq, u_no, u_nk, u_ek, u_2, u_3, j_1, j_3, j_eq, j_no, j_nk, ltd, bnd]
  | succ m ih =>
    intro F j hm hF
    obtain ⟨F, rfl⟩ : ∃ F', F = F' + 1 := ⟨F - 1, by omega⟩
    have hjl : j < (WDl k).length := by omega
    have hc := wb_ch k hk j hjl
    have hv : 97 ≤ (WDl k).getD j 0 ∧ (WDl k).getD j 0 ≤ 122 := by
      rw [List.getD_eq_getElem?_getD, List.getElem?_eq_getElem hjl]
      exact b3 _ (List.getElem_mem hjl)
    generalize (WDl k).getD j 0 = v at *
    have ih := ih F (j + 1) (by omega) (by omega)
    rw [show F + 1 - (m + 1 + 1) = F - (m + 1) by omega, ← ih, f_X5_numberOfWord_L12, show wof k + ((j + 1 : Nat) : Int) = wof k + (j : Int) + 1 by omega]
    simp (disch := omega) only [wb_L, f_J0_charAt_5068e, f_X5_numberOfWord_j52, wb_n, hc, hf, n_i8, n_i16, n_0, n_31, n_add, n_sub, n_mul, n_neg, n_div, n_rem, n_le_t, n_le_f, n_lt_t, n_lt_f, n_eq_t, n_eq_f, n_cl, n_gd, n_gdt, n_nz, Int.reduceToNat, Int.reduceAdd, Int.reduceSub, Int.reduceMul, Int.reduceNeg, Int.reduceLT, Int.reduceLE, Int.reduceEq, Int.reduceDiv, Int.reduceMod, Nat.reduceAdd, Nat.reduceMul, ↓reduceIte, u_eq, u_no, u_nk, u_ek, u_2, u_3, j_1, j_3, j_eq, j_no, j_nk, ltd, bnd]
theorem c_wn_1 {T : Int → Int} {n f e : Int} {s : ST} (h : CT T n s) (hf : s.1 3 1 = Int32.ofInt f) (he : s.1 3 2 = Int32.ofInt e) (f0 : 0 ≤ f) (fe : f ≤ e) (en : e ≤ n) {k : Nat} (hk : k < 39) : ∀ (m F : Nat) (j : Nat), m + j = (WDl k).length → m < F → f + j ≤ e → f_X5_numberOfWord_L12 F (Int32.ofInt (k : Int)) (Int32.ofInt (f + j)) (Int32.ofInt 1) (Int32.ofInt (wof k + (j : Int))) s = if wl T (f + j) (e - (f + j)).toNat = (WDl k).drop j then some (Int32.ofInt (k : Int), s) else f_X5_numberOfWord_L12 (F - (m + 1)) (Int32.ofInt ((k : Int) + 1)) (Int32.ofInt f) (Int32.ofInt 1) (Int32.ofInt (wof (k + 1))) s := by
  obtain ⟨b0, b1, b2, b3⟩ := wof_b k hk
  have e39 := wof_39
  have hnb := h.2.1
  intro m
  induction m with
  | zero =>
    intro F j hm hF hje
    obtain ⟨F, rfl⟩ : ∃ F', F = F' + 1 := ⟨F - 1, by omega⟩
    have hc := wb_bl k hk
    have hj : j = (WDl k).length := by omega
    rw [List.drop_of_length_le (by omega)]
    by_cases x : f + j = e
    · rw [show (e - (f + j)).toNat = 0 by omega, if_pos (show wl T (f + j) 0 = [] from rfl), hj]
      rw [hj] at x
      simp (disch := omega) only [f_X5_numberOfWord_L12, wb_L, f_J0_charAt_5068e, wb_n, hc, hf, he, n_i8, n_i16, n_0, n_31, n_add, n_sub, n_mul, n_neg, n_div, n_rem, n_le_t, n_le_f, n_lt_t, n_lt_f, n_eq_t, n_eq_f, n_cl, n_gd, n_gdt, n_nz, Int.reduceToNat, Int.reduceAdd, Int.reduceSub, Int.reduceMul, Int.reduceNeg, Int.reduceLT, Int.reduceLE, Int.reduceEq, Int.reduceDiv, Int.reduceMod, Nat.reduceAdd, Nat.reduceMul, ↓reduceIte, u_eq, u_no, u_nk, u_ek, u_2, u_3, j_1, j_3, j_eq, j_no, j_nk, ltd, bnd]
    · rw [if_neg (wl_nl (by rw [List.length_nil]; omega)), hj, wb_mono k hk, show F + 1 - (0 + 1) = F by omega, f_X5_numberOfWord_L12]
      rw [hj] at x hje
      simp (disch := omega) only [wb_L, f_J0_charAt_5068e, f_X5_numberOfWord_j52, wb_n, hc, hf, he, n_i8, n_i16, n_0, n_31, n_add, n_sub, n_mul, n_neg, n_div, n_rem, n_le_t, n_le_f, n_lt_t, n_lt_f, n_eq_t, n_eq_f, n_cl, n_gd, n_gdt, n_nz, Int.reduceToNat, Int.reduceAdd, Int.reduceSub, Int.reduceMul, Int.reduceNeg, Int.reduceLT, Int.reduceLE, Int.reduceEq, Int.reduceDiv, Int.reduceMod, Nat.reduceAdd, Nat.reduceMul, ↓reduceIte, u_eq, u_no, u_nk, u_ek, u_2, u_3, j_1, j_3, j_eq, j_no, j_nk, ltd, bnd]
  | succ m ih =>
    intro F j hm hF hje
    obtain ⟨F, rfl⟩ : ∃ F', F = F' + 1 := ⟨F - 1, by omega⟩
    have hjl : j < (WDl k).length := by omega
    have hc := wb_ch k hk j hjl
    have hg : (WDl k).getD j 0 = (WDl k)[j] := by rw [List.getD_eq_getElem?_getD, List.getElem?_eq_getElem hjl]; rfl
    have hv : 97 ≤ (WDl k)[j] ∧ (WDl k)[j] ≤ 122 := b3 _ (List.getElem_mem hjl)
    rw [hg] at hc
    rw [List.drop_eq_getElem_cons hjl]
    generalize (WDl k)[j] = v at *
    have ih := ih F (j + 1) (by omega) (by omega)
    have h0 := c_wn_0 hf hk (Int32.ofInt (f + j + 1)) m F (j + 1) (by omega) (by omega)
    rw [show wof k + ((j + 1 : Nat) : Int) = wof k + (j : Int) + 1 by omega] at ih h0
    rw [show f + ((j + 1 : Nat) : Int) = f + j + 1 by omega] at ih
    rw [show F + 1 - (m + 1 + 1) = F - (m + 1) by omega]
    by_cases x : f + j = e
    · rw [show (e - (f + j)).toNat = 0 by omega, if_neg (show ¬ wl T (f + j) 0 = v :: (WDl k).drop (j + 1) from fun y => by cases y)]
      rw [← h0, f_X5_numberOfWord_L12]
      simp (disch := omega) only [wb_L, f_J0_charAt_5068e, f_X5_numberOfWord_j107, wb_n, hc, hf, he, n_i8, n_i16, n_0, n_31, n_add, n_sub, n_mul, n_neg, n_div, n_rem, n_le_t, n_le_f, n_lt_t, n_lt_f, n_eq_t, n_eq_f, n_cl, n_gd, n_gdt, n_nz, Int.reduceToNat, Int.reduceAdd, Int.reduceSub, Int.reduceMul, Int.reduceNeg, Int.reduceLT, Int.reduceLE, Int.reduceEq, Int.reduceDiv, Int.reduceMod, Nat.reduceAdd, Nat.reduceMul, ↓reduceIte, u_eq, u_no, u_nk, u_ek, u_2, u_3, j_1, j_3, j_eq, j_no, j_nk, ltd, bnd]
    · obtain ⟨t1, t2, t3⟩ := h.2.2 (f + j) (by omega) (by omega)
      have hw1 : wl T (f + j) (e - (f + j)).toNat = T (f + j) :: wl T (f + j + 1) (e - (f + j + 1)).toNat := by
        rw [show (e - (f + j)).toNat = (e - (f + j + 1)).toNat + 1 by omega]
        rfl
      rw [hw1]
      by_cases y : T (f + j) = v
      · have e2 : (T (f + j) :: wl T (f + j + 1) (e - (f + j + 1)).toNat = v :: (WDl k).drop (j + 1)) = (wl T (f + j + 1) (e - (f + j + 1)).toNat = (WDl k).drop (j + 1)) := propext ⟨fun x => (List.cons.inj x).2, fun x => by rw [y, x]⟩
        have hsx : sx8 (T (f + j)) = v := by unfold sx8; rw [if_pos (by omega)]; exact y
        rw [hsx] at t1
        simp only [e2]
        rw [← ih (by omega), f_X5_numberOfWord_L12]
        simp (disch := omega) only [wb_L, f_J0_charAt_5068e, on1600, wb_n, hc, hf, he, t1, n_i8, n_i16, n_0, n_31, n_add, n_sub, n_mul, n_neg, n_div, n_rem, n_le_t, n_le_f, n_lt_t, n_lt_f, n_eq_t, n_eq_f, n_cl, n_gd, n_gdt, n_nz, Int.reduceToNat, Int.reduceAdd, Int.reduceSub, Int.reduceMul, Int.reduceNeg, Int.reduceLT, Int.reduceLE, Int.reduceEq, Int.reduceDiv, Int.reduceMod, Nat.reduceAdd, Nat.reduceMul, ↓reduceIte, u_eq, u_no, u_nk, u_ek, u_2, u_3, j_1, j_3, j_eq, j_no, j_nk, ltd, bnd]
      · rw [if_neg (fun x => y (List.cons.inj x).1)]
        have hsx : ¬ sx8 (T (f + j)) = v := by unfold sx8; split <;> omega
        have hsb : -128 ≤ sx8 (T (f + j)) ∧ sx8 (T (f + j)) ≤ 127 := by unfold sx8; split <;> omega
        rw [← h0, f_X5_numberOfWord_L12]
        simp (disch := omega) only [wb_L, f_J0_charAt_5068e, f_X5_numberOfWord_j107, on1600, wb_n, hc, hf, he, t1, n_i8, n_i16, n_0, n_31, n_add, n_sub, n_mul, n_neg, n_div, n_rem, n_le_t, n_le_f, n_lt_t, n_lt_f, n_eq_t, n_eq_f, n_cl, n_gd, n_gdt, n_nz, Int.reduceToNat, Int.reduceAdd, Int.reduceSub, Int.reduceMul, Int.reduceNeg, Int.reduceLT, Int.reduceLE, Int.reduceEq, Int.reduceDiv, Int.reduceMod, Nat.reduceAdd, Nat.reduceMul, ↓reduceIte, u_eq, u_no, u_nk, u_ek, u_2, u_3, j_1, j_3, j_eq, j_no, j_nk, ltd, bnd]
theorem c_wn {T : Int → Int} {n f e : Int} {s : ST} (h : CT T n s) (hf : s.1 3 1 = Int32.ofInt f) (he : s.1 3 2 = Int32.ofInt e) (f0 : 0 ≤ f) (fe : f ≤ e) (en : e ≤ n) : ∀ (m F : Nat) (k : Nat), m + k = 39 → 198 + m * 10 < F + wof k → f_X5_numberOfWord_L12 F (Int32.ofInt (k : Int)) (Int32.ofInt f) (Int32.ofInt 1) (Int32.ofInt (wof k)) s = some (Int32.ofInt (ixo (wl T f (e - f).toNat) (WD.drop k) (k : Int)), s) := by
  have e39 := wof_39
  intro m
  induction m with
  | zero =>
    intro F k hk hF
    have hk : k = 39 := by omega
    subst hk
    obtain ⟨F, rfl⟩ : ∃ F', F = F' + 1 := ⟨F - 1, by omega⟩
    have : WD.drop 39 = [] := rfl
    rw [this]
    show _ = some (Int32.ofInt (-1), s)
    simp (disch := omega) only [f_X5_numberOfWord_L12, wb_L, n_i8, n_i16, n_0, n_31, n_add, n_sub, n_mul, n_neg, n_div, n_rem, n_le_t, n_le_f, n_lt_t, n_lt_f, n_eq_t, n_eq_f, n_cl, n_gd, n_gdt, n_nz, Int.reduceToNat, Int.reduceAdd, Int.reduceSub, Int.reduceMul, Int.reduceNeg, Int.reduceLT, Int.reduceLE, Int.reduceEq, Int.reduceDiv, Int.reduceMod, Nat.reduceAdd, Nat.reduceMul, ↓reduceIte, u_eq, u_no, u_nk, u_ek, u_2, u_3, j_1, j_3, j_eq, j_no, j_nk, ltd, bnd]
  | succ m ih =>
    intro F k hk hF
    obtain ⟨b0, b1, b2, b3⟩ := wof_b k (by omega)
    have h1 := c_wn_1 h hf he f0 fe en (k := k) (by omega) (WDl k).length F 0 (by omega) (by omega) (by omega)
    rw [show f + ((0 : Nat) : Int) = f by omega, show wof k + ((0 : Nat) : Int) = wof k by omega, List.drop_zero] at h1
    rw [h1]
    have hd : WD.drop k = WDl k :: WD.drop (k + 1) := by
      have hkl : k < WD.length := by have : WD.length = 39 := rfl; omega
      rw [List.drop_eq_getElem_cons hkl]
      unfold WDl
      rw [List.getD_eq_getElem?_getD, List.getElem?_eq_getElem hkl]
      rfl
    rw [hd]
    show _ = some (Int32.ofInt (if wl T f (e - f).toNat = WDl k then (k : Int) else ixo (wl T f (e - f).toNat) (WD.drop (k + 1)) ((k : Int) + 1)), s)
    by_cases x : wl T f (e - f).toNat = WDl k
    · rw [if_pos x, if_pos x]
    · rw [if_neg x, if_neg x]
      exact ih (F - ((WDl k).length + 1)) (k + 1) (by omega) (by rw [wb_mono k (by omega)]; omega)
theorem c_nwd {T : Int → Int} {n f e : Int} {s : ST} (h : CT T n s) (hf : s.1 3 1 = Int32.ofInt f) (he : s.1 3 2 = Int32.ofInt e) (f0 : 0 ≤ f) (fe : f ≤ e) (en : e ≤ n) : f_X5_numberOfWord s = some (Int32.ofInt (ixo (wl T f (e - f).toNat) WD 0), s) := by
  have h1 := c_wn h hf he f0 fe en 39 fuel 0 (by omega) (by unfold fuel; have : wof 0 = 0 := rfl; omega)
  have e1 : f_X5_numberOfWord s = f_X5_numberOfWord_L12 fuel (Int32.ofInt 0) (s.1 3 1) (Int32.ofInt 1) (Int32.ofInt 0) s := rfl
  rw [e1, hf]
  exact h1
/-- to what stands behind b -/
theorem c_st29 {T : Int → Int} {n b : Int} {fl : Bool} {s : ST} (h : CT T n s) (hb : s.1 3 2 = Int32.ofInt b) (b0 : 0 ≤ b) (b1 : b ≤ n) (h5 : s.1 3 5 = Int32.ofInt 0) (h6 : s.1 3 6 = Int32.ofInt (-1)) : ∃ s', f_X5_step_j29 (bI fl) s = some s' ∧ CC T n (b, fl) s' ∧ CFr s s' := by
  have hn := h.1
  have hnb := h.2.1
  have hf0 : C1f 1 s (uI s 3 1 (Int32.ofInt b)) := ⟨fun o k x => by (simp only [ua, ja, u_2, u_3, j_1, j_3]; (repeat' split) <;> first | rfl | (exfalso; omega)), rfl⟩
  have hCT0 := CT_fr h (hf0.1 1 1 (by omega)) (fun k => hf0.1 2 k (by omega))
  obtain ⟨s1, q1, q2, q3⟩ := c_skip_L f_X5_step_j82 (bI fl) (n - b).toNat fuel b (uI s 3 1 (Int32.ofInt b)) hCT0 (u_eq _ _ _ _) b0 b1 rfl (by unfold fuel; omega)
  have e1 : f_X5_step_j29 (bI fl) s = f_X5_step_j82 (bI fl) s1 := by
    rw [← q1]
    simp only [f_X5_step_j29, ltd, hb]
  have efr : sk isBk T n b = frm T n (b, fl) := rfl
  rw [efr] at q2
  have hCT1 := CT_fr hCT0 (q3.1 1 1 (by omega)) (fun k => q3.1 2 k (by omega))
  have hn1 := hCT1.1
  have hb1 : s1.1 3 2 = Int32.ofInt b := (q3.1 3 2 (by omega)).trans ((hf0.1 3 2 (by omega)).trans hb)
  obtain ⟨fb1, fb2⟩ := frm_b (T := T) (n := n) (c := (b, fl)) b0 b1
  have fb1 : b ≤ frm T n (b, fl) := fb1
  have e2 : f_X5_step_j82 (bI fl) s1 = f_X5_step_j102 (bI (adj T n (b, fl))) s1 := by
    cases fl with
    | false =>
      have : adj T n (b, false) = false := rfl
      rw [this]
      simp (disch := omega) only [f_X5_step_j82, f_X5_step_j101, bI_f, n_i8, n_i16, n_0, n_31, n_add, n_sub, n_mul, n_neg, n_div, n_rem, n_le_t, n_le_f, n_lt_t, n_lt_f, n_eq_t, n_eq_f, n_cl, n_gd, n_gdt, n_nz, Int.reduceToNat, Int.reduceAdd, Int.reduceSub, Int.reduceMul, Int.reduceNeg, Int.reduceLT, Int.reduceLE, Int.reduceEq, Int.reduceDiv, Int.reduceMod, Nat.reduceAdd, Nat.reduceMul, ↓reduceIte, u_eq, u_no, u_nk, u_ek, u_2, u_3, j_1, j_3, j_eq, j_no, j_nk, ltd, bnd]
    | true =>
      have ea : adj T n (b, true) = decide (frm T n (b, true) = b) := rfl
      rw [ea]
      by_cases x : frm T n (b, true) = b
      · rw [decide_eq_true x]
        simp (disch := omega) only [f_X5_step_j82, f_X5_step_j101, q2, hb1, bI_t, n_i8, n_i16, n_0, n_31, n_add, n_sub, n_mul, n_neg, n_div, n_rem, n_le_t, n_le_f, n_lt_t, n_lt_f, n_eq_t, n_eq_f, n_cl, n_gd, n_gdt, n_nz, Int.reduceToNat, Int.reduceAdd, Int.reduceSub, Int.reduceMul, Int.reduceNeg, Int.reduceLT, Int.reduceLE, Int.reduceEq, Int.reduceDiv, Int.reduceMod, Nat.reduceAdd, Nat.reduceMul, ↓reduceIte, u_eq, u_no, u_nk, u_ek, u_2, u_3, j_1, j_3, j_eq, j_no, j_nk, ltd, bnd]
      · rw [decide_eq_false x]
        simp (disch := omega) only [f_X5_step_j82, f_X5_step_j101, q2, hb1, bI_t, bI_f, n_i8, n_i16, n_0, n_31, n_add, n_sub, n_mul, n_neg, n_div, n_rem, n_le_t, n_le_f, n_lt_t, n_lt_f, n_eq_t, n_eq_f, n_cl, n_gd, n_gdt, n_nz, Int.reduceToNat, Int.reduceAdd, Int.reduceSub, Int.reduceMul, Int.reduceNeg, Int.reduceLT, Int.reduceLE, Int.reduceEq, Int.reduceDiv, Int.reduceMod, Nat.reduceAdd, Nat.reduceMul, ↓reduceIte, u_eq, u_no, u_nk, u_ek, u_2, u_3, j_1, j_3, j_eq, j_no, j_nk, ltd, bnd]
  rw [e1, e2]
  have h51 : s1.1 3 5 = Int32.ofInt 0 := (q3.1 3 5 (by omega)).trans ((hf0.1 3 5 (by omega)).trans h5)
  have h61 : s1.1 3 6 = Int32.ofInt (-1) := (q3.1 3 6 (by omega)).trans ((hf0.1 3 6 (by omega)).trans h6)
  have hF1 : CFr s s1 := hf0.cf.tr q3.cf
  clear e1 e2 hf0 hCT0 q1 q3
  generalize hc : ((b, fl) : Cur) = c at *
  have hc1 : c.1 = b := by rw [← hc]
  -- the sort w, the first place behind it v
  have key : ∀ (w v e : Int) (s2 : ST), w = (if frm T n c < n then sv (T (frm T n c)) else 0) → e = beh T n c → (w = 0 → v = e) → (∃ s3, f_X5_step_L163 f_X5_step_j219 fuel (bI (adj T n c)) (uI (uI s1 3 3 (Int32.ofInt w)) 3 2 (Int32.ofInt v)) = f_X5_step_j219 (bI (adj T n c)) s3 ∧ s3.1 3 2 = Int32.ofInt e ∧ C1f 2 (uI (uI s1 3 3 (Int32.ofInt w)) 3 2 (Int32.ofInt v)) s3) → ∃ s', f_X5_step_L163 f_X5_step_j219 fuel (bI (adj T n c)) (uI (uI s1 3 3 (Int32.ofInt w)) 3 2 (Int32.ofInt v)) = some s' ∧ CC T n c s' ∧ CFr s s' := by
    intro w v e _ hw he _ hx
    obtain ⟨s3, x1, x2, x3⟩ := hx
    rw [x1]
    have hsb := sv_b (T (frm T n c))
    have f3 : ∀ o k : Nat, ¬ (o = 3 ∧ (k = 2 ∨ k = 3)) → s3.1 o k = s1.1 o k := fun o k y => (x3.1 o k (by omega)).trans (by (simp only [ua, ja, u_2, u_3, j_1, j_3]; (repeat' split) <;> first | rfl | (exfalso; omega)))
    have f32 : s3.2 = s1.2 := x3.2
    have h33 : s3.1 3 3 = Int32.ofInt w := (x3.1 3 3 (by omega)).trans (by rw [u_nk (by omega), u_eq])
    have h31 : s3.1 3 1 = Int32.ofInt (frm T n c) := (f3 3 1 (by omega)).trans q2
    have hCT3 := CT_fr hCT1 (f3 1 1 (by omega)) (fun k => f3 2 k (by omega))
    have hF3 : CFr s s3 := hF1.tr ⟨fun o k y => f3 o k (by omega), f32⟩
    have h35 := (f3 3 5 (by omega)).trans h51
    have h36 := (f3 3 6 (by omega)).trans h61
    -- the word's number y
    have fin : ∀ y : Int, (srt T n c = 1 → y = wix T n c) → ∃ s', f_X5_step_j236 (bI (adj T n c)) (Int32.ofInt y) s3 = some s' ∧ CC T n c s' ∧ CFr s s' := by
      intro y hy
      have hf4 : C1f 4 s3 (uI s3 3 4 (Int32.ofInt y)) := ⟨fun o k x => by (simp only [ua, ja, u_2, u_3, j_1, j_3]; (repeat' split) <;> first | rfl | (exfalso; omega)), rfl⟩
      have mk : ∀ s4 : ST, (∀ o k : Nat, ¬ (o = 3 ∧ (k = 3 ∨ k = 4)) → s4.1 o k = s3.1 o k) → s4.2 = s3.2 → s4.1 3 4 = Int32.ofInt y → s4.1 3 3 = Int32.ofInt (srt T n c) → CC T n c s4 ∧ CFr s s4 := by
        intro s4 g1 g2 g3 g4
        refine ⟨⟨CT_fr hCT3 (g1 1 1 (by omega)) (fun k => g1 2 k (by omega)), ⟨by omega, by omega⟩, (g1 3 1 (by omega)).trans h31, (g1 3 2 (by omega)).trans (by rw [x2, he]), g4, fun z => by rw [g3, hy z], (g1 3 5 (by omega)).trans h35, (g1 3 6 (by omega)).trans h36⟩, hF3.tr ⟨fun o k z => g1 o k (by omega), g2⟩⟩
      by_cases ea : adj T n c = true ∧ (w = 1 ∨ w = 2)
      · obtain ⟨ea, ew⟩ := ea
        have es : srt T n c = 4 := by
          unfold srt
          by_cases z : frm T n c < n
          · rw [if_pos z] at hw ⊢
            rw [if_pos ⟨ea, by omega⟩]
          · rw [if_neg z] at hw; omega
        refine ⟨uI (uI s3 3 4 (Int32.ofInt y)) 3 3 (Int32.ofInt 4), ?_, mk _ (fun o k z => by (simp only [ua, ja, u_2, u_3, j_1, j_3]; (repeat' split) <;> first | rfl | (exfalso; omega))) rfl (by rw [u_nk (by omega), u_eq]) (by rw [u_eq, es])⟩
        rw [ea]
        rcases ew with ew | ew
        · subst ew
          simp (disch := omega) only [f_X5_step_j236, f_X5_step_j259, h33, bI_t, n_i8, n_i16, n_0, n_31, n_add, n_sub, n_mul, n_neg, n_div, n_rem, n_le_t, n_le_f, n_lt_t, n_lt_f, n_eq_t, n_eq_f, n_cl, n_gd, n_gdt, n_nz, Int.reduceToNat, Int.reduceAdd, Int.reduceSub, Int.reduceMul, Int.reduceNeg, Int.reduceLT, Int.reduceLE, Int.reduceEq, Int.reduceDiv, Int.reduceMod, Nat.reduceAdd, Nat.reduceMul, ↓reduceIte, u_eq, u_no, u_nk, u_ek, u_2, u_3, j_1, j_3, j_eq, j_no, j_nk, ltd, bnd]
        · subst ew
          simp (disch := omega) only [f_X5_step_j236, f_X5_step_j259, h33, bI_t, n_i8, n_i16, n_0, n_31, n_add, n_sub, n_mul, n_neg, n_div, n_rem, n_le_t, n_le_f, n_lt_t, n_lt_f, n_eq_t, n_eq_f, n_cl, n_gd, n_gdt, n_nz, Int.reduceToNat, Int.reduceAdd, Int.reduceSub, Int.reduceMul, Int.reduceNeg, Int.reduceLT, Int.reduceLE, Int.reduceEq, Int.reduceDiv, Int.reduceMod, Nat.reduceAdd, Nat.reduceMul, ↓reduceIte, u_eq, u_no, u_nk, u_ek, u_2, u_3, j_1, j_3, j_eq, j_no, j_nk, ltd, bnd]
      · have es : srt T n c = w := by
          unfold srt
          rw [hw]
          by_cases z : frm T n c < n
          · rw [if_pos z] at hw
            rw [if_pos z, if_pos z, if_neg (fun z2 => ea ⟨z2.1, by omega⟩)]
          · rw [if_neg z, if_neg z]
        refine ⟨uI s3 3 4 (Int32.ofInt y), ?_, mk _ (fun o k z => by (simp only [ua, ja, u_2, u_3, j_1, j_3]; (repeat' split) <;> first | rfl | (exfalso; omega))) rfl (u_eq _ _ _ _) (by rw [u_nk (by omega), h33, es])⟩
        have hwb : 0 ≤ w ∧ w ≤ 3 := by rw [hw]; split <;> omega
        cases ead : adj T n c with
        | false => simp (disch := omega) only [f_X5_step_j236, bI_f, n_i8, n_i16, n_0, n_31, n_add, n_sub, n_mul, n_neg, n_div, n_rem, n_le_t, n_le_f, n_lt_t, n_lt_f, n_eq_t, n_eq_f, n_cl, n_gd, n_gdt, n_nz, Int.reduceToNat, Int.reduceAdd, Int.reduceSub, Int.reduceMul, Int.reduceNeg, Int.reduceLT, Int.reduceLE, Int.reduceEq, Int.reduceDiv, Int.reduceMod, Nat.reduceAdd, Nat.reduceMul, ↓reduceIte, u_eq, u_no, u_nk, u_ek, u_2, u_3, j_1, j_3, j_eq, j_no, j_nk, ltd, bnd]
        | true =>
          have : ¬ w = 1 := fun z => ea ⟨ead, Or.inl z⟩
          have : ¬ w = 2 := fun z => ea ⟨ead, Or.inr z⟩
          simp (disch := omega) only [f_X5_step_j236, h33, bI_t, n_i8, n_i16, n_0, n_31, n_add, n_sub, n_mul, n_neg, n_div, n_rem, n_le_t, n_le_f, n_lt_t, n_lt_f, n_eq_t, n_eq_f, n_cl, n_gd, n_gdt, n_nz, Int.reduceToNat, Int.reduceAdd, Int.reduceSub, Int.reduceMul, Int.reduceNeg, Int.reduceLT, Int.reduceLE, Int.reduceEq, Int.reduceDiv, Int.reduceMod, Nat.reduceAdd, Nat.reduceMul, ↓reduceIte, u_eq, u_no, u_nk, u_ek, u_2, u_3, j_1, j_3, j_eq, j_no, j_nk, ltd, bnd]
    have hwb : 0 ≤ w ∧ w ≤ 3 := by rw [hw]; split <;> omega
    by_cases e1 : w = 1
    · have hfn : frm T n c < n := by
        rw [hw] at e1
        split at e1
        · assumption
        · omega
      rw [if_pos hfn] at hw
      have hbe : e = sk isL T n (frm T n c) := by
        rw [he]; unfold beh; rw [if_pos hfn, if_pos (by omega)]
      obtain ⟨sb1, sb2, -, -⟩ := sk_b (p := isL) (T := T) (n := n) _ (frm T n c) rfl
      have hwn := c_nwd hCT3 h31 x2 (by omega) (by omega) (by have := sb2 fb2; omega)
      obtain ⟨s', y1, y2⟩ := fin (ixo (wl T (frm T n c) (e - frm T n c).toNat) WD 0) (fun _ => by rw [hbe]; rfl)
      refine ⟨s', ?_, y2⟩
      rw [← y1]
      subst e1
      simp (disch := omega) only [f_X5_step_j219, h33, hwn, n_i8, n_i16, n_0, n_31, n_add, n_sub, n_mul, n_neg, n_div, n_rem, n_le_t, n_le_f, n_lt_t, n_lt_f, n_eq_t, n_eq_f, n_cl, n_gd, n_gdt, n_nz, Int.reduceToNat, Int.reduceAdd, Int.reduceSub, Int.reduceMul, Int.reduceNeg, Int.reduceLT, Int.reduceLE, Int.reduceEq, Int.reduceDiv, Int.reduceMod, Nat.reduceAdd, Nat.reduceMul, ↓reduceIte, u_eq, u_no, u_nk, u_ek, u_2, u_3, j_1, j_3, j_eq, j_no, j_nk, ltd, bnd]
    · obtain ⟨s', y1, y2⟩ := fin (-1) (fun z => by
        exfalso
        unfold srt at z
        by_cases zz : frm T n c < n
        · rw [if_pos zz] at z hw
          split at z <;> omega
        · rw [if_neg zz] at z; omega)
      refine ⟨s', ?_, y2⟩
      rw [← y1]
      simp (disch := omega) only [f_X5_step_j219, h33, n_i8, n_i16, n_0, n_31, n_add, n_sub, n_mul, n_neg, n_div, n_rem, n_le_t, n_le_f, n_lt_t, n_lt_f, n_eq_t, n_eq_f, n_cl, n_gd, n_gdt, n_nz, Int.reduceToNat, Int.reduceAdd, Int.reduceSub, Int.reduceMul, Int.reduceNeg, Int.reduceLT, Int.reduceLE, Int.reduceEq, Int.reduceDiv, Int.reduceMod, Nat.reduceAdd, Nat.reduceMul, ↓reduceIte, u_eq, u_no, u_nk, u_ek, u_2, u_3, j_1, j_3, j_eq, j_no, j_nk, ltd, bnd]
  by_cases ef : frm T n c < n
  · have hby := c_byteAt hCT1 (k := frm T n c) (by omega) ef
    obtain ⟨-, t0, t1⟩ := hCT1.2.2 (frm T n c) (by omega) ef
    have hso := c_sort t0 t1 s1
    have hsb := sv_b (T (frm T n c))
    have e3 : f_X5_step_j102 (bI (adj T n c)) s1 = f_X5_step_L163 f_X5_step_j219 fuel (bI (adj T n c)) (uI (uI s1 3 3 (Int32.ofInt (sv (T (frm T n c))))) 3 2 (Int32.ofInt (frm T n c + 1))) := by
      simp (disch := omega) only [f_X5_step_j102, f_X5_step_j136, f_X5_step_j160, hn1, q2, hby, hso, n_i8, n_i16, n_0, n_31, n_add, n_sub, n_mul, n_neg, n_div, n_rem, n_le_t, n_le_f, n_lt_t, n_lt_f, n_eq_t, n_eq_f, n_cl, n_gd, n_gdt, n_nz, Int.reduceToNat, Int.reduceAdd, Int.reduceSub, Int.reduceMul, Int.reduceNeg, Int.reduceLT, Int.reduceLE, Int.reduceEq, Int.reduceDiv, Int.reduceMod, Nat.reduceAdd, Nat.reduceMul, ↓reduceIte, u_eq, u_no, u_nk, u_ek, u_2, u_3, j_1, j_3, j_eq, j_no, j_nk, ltd, bnd]
    rw [e3]
    have f3 : ∀ o k : Nat, ¬ (o = 3 ∧ (k = 2 ∨ k = 3)) → (uI (uI s1 3 3 (Int32.ofInt (sv (T (frm T n c))))) 3 2 (Int32.ofInt (frm T n c + 1))).1 o k = s1.1 o k := fun o k y => by (simp only [ua, ja, u_2, u_3, j_1, j_3]; (repeat' split) <;> first | rfl | (exfalso; omega))
    have hCT2 := CT_fr hCT1 (f3 1 1 (by omega)) (fun k => f3 2 k (by omega))
    have h33 : (uI (uI s1 3 3 (Int32.ofInt (sv (T (frm T n c))))) 3 2 (Int32.ofInt (frm T n c + 1))).1 3 3 = Int32.ofInt (sv (T (frm T n c))) := by rw [u_nk (by omega), u_eq]
    refine key (sv (T (frm T n c))) (frm T n c + 1) (beh T n c) s1 (by rw [if_pos ef]) rfl (fun z => by omega) ?_
    unfold beh
    rw [if_pos ef]
    by_cases w1 : sv (T (frm T n c)) = 1
    · rw [if_pos w1, sk_t ef ((sv_i1 _).mp w1)]
      rw [w1] at hCT2 h33 ⊢
      exact c_run_L (p := isL) (w := 1) sv_i1 (by omega) (by omega) f_X5_step_j219 (bI (adj T n c)) (n - (frm T n c + 1)).toNat fuel (frm T n c + 1) _ hCT2 (u_eq _ _ _ _) h33 (by omega) (by omega) rfl (by unfold fuel; omega)
    · rw [if_neg w1]
      by_cases w2 : sv (T (frm T n c)) = 2
      · rw [if_pos w2, sk_t ef ((sv_i2 _).mp w2)]
        rw [w2] at hCT2 h33 ⊢
        exact c_run_L (p := isD) (w := 2) sv_i2 (by omega) (by omega) f_X5_step_j219 (bI (adj T n c)) (n - (frm T n c + 1)).toNat fuel (frm T n c + 1) _ hCT2 (u_eq _ _ _ _) h33 (by omega) (by omega) rfl (by unfold fuel; omega)
      · rw [if_neg w2]
        have w3 : sv (T (frm T n c)) = 3 := by omega
        rw [w3] at h33 ⊢
        obtain ⟨F, hF⟩ : ∃ F, fuel = F + 1 := ⟨99999, rfl⟩
        refine ⟨_, ?_, u_eq _ _ _ _, fun _ _ _ => rfl, rfl⟩
        rw [hF]
        simp (disch := omega) only [f_X5_step_L163, h33, n_i8, n_i16, n_0, n_31, n_add, n_sub, n_mul, n_neg, n_div, n_rem, n_le_t, n_le_f, n_lt_t, n_lt_f, n_eq_t, n_eq_f, n_cl, n_gd, n_gdt, n_nz, Int.reduceToNat, Int.reduceAdd, Int.reduceSub, Int.reduceMul, Int.reduceNeg, Int.reduceLT, Int.reduceLE, Int.reduceEq, Int.reduceDiv, Int.reduceMod, Nat.reduceAdd, Nat.reduceMul, ↓reduceIte, u_eq, u_no, u_nk, u_ek, u_2, u_3, j_1, j_3, j_eq, j_no, j_nk, ltd, bnd]
  · have hfn : frm T n c = n := by omega
    have e3 : f_X5_step_j102 (bI (adj T n c)) s1 = f_X5_step_L163 f_X5_step_j219 fuel (bI (adj T n c)) (uI (uI s1 3 3 (Int32.ofInt 0)) 3 2 (Int32.ofInt (frm T n c))) := by
      simp (disch := omega) only [f_X5_step_j102, f_X5_step_j136, f_X5_step_j160, hn1, q2, n_i8, n_i16, n_0, n_31, n_add, n_sub, n_mul, n_neg, n_div, n_rem, n_le_t, n_le_f, n_lt_t, n_lt_f, n_eq_t, n_eq_f, n_cl, n_gd, n_gdt, n_nz, Int.reduceToNat, Int.reduceAdd, Int.reduceSub, Int.reduceMul, Int.reduceNeg, Int.reduceLT, Int.reduceLE, Int.reduceEq, Int.reduceDiv, Int.reduceMod, Nat.reduceAdd, Nat.reduceMul, ↓reduceIte, u_eq, u_no, u_nk, u_ek, u_2, u_3, j_1, j_3, j_eq, j_no, j_nk, ltd, bnd]
    rw [e3]
    refine key 0 (frm T n c) (frm T n c) s1 (by rw [if_neg ef]) (by unfold beh; rw [if_neg ef]) (fun _ => rfl) ?_
    obtain ⟨F, hF⟩ : ∃ F, fuel = F + 1 := ⟨99999, rfl⟩
    refine ⟨_, ?_, u_eq _ _ _ _, fun _ _ _ => rfl, rfl⟩
    rw [hF]
    simp (disch := omega) only [f_X5_step_L163, hn1, n_i8, n_i16, n_0, n_31, n_add, n_sub, n_mul, n_neg, n_div, n_rem, n_le_t, n_le_f, n_lt_t, n_lt_f, n_eq_t, n_eq_f, n_cl, n_gd, n_gdt, n_nz, Int.reduceToNat, Int.reduceAdd, Int.reduceSub, Int.reduceMul, Int.reduceNeg, Int.reduceLT, Int.reduceLE, Int.reduceEq, Int.reduceDiv, Int.reduceMod, Nat.reduceAdd, Nat.reduceMul, ↓reduceIte, u_eq, u_no, u_nk, u_ek, u_2, u_3, j_1, j_3, j_eq, j_no, j_nk, ltd, bnd]
def nx (T : Int → Int) (n : Int) (c : Cur) : Cur := (beh T n c, decide (srt T n c = 1 ∨ srt T n c = 2))
theorem beh_b {T : Int → Int} {n : Int} {c : Cur} (c1 : c.1 ≤ n) : frm T n c ≤ beh T n c ∧ beh T n c ≤ n ∧ (frm T n c < n → frm T n c < beh T n c) := by
  obtain ⟨a1, a2, -, -⟩ := sk_b (p := isBk) (T := T) (n := n) _ c.1 rfl
  have a2 : frm T n c ≤ n := a2 c1
  unfold beh
  by_cases e : frm T n c < n
  · rw [if_pos e]
    split
    · rename_i w
      rw [sk_t e ((sv_i1 _).mp w)]
      obtain ⟨k1, k2, -, -⟩ := sk_b (p := isL) (T := T) (n := n) _ (frm T n c + 1) rfl
      have := k2 (by omega)
      omega
    · split
      · rename_i w
        rw [sk_t e ((sv_i2 _).mp w)]
        obtain ⟨k1, k2, -, -⟩ := sk_b (p := isD) (T := T) (n := n) _ (frm T n c + 1) rfl
        have := k2 (by omega)
        omega
      · omega
  · rw [if_neg e]
    omega
theorem c_step {T : Int → Int} {n : Int} {c : Cur} {s : ST} (h : CC T n c s) : ∃ s', f_X5_step s = some s' ∧ CC T n (nx T n c) s' ∧ CFr s s' := by
  obtain ⟨h1, ⟨h2, h2b⟩, h3, h4, h5, h6, h7, h8⟩ := h
  have hb := beh_b (T := T) h2b
  have hf := frm_b (T := T) h2 h2b
  have hsb := srt_b T n c
  obtain ⟨s', q1, q2, q3⟩ := c_st29 (fl := decide (srt T n c = 1 ∨ srt T n c = 2)) h1 h4 (by omega) (by omega) h7 h8
  refine ⟨s', ?_, q2, q3⟩
  rw [← q1]
  by_cases e1 : srt T n c = 1
  · rw [decide_eq_true (Or.inl e1)]
    simp (disch := omega) only [f_X5_step, h5, h7, bI_t, n_i8, n_i16, n_0, n_31, n_add, n_sub, n_mul, n_neg, n_div, n_rem, n_le_t, n_le_f, n_lt_t, n_lt_f, n_eq_t, n_eq_f, n_cl, n_gd, n_gdt, n_nz, Int.reduceToNat, Int.reduceAdd, Int.reduceSub, Int.reduceMul, Int.reduceNeg, Int.reduceLT, Int.reduceLE, Int.reduceEq, Int.reduceDiv, Int.reduceMod, Nat.reduceAdd, Nat.reduceMul, ↓reduceIte, u_eq, u_no, u_nk, u_ek, u_2, u_3, j_1, j_3, j_eq, j_no, j_nk, ltd, bnd]
  by_cases e2 : srt T n c = 2
  · rw [decide_eq_true (Or.inr e2)]
    simp (disch := omega) only [f_X5_step, h5, h7, bI_t, n_i8, n_i16, n_0, n_31, n_add, n_sub, n_mul, n_neg, n_div, n_rem, n_le_t, n_le_f, n_lt_t, n_lt_f, n_eq_t, n_eq_f, n_cl, n_gd, n_gdt, n_nz, Int.reduceToNat, Int.reduceAdd, Int.reduceSub, Int.reduceMul, Int.reduceNeg, Int.reduceLT, Int.reduceLE, Int.reduceEq, Int.reduceDiv, Int.reduceMod, Nat.reduceAdd, Nat.reduceMul, ↓reduceIte, u_eq, u_no, u_nk, u_ek, u_2, u_3, j_1, j_3, j_eq, j_no, j_nk, ltd, bnd]
  · rw [decide_eq_false (by omega)]
    simp (disch := omega) only [f_X5_step, h5, h7, bI_f, n_i8, n_i16, n_0, n_31, n_add, n_sub, n_mul, n_neg, n_div, n_rem, n_le_t, n_le_f, n_lt_t, n_lt_f, n_eq_t, n_eq_f, n_cl, n_gd, n_gdt, n_nz, Int.reduceToNat, Int.reduceAdd, Int.reduceSub, Int.reduceMul, Int.reduceNeg, Int.reduceLT, Int.reduceLE, Int.reduceEq, Int.reduceDiv, Int.reduceMod, Nat.reduceAdd, Nat.reduceMul, ↓reduceIte, u_eq, u_no, u_nk, u_ek, u_2, u_3, j_1, j_3, j_eq, j_no, j_nk, ltd, bnd]
theorem c_stepD {k p : Int} {s : ST} (h : CD k p s) : f_X5_step s = some s := by
  obtain ⟨h1, h2, h3, h4, h5⟩ := h
  simp (disch := omega) only [f_X5_step, h1, n_i8, n_i16, n_0, n_31, n_add, n_sub, n_mul, n_neg, n_div, n_rem, n_le_t, n_le_f, n_lt_t, n_lt_f, n_eq_t, n_eq_f, n_cl, n_gd, n_gdt, n_nz, Int.reduceToNat, Int.reduceAdd, Int.reduceSub, Int.reduceMul, Int.reduceNeg, Int.reduceLT, Int.reduceLE, Int.reduceEq, Int.reduceDiv, Int.reduceMod, Nat.reduceAdd, Nat.reduceMul, ↓reduceIte, u_eq, u_no, u_nk, u_ek, u_2, u_3, j_1, j_3, j_eq, j_no, j_nk, ltd, bnd]
theorem c_open {T : Int → Int} {n : Int} {s : ST} (h : CT T n s) : ∃ s', f_X5_open s = some s' ∧ CC T n (0, false) s' ∧ CFr s s' := by
  have hnb := h.2.1
  have hf : CFr s (uI (uI (uI (uI (uI s 3 1 (Int32.ofInt 0)) 3 2 (Int32.ofInt 0)) 3 3 (Int32.ofInt 0)) 3 5 (Int32.ofInt 0)) 3 6 (Int32.ofInt (-1))) := ⟨fun o k x => by (simp only [ua, ja, u_2, u_3, j_1, j_3]; (repeat' split) <;> first | rfl | (exfalso; omega)), rfl⟩
  have a2 : (uI (uI (uI (uI (uI s 3 1 (Int32.ofInt 0)) 3 2 (Int32.ofInt 0)) 3 3 (Int32.ofInt 0)) 3 5 (Int32.ofInt 0)) 3 6 (Int32.ofInt (-1))).1 3 2 = Int32.ofInt 0 := by rw [u_nk (by omega), u_nk (by omega), u_nk (by omega), u_eq]
  have a3 : (uI (uI (uI (uI (uI s 3 1 (Int32.ofInt 0)) 3 2 (Int32.ofInt 0)) 3 3 (Int32.ofInt 0)) 3 5 (Int32.ofInt 0)) 3 6 (Int32.ofInt (-1))).1 3 3 = Int32.ofInt 0 := by rw [u_nk (by omega), u_nk (by omega), u_eq]
  have a5 : (uI (uI (uI (uI (uI s 3 1 (Int32.ofInt 0)) 3 2 (Int32.ofInt 0)) 3 3 (Int32.ofInt 0)) 3 5 (Int32.ofInt 0)) 3 6 (Int32.ofInt (-1))).1 3 5 = Int32.ofInt 0 := by rw [u_nk (by omega), u_eq]
  obtain ⟨s', q1, q2, q3⟩ := c_st29 (fl := false) (CT_fr h (hf.1 1 1 (by omega)) (fun k => hf.1 2 k (by omega))) a2 (by omega) (by omega) a5 (u_eq _ _ _ _)
  refine ⟨s', ?_, q2, hf.tr q3⟩
  rw [← q1]
  unfold f_X5_open
  rw [ltd]
  generalize (uI (uI (uI (uI (uI s 3 1 (Int32.ofInt 0)) 3 2 (Int32.ofInt 0)) 3 3 (Int32.ofInt 0)) 3 5 (Int32.ofInt 0)) 3 6 (Int32.ofInt (-1))) = s0 at *
  have e : f_X5_step s0 = f_X5_step_j29 (bI false) s0 := by
    simp (disch := omega) only [f_X5_step, a3, a5, bI_f, n_i8, n_i16, n_0, n_31, n_add, n_sub, n_mul, n_neg, n_div, n_rem, n_le_t, n_le_f, n_lt_t, n_lt_f, n_eq_t, n_eq_f, n_cl, n_gd, n_gdt, n_nz, Int.reduceToNat, Int.reduceAdd, Int.reduceSub, Int.reduceMul, Int.reduceNeg, Int.reduceLT, Int.reduceLE, Int.reduceEq, Int.reduceDiv, Int.reduceMod, Nat.reduceAdd, Nat.reduceMul, ↓reduceIte, u_eq, u_no, u_nk, u_ek, u_2, u_3, j_1, j_3, j_eq, j_no, j_nk, ltd, bnd]
  rw [e, q1, bnd]
