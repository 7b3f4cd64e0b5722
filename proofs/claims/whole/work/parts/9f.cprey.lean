/-! L3: the dearest prey; a look one move deep -/
def mx (l : List Int) (a : Int) : Int := l.foldl (fun a v => if a < v then v else a) a
theorem mx_le : ∀ (l : List Int) (a b : Int), mx l a ≤ b ↔ a ≤ b ∧ ∀ v ∈ l, v ≤ b
  | [], a, b => by simp [mx]
  | v :: l, a, b => by
    have ih := mx_le l (if a < v then v else a) b
    show mx l (if a < v then v else a) ≤ b ↔ _
    rw [ih]
    constructor
    · intro ⟨h1, h2⟩
      refine ⟨by split at h1 <;> omega, fun w hw => ?_⟩
      rcases List.mem_cons.mp hw with e | e
      · rw [e]; split at h1 <;> omega
      · exact h2 w e
    · intro ⟨h1, h2⟩
      refine ⟨?_, fun w hw => h2 w (List.mem_cons_of_mem _ hw)⟩
      have := h2 v List.mem_cons_self
      split <;> omega
theorem mx_eq {l m : List Int} {a : Int} (h1 : ∀ v ∈ l, v ≤ a ∨ v ∈ m) (h2 : ∀ v ∈ m, v ≤ a ∨ v ∈ l) : mx l a = mx m a := by
  have hl := (mx_le l a (mx l a)).mp (Int.le_refl _)
  have hm := (mx_le m a (mx m a)).mp (Int.le_refl _)
  refine Int.le_antisymm ((mx_le l a _).mpr ⟨hm.1, fun v hv => ?_⟩) ((mx_le m a _).mpr ⟨hl.1, fun v hv => ?_⟩)
  · rcases h1 v hv with e | e
    · omega
    · exact hm.2 v e
  · rcases h2 v hv with e | e
    · omega
    · exact hl.2 v e
theorem mx_b {l : List Int} {a b : Int} (ha : a ≤ b) (h : ∀ v ∈ l, v ≤ b) : a ≤ mx l a ∧ mx l a ≤ b := ⟨((mx_le l a (mx l a)).mp (Int.le_refl _)).1, (mx_le l a b).mpr ⟨ha, h⟩⟩
/-- what a side can reach at once -/
def allG (B : Brd) (G : Gam) (t : Int) (l : List Int) (q : Int) : Bool := l.any (fun m => outB B G t m && gQ B G m q)
theorem c_prey_L4 {B : Brd} {G : Gam} {o p : Nat} {s : ST} (h : GA B G o p s) {t : Int} (t0 : 0 ≤ t) (t1 : t ≤ 1) (K : Nat → Int32 → Int32 → ST → Option (Int32 × ST)) : ∀ (n F : Nat) (i : Int) (g : Int → Bool), 0 ≤ i → (n : Int) = bM B - i → n < F → f_X3_dearestPrey_L4 K F o (Int32.ofInt t) (bmk g) (Int32.ofInt i) s = K o (Int32.ofInt t) (bmk (fun q => g q || allG B G t (upto n i) q)) s := by
  have h0 := h
  obtain ⟨⟨hB, hG⟩, ⟨ho, hp⟩, hP, hPB, -⟩ := h0
  have hM : bM B ≤ 8 := hB.1.1.2.2.2.2.2.2.2.1
  have c8 : s.1 p 8 = Int32.ofInt (bM B) := hPB.1.2.2.2.1
  intro n
  induction n with
  | zero =>
    intro F i g h0 hn hF
    obtain ⟨F, rfl⟩ : ∃ F', F = F' + 1 := ⟨F - 1, by omega⟩
    have hg : bmk (fun q => g q || allG B G t (upto 0 i) q) = bmk g := bmk_congr (fun q _ _ => by show (g q || false) = g q; rw [Bool.or_false])
    rw [hg]
    simp (disch := omega) only [f_X3_dearestPrey_L4, hP, c8, g_kk, g_k1, g_n1, g_k2, g_n2, g_k3, g_n3, g_k4, g_n4, g_k5, g_n5, g_k7, g_n7, g_k8, g_n8, g_k9, g_n9, g_k6, g_r3, g_r4, g_r5, g_r6, g_r7, g_r10, g_q0, g_q1, g_q2, p_kk, p_k1, p_n1, p_k2, p_n2, p_k3, p_n3, p_k4, p_n4, p_k5, p_n5, p_k6, p_n6, p_k7, p_n7, p_k8, p_n8, p_k9, p_n9, p_k10, p_n10, p_k11, p_n11, p_k13, p_n13, p_k12, p_r2, p_r4, p_r5, p_r6, p_r7, p_r9, p_r10, p_r11, p_r13, p_r14, p_r15, p_r16, p_h0, n_i8, n_i16, n_0, n_31, n_add, n_sub, n_mul, n_neg, n_div, n_rem, n_le_t, n_le_f, n_lt_t, n_lt_f, n_eq_t, n_eq_f, n_cl, n_gd, n_gdt, n_nz, Int.reduceToNat, Int.reduceAdd, Int.reduceSub, Int.reduceMul, Int.reduceNeg, Int.reduceLT, Int.reduceLE, Int.reduceEq, Int.reduceDiv, Int.reduceMod, Nat.reduceAdd, Nat.reduceMul, ↓reduceIte, u_eq, u_no, u_nk, u_ek, u_2, u_3, j_1, j_3, j_eq, j_no, j_nk, ltd, bnd]
  | succ n ih =>
    intro F i g h0 hn hF
    obtain ⟨F, rfl⟩ : ∃ F', F = F' + 1 := ⟨F - 1, by omega⟩
    have hi := c_isOut h h0 (show i < bM B by omega) t0 t1
    have hgo := c_goals h h0 (show i < bM B by omega)
    have hcf : ∀ q, allG B G t (upto (n + 1) i) q = ((outB B G t i && gQ B G i q) || allG B G t (upto n (i + 1)) q) := fun q => rfl
    cases e : outB B G t i with
    | false =>
      rw [e] at hi
      have hg : bmk (fun q => g q || allG B G t (upto (n + 1) i) q) = bmk (fun q => g q || allG B G t (upto n (i + 1)) q) := bmk_congr (fun q _ _ => by rw [hcf, e, Bool.false_and, Bool.false_or])
      have hor : bmk g ||| Int32.ofInt 0 = bmk g := by
        rw [← bmk_no, bmk_or]
        exact bmk_congr (fun q _ _ => Bool.or_false _)
      rw [hg, ← ih F (i + 1) g (by omega) (by omega) (by omega)]
      rw [f_X3_dearestPrey_L4]
      simp (disch := omega) only [f_X3_dearestPrey_j34, hP, c8, hi, hor, bI_f, g_kk, g_k1, g_n1, g_k2, g_n2, g_k3, g_n3, g_k4, g_n4, g_k5, g_n5, g_k7, g_n7, g_k8, g_n8, g_k9, g_n9, g_k6, g_r3, g_r4, g_r5, g_r6, g_r7, g_r10, g_q0, g_q1, g_q2, p_kk, p_k1, p_n1, p_k2, p_n2, p_k3, p_n3, p_k4, p_n4, p_k5, p_n5, p_k6, p_n6, p_k7, p_n7, p_k8, p_n8, p_k9, p_n9, p_k10, p_n10, p_k11, p_n11, p_k13, p_n13, p_k12, p_r2, p_r4, p_r5, p_r6, p_r7, p_r9, p_r10, p_r11, p_r13, p_r14, p_r15, p_r16, p_h0, n_i8, n_i16, n_0, n_31, n_add, n_sub, n_mul, n_neg, n_div, n_rem, n_le_t, n_le_f, n_lt_t, n_lt_f, n_eq_t, n_eq_f, n_cl, n_gd, n_gdt, n_nz, Int.reduceToNat, Int.reduceAdd, Int.reduceSub, Int.reduceMul, Int.reduceNeg, Int.reduceLT, Int.reduceLE, Int.reduceEq, Int.reduceDiv, Int.reduceMod, Nat.reduceAdd, Nat.reduceMul, ↓reduceIte, u_eq, u_no, u_nk, u_ek, u_2, u_3, j_1, j_3, j_eq, j_no, j_nk, ltd, bnd]
    | true =>
      rw [e] at hi
      have hor : bmk g ||| bmk (gQ B G i) = bmk (fun q => g q || gQ B G i q) := bmk_or _ _
      have hg : bmk (fun q => g q || allG B G t (upto (n + 1) i) q) = bmk (fun q => (g q || gQ B G i q) || allG B G t (upto n (i + 1)) q) := bmk_congr (fun q _ _ => by
        rw [hcf, e, Bool.true_and, Bool.or_assoc])
      rw [hg, ← ih F (i + 1) (fun q => g q || gQ B G i q) (by omega) (by omega) (by omega)]
      rw [f_X3_dearestPrey_L4]
      simp (disch := omega) only [f_X3_dearestPrey_j34, hP, c8, hi, hgo, hor, bI_t, g_kk, g_k1, g_n1, g_k2, g_n2, g_k3, g_n3, g_k4, g_n4, g_k5, g_n5, g_k7, g_n7, g_k8, g_n8, g_k9, g_n9, g_k6, g_r3, g_r4, g_r5, g_r6, g_r7, g_r10, g_q0, g_q1, g_q2, p_kk, p_k1, p_n1, p_k2, p_n2, p_k3, p_n3, p_k4, p_n4, p_k5, p_n5, p_k6, p_n6, p_k7, p_n7, p_k8, p_n8, p_k9, p_n9, p_k10, p_n10, p_k11, p_n11, p_k13, p_n13, p_k12, p_r2, p_r4, p_r5, p_r6, p_r7, p_r9, p_r10, p_r11, p_r13, p_r14, p_r15, p_r16, p_h0, n_i8, n_i16, n_0, n_31, n_add, n_sub, n_mul, n_neg, n_div, n_rem, n_le_t, n_le_f, n_lt_t, n_lt_f, n_eq_t, n_eq_f, n_cl, n_gd, n_gdt, n_nz, Int.reduceToNat, Int.reduceAdd, Int.reduceSub, Int.reduceMul, Int.reduceNeg, Int.reduceLT, Int.reduceLE, Int.reduceEq, Int.reduceDiv, Int.reduceMod, Nat.reduceAdd, Nat.reduceMul, ↓reduceIte, u_eq, u_no, u_nk, u_ek, u_2, u_3, j_1, j_3, j_eq, j_no, j_nk, ltd, bnd]
def pryF (B : Brd) (G : Gam) (t : Int) (g : Int → Bool) (c : Int) : Bool := outB B G (1 - t) c && g (pl G c)
def pryL (B : Brd) (G : Gam) (t : Int) (g : Int → Bool) (l : List Int) : List Int := (l.filter (pryF B G t g)).map (fun c => wo B (kd B c))
theorem c_prey_L47 {B : Brd} {G : Gam} {o p : Nat} {s : ST} (h : GA B G o p s) {t : Int} (t0 : 0 ≤ t) (t1 : t ≤ 1) {g : Int → Bool} : ∀ (n F : Nat) (i a : Int), 0 ≤ i → (n : Int) = bM B - i → n < F → 0 ≤ a → a ≤ 99 → f_X3_dearestPrey_L47 F o (Int32.ofInt t) (bmk g) (Int32.ofInt a) (Int32.ofInt i) s = some (Int32.ofInt (mx (pryL B G t g (upto n i)) a), s) := by
  have h0 := h
  obtain ⟨⟨hB, hG⟩, ⟨ho, hp⟩, hP, hPB, hplc, -⟩ := h0
  have hM : bM B ≤ 8 := hB.1.1.2.2.2.2.2.2.2.1
  have c8 : s.1 p 8 = Int32.ofInt (bM B) := hPB.1.2.2.2.1
  intro n
  induction n with
  | zero =>
    intro F i a h0 hn hF a0 a1
    obtain ⟨F, rfl⟩ : ∃ F', F = F' + 1 := ⟨F - 1, by omega⟩
    simp (disch := omega) only [f_X3_dearestPrey_L47, hP, c8, upto, pryL, List.filter_nil, List.map_nil, mx, List.foldl_nil, g_kk, g_k1, g_n1, g_k2, g_n2, g_k3, g_n3, g_k4, g_n4, g_k5, g_n5, g_k7, g_n7, g_k8, g_n8, g_k9, g_n9, g_k6, g_r3, g_r4, g_r5, g_r6, g_r7, g_r10, g_q0, g_q1, g_q2, p_kk, p_k1, p_n1, p_k2, p_n2, p_k3, p_n3, p_k4, p_n4, p_k5, p_n5, p_k6, p_n6, p_k7, p_n7, p_k8, p_n8, p_k9, p_n9, p_k10, p_n10, p_k11, p_n11, p_k13, p_n13, p_k12, p_r2, p_r4, p_r5, p_r6, p_r7, p_r9, p_r10, p_r11, p_r13, p_r14, p_r15, p_r16, p_h0, n_i8, n_i16, n_0, n_31, n_add, n_sub, n_mul, n_neg, n_div, n_rem, n_le_t, n_le_f, n_lt_t, n_lt_f, n_eq_t, n_eq_f, n_cl, n_gd, n_gdt, n_nz, Int.reduceToNat, Int.reduceAdd, Int.reduceSub, Int.reduceMul, Int.reduceNeg, Int.reduceLT, Int.reduceLE, Int.reduceEq, Int.reduceDiv, Int.reduceMod, Nat.reduceAdd, Nat.reduceMul, ↓reduceIte, u_eq, u_no, u_nk, u_ek, u_2, u_3, j_1, j_3, j_eq, j_no, j_nk, ltd, bnd]
  | succ n ih =>
    intro F i a h0 hn hF a0 a1
    obtain ⟨F, rfl⟩ : ∃ F', F = F' + 1 := ⟨F - 1, by omega⟩
    have hi := c_isOut h h0 (show i < bM B by omega) (t := 1 - t) (by omega) (by omega)
    have hwo := c_worthOf hB hp hPB (m := i) (by omega) (by omega)
    have hw1 : wthM B i = wo B (kd B i) := by unfold wthM; rw [if_neg (by omega)]
    rw [hw1] at hwo
    have hsd := hB.2.2.1 i h0 (by omega)
    have hk := hB.2.1 (kd B i) hsd.1 hsd.2.1
    have cpl := hplc i h0 (by omega)
    have hplb := pl_b hB hG h0 (show i < bM B by omega)
    have hl : pryL B G t g (upto (n + 1) i) = if pryF B G t g i = true then wo B (kd B i) :: pryL B G t g (upto n (i + 1)) else pryL B G t g (upto n (i + 1)) := by
      unfold pryL
      show ((i :: upto n (i + 1)).filter (pryF B G t g)).map _ = _
      rw [List.filter_cons]
      split
      · rw [List.map_cons]
      · rfl
    rw [hl]
    cases e : outB B G (1 - t) i with
    | false =>
      rw [e] at hi
      have e' : pryF B G t g i = false := by unfold pryF; rw [e, Bool.false_and]
      rw [e', if_neg (by decide), ← ih F (i + 1) a (by omega) (by omega) (by omega) a0 a1]
      rw [f_X3_dearestPrey_L47]
      simp (disch := omega) only [hP, c8, hi, bI_f, g_kk, g_k1, g_n1, g_k2, g_n2, g_k3, g_n3, g_k4, g_n4, g_k5, g_n5, g_k7, g_n7, g_k8, g_n8, g_k9, g_n9, g_k6, g_r3, g_r4, g_r5, g_r6, g_r7, g_r10, g_q0, g_q1, g_q2, p_kk, p_k1, p_n1, p_k2, p_n2, p_k3, p_n3, p_k4, p_n4, p_k5, p_n5, p_k6, p_n6, p_k7, p_n7, p_k8, p_n8, p_k9, p_n9, p_k10, p_n10, p_k11, p_n11, p_k13, p_n13, p_k12, p_r2, p_r4, p_r5, p_r6, p_r7, p_r9, p_r10, p_r11, p_r13, p_r14, p_r15, p_r16, p_h0, n_i8, n_i16, n_0, n_31, n_add, n_sub, n_mul, n_neg, n_div, n_rem, n_le_t, n_le_f, n_lt_t, n_lt_f, n_eq_t, n_eq_f, n_cl, n_gd, n_gdt, n_nz, Int.reduceToNat, Int.reduceAdd, Int.reduceSub, Int.reduceMul, Int.reduceNeg, Int.reduceLT, Int.reduceLE, Int.reduceEq, Int.reduceDiv, Int.reduceMod, Nat.reduceAdd, Nat.reduceMul, ↓reduceIte, u_eq, u_no, u_nk, u_ek, u_2, u_3, j_1, j_3, j_eq, j_no, j_nk, ltd, bnd]
    | true =>
      rw [e] at hi
      have hnt : ¬ gx G i = -1 := by
        unfold outB tk at e
        rw [Bool.and_eq_true] at e
        intro c
        rw [decide_eq_true c] at e
        cases e.2
      have hb := bit_q g (q := pl G i) (by omega) (by omega)
      cases e2 : g (pl G i) with
      | false =>
        rw [e2] at hb
        have e' : pryF B G t g i = false := by unfold pryF; rw [e2, Bool.and_false]
        rw [e', if_neg (by decide), ← ih F (i + 1) a (by omega) (by omega) (by omega) a0 a1]
        rw [f_X3_dearestPrey_L47]
        simp (disch := omega) only [hP, c8, hi, cpl, hb, bI_t, bI_f, g_kk, g_k1, g_n1, g_k2, g_n2, g_k3, g_n3, g_k4, g_n4, g_k5, g_n5, g_k7, g_n7, g_k8, g_n8, g_k9, g_n9, g_k6, g_r3, g_r4, g_r5, g_r6, g_r7, g_r10, g_q0, g_q1, g_q2, p_kk, p_k1, p_n1, p_k2, p_n2, p_k3, p_n3, p_k4, p_n4, p_k5, p_n5, p_k6, p_n6, p_k7, p_n7, p_k8, p_n8, p_k9, p_n9, p_k10, p_n10, p_k11, p_n11, p_k13, p_n13, p_k12, p_r2, p_r4, p_r5, p_r6, p_r7, p_r9, p_r10, p_r11, p_r13, p_r14, p_r15, p_r16, p_h0, n_i8, n_i16, n_0, n_31, n_add, n_sub, n_mul, n_neg, n_div, n_rem, n_le_t, n_le_f, n_lt_t, n_lt_f, n_eq_t, n_eq_f, n_cl, n_gd, n_gdt, n_nz, Int.reduceToNat, Int.reduceAdd, Int.reduceSub, Int.reduceMul, Int.reduceNeg, Int.reduceLT, Int.reduceLE, Int.reduceEq, Int.reduceDiv, Int.reduceMod, Nat.reduceAdd, Nat.reduceMul, ↓reduceIte, u_eq, u_no, u_nk, u_ek, u_2, u_3, j_1, j_3, j_eq, j_no, j_nk, ltd, bnd]
      | true =>
        rw [e2] at hb
        have e' : pryF B G t g i = true := by unfold pryF; rw [e, e2]; rfl
        rw [e', if_pos rfl]
        show _ = some (Int32.ofInt (mx (pryL B G t g (upto n (i + 1))) (if a < wo B (kd B i) then wo B (kd B i) else a)), s)
        by_cases e3 : a < wo B (kd B i)
        · rw [if_pos e3, ← ih F (i + 1) (wo B (kd B i)) (by omega) (by omega) (by omega) (by omega) (by omega)]
          rw [f_X3_dearestPrey_L47]
          simp (disch := omega) only [hP, c8, hi, cpl, hb, hwo, bI_t, g_kk, g_k1, g_n1, g_k2, g_n2, g_k3, g_n3, g_k4, g_n4, g_k5, g_n5, g_k7, g_n7, g_k8, g_n8, g_k9, g_n9, g_k6, g_r3, g_r4, g_r5, g_r6, g_r7, g_r10, g_q0, g_q1, g_q2, p_kk, p_k1, p_n1, p_k2, p_n2, p_k3, p_n3, p_k4, p_n4, p_k5, p_n5, p_k6, p_n6, p_k7, p_n7, p_k8, p_n8, p_k9, p_n9, p_k10, p_n10, p_k11, p_n11, p_k13, p_n13, p_k12, p_r2, p_r4, p_r5, p_r6, p_r7, p_r9, p_r10, p_r11, p_r13, p_r14, p_r15, p_r16, p_h0, n_i8, n_i16, n_0, n_31, n_add, n_sub, n_mul, n_neg, n_div, n_rem, n_le_t, n_le_f, n_lt_t, n_lt_f, n_eq_t, n_eq_f, n_cl, n_gd, n_gdt, n_nz, Int.reduceToNat, Int.reduceAdd, Int.reduceSub, Int.reduceMul, Int.reduceNeg, Int.reduceLT, Int.reduceLE, Int.reduceEq, Int.reduceDiv, Int.reduceMod, Nat.reduceAdd, Nat.reduceMul, ↓reduceIte, u_eq, u_no, u_nk, u_ek, u_2, u_3, j_1, j_3, j_eq, j_no, j_nk, ltd, bnd]
        · rw [if_neg e3, ← ih F (i + 1) a (by omega) (by omega) (by omega) a0 a1]
          rw [f_X3_dearestPrey_L47]
          simp (disch := omega) only [hP, c8, hi, cpl, hb, hwo, bI_t, g_kk, g_k1, g_n1, g_k2, g_n2, g_k3, g_n3, g_k4, g_n4, g_k5, g_n5, g_k7, g_n7, g_k8, g_n8, g_k9, g_n9, g_k6, g_r3, g_r4, g_r5, g_r6, g_r7, g_r10, g_q0, g_q1, g_q2, p_kk, p_k1, p_n1, p_k2, p_n2, p_k3, p_n3, p_k4, p_n4, p_k5, p_n5, p_k6, p_n6, p_k7, p_n7, p_k8, p_n8, p_k9, p_n9, p_k10, p_n10, p_k11, p_n11, p_k13, p_n13, p_k12, p_r2, p_r4, p_r5, p_r6, p_r7, p_r9, p_r10, p_r11, p_r13, p_r14, p_r15, p_r16, p_h0, n_i8, n_i16, n_0, n_31, n_add, n_sub, n_mul, n_neg, n_div, n_rem, n_le_t, n_le_f, n_lt_t, n_lt_f, n_eq_t, n_eq_f, n_cl, n_gd, n_gdt, n_nz, Int.reduceToNat, Int.reduceAdd, Int.reduceSub, Int.reduceMul, Int.reduceNeg, Int.reduceLT, Int.reduceLE, Int.reduceEq, Int.reduceDiv, Int.reduceMod, Nat.reduceAdd, Nat.reduceMul, ↓reduceIte, u_eq, u_no, u_nk, u_ek, u_2, u_3, j_1, j_3, j_eq, j_no, j_nk, ltd, bnd]
def dear (B : Brd) (G : Gam) (t : Int) : Int := mx (pryL B G t (allG B G t (mens B)) (mens B)) 0
theorem c_prey {B : Brd} {G : Gam} {o p : Nat} {s : ST} (h : GA B G o p s) {t : Int} (t0 : 0 ≤ t) (t1 : t ≤ 1) : f_X3_dearestPrey o (Int32.ofInt t) s = some (Int32.ofInt (dear B G t), s) := by
  have hM0 : 0 ≤ bM B := h.1.1.1.1.2.2.2.2.2.2.1
  have hM : bM B ≤ 8 := h.1.1.1.1.2.2.2.2.2.2.2.1
  have h1 := c_prey_L4 h t0 t1 f_X3_dearestPrey_j42 (bM B).toNat fuel 0 (fun _ => false) (by omega) (by omega) (by unfold fuel; omega)
  rw [bmk_no] at h1
  have hg : bmk (fun q => false || allG B G t (upto (bM B).toNat 0) q) = bmk (allG B G t (mens B)) := bmk_congr (fun q _ _ => by rw [Bool.false_or]; rfl)
  rw [hg] at h1
  have h1 : f_X3_dearestPrey o (Int32.ofInt t) s = f_X3_dearestPrey_j42 o (Int32.ofInt t) (bmk (allG B G t (mens B))) s := h1
  rw [h1]
  exact c_prey_L47 h t0 t1 (bM B).toNat fuel 0 0 (by omega) (by omega) (by unfold fuel; omega) (by omega) (by omega)
/-- a look one move deep -/
theorem bst_mx : ∀ (l : List Int) (a : Int), (l.foldl bst (a, true)).1 = mx l a ∧ (l.foldl bst (a, true)).2 = true
  | [], a => ⟨rfl, rfl⟩
  | v :: l, a => by
    rw [List.foldl_cons]
    have : bst (a, true) v = ((if a < v then v else a), true) := by
      unfold bst
      by_cases e : v ≤ a
      · rw [if_pos ⟨rfl, e⟩, if_neg (by omega)]
      · rw [if_neg (fun c => e c.2), if_pos (by omega)]
    rw [this]
    exact bst_mx l _
theorem bst_add (b : Int) : ∀ (l : List Int), (∀ w ∈ l, 0 ≤ w) → ((l.map (fun w => b + w)).foldl bst (b, false)).1 = b + mx l 0
  | [], _ => by show b = b + 0; omega
  | w :: l, h => by
    have hw := h w List.mem_cons_self
    rw [List.map_cons, List.foldl_cons]
    have : bst (b, false) (b + w) = (b + w, true) := by unfold bst; rw [if_neg (fun c => by cases c.1)]
    rw [this, (bst_mx _ _).1]
    have key : ∀ (l : List Int) (a : Int), mx (l.map (fun w => b + w)) (b + a) = b + mx l a := by
      intro l
      induction l with
      | nil => intro a; rfl
      | cons v l ih =>
        intro a
        show mx (l.map (fun w => b + w)) (if b + a < b + v then b + v else b + a) = b + mx l (if a < v then v else a)
        by_cases e : a < v
        · rw [if_pos (by omega), if_pos e]; exact ih v
        · rw [if_neg (by omega), if_neg e]; exact ih a
    rw [key]
    show b + mx l w = b + mx l (if 0 < w then w else 0)
    by_cases e : 0 < w
    · rw [if_pos e]
    · rw [if_neg e, show w = 0 by omega]
theorem bal_sw {B : Brd} (hB : Bv B) (G : Gam) {t : Int} (t0 : 0 ≤ t) (t1 : t ≤ 1) : bal B G (1 - t) = - bal B G t := by
  have h := bal_neg hB G
  have ht : t = 0 ∨ t = 1 := by omega
  rcases ht with rfl | rfl
  · exact h
  · show bal B G 0 = _; omega
theorem mv_bal {B : Brd} {G : Gam} (hB : Bv B) (hG : Gv B G) {m x y : Int} (h : okM B G m x y) (hm : sd B m = gs G) : -(bal B (mvG B G m x y) (gs (mvG B G m x y))) = bal B G (gs G) + (if mAt B G x y = -1 then 0 else wo B (kd B (mAt B G x y))) := by
  have hv := mvG_v hB hG h.1.1 h.1.2 h.2.1.1 h.2.1.2 h.2.2.1.1 h.2.2.1.2
  have hb := mvG_bal hB hG h
  obtain ⟨f1, f2, f3⟩ := okM_f hB hG h
  have hgs := hG.1.2.2
  rw [mvG_s, bal_sw hB _ hgs.1 hgs.2]
  have hg : gs G = 0 ∨ gs G = 1 := by omega
  rcases f3 with f3 | ⟨g1, g2, g3, g4, g5, g6⟩
  · rw [if_pos f3] at hb ⊢
    rcases hg with e | e
    · rw [e, hb]; omega
    · rw [e, bal_neg hB, bal_neg hB, hb]; omega
  · have hs := hB.2.2.1 _ g1 g2
    rw [if_neg (by omega)] at hb ⊢
    unfold ldV at hb
    rcases hg with e | e
    · rw [if_neg (by omega)] at hb
      rw [e, hb]; omega
    · rw [if_pos (by omega)] at hb
      rw [e, bal_neg hB, bal_neg hB, hb]; omega
theorem vfold (B : Brd) (f : Gam → Int) (G : Gam) (p0 : Int × Bool) : (mens B).foldl (vK B f G) p0 = (mvl B G).foldl (fun p x => bst p (-(f (mvK B G x.1 x.2)))) p0 := by
  refine Eq.trans ?_ (fold_mvl B G (fun p m k => bst p (-(f (mvK B G m k)))) (mens B) p0)
  congr 1
  funext p m
  unfold vK
  congr 1
  funext p k
  unfold vstep cond
  by_cases c : sd B m = gs G ∧ goK B G m k = true
  · rw [if_pos c, if_pos (by rw [decide_eq_true c.1, c.2]; rfl)]
  · rw [if_neg c, if_neg (fun d => c (by rw [Bool.and_eq_true] at d; exact ⟨of_decide_eq_true d.1, d.2⟩))]
theorem val1_dear {B : Brd} {G : Gam} (hB : Bv B) (hG : Gv B G) (hc : ct B G = false) : val B 1 G = bal B G (gs G) + dear B G (gs G) := by
  have hM0 : 0 ≤ bM B := hB.1.1.2.2.2.2.2.2.1
  have hgs := hG.1.2.2
  have h1 : val B 1 G = ((mens B).foldl (vK B (val B 0) G) (bal B G (gs G), false)).1 := by
    show (if ct B G = true then _ else _) = _
    rw [hc, if_neg (by decide)]
  have h2 := vfold B (val B 0) G (bal B G (gs G), false)
  rw [h1, h2]
  have h3 : (mvl B G).foldl (fun p x => bst p (-(val B 0 (mvK B G x.1 x.2)))) (bal B G (gs G), false) = ((mvl B G).map (fun x => bal B G (gs G) + tkw B G x.2)).foldl bst (bal B G (gs G), false) := by
    rw [List.foldl_map]
    refine foldl_congr_m (fun p x hx => ?_)
    obtain ⟨a, b, c, d, e, f⟩ := mvl_mem hM0 hx
    have hxy := sq_xy hB c d
    have := mv_bal hB hG (m := x.1) (x := x.2 % bW B) (y := x.2 / bW B) ⟨⟨a, b⟩, ⟨hxy.2.1, hxy.2.2.1⟩, ⟨hxy.2.2.2.1, hxy.2.2.2.2⟩, f⟩ e
    congr 1
  rw [h3]
  have h4 : (mvl B G).map (fun x => bal B G (gs G) + tkw B G x.2) = ((mvl B G).map (fun x => tkw B G x.2)).map (fun w => bal B G (gs G) + w) := by rw [List.map_map]; rfl
  rw [h4, bst_add _ _ (fun w hw => by
    obtain ⟨x, _, rfl⟩ := List.mem_map.mp hw
    exact (tkw_b hB).1)]
  congr 1
  unfold dear
  refine mx_eq (fun w hw => ?_) (fun w hw => ?_)
  · obtain ⟨x, hx, rfl⟩ := List.mem_map.mp hw
    obtain ⟨a, b, c, d, e, f⟩ := mvl_mem hM0 hx
    have hxy := sq_xy hB c d
    have hok : okM B G x.1 (x.2 % bW B) (x.2 / bW B) := ⟨⟨a, b⟩, ⟨hxy.2.1, hxy.2.2.1⟩, ⟨hxy.2.2.2.1, hxy.2.2.2.2⟩, f⟩
    obtain ⟨f1, f2, f3⟩ := okM_f hB hG hok
    show tkw B G x.2 ≤ 0 ∨ _
    unfold tkw tkm
    rcases f3 with f3 | ⟨g1, g2, g3, g4, g5, g6⟩
    · left; rw [if_pos f3]; omega
    · right
      rw [if_neg (by omega)]
      unfold pryL
      refine List.mem_map.mpr ⟨mAt B G (x.2 % bW B) (x.2 / bW B), List.mem_filter.mpr ⟨(mem_mens hM0).mpr ⟨g1, g2⟩, ?_⟩, rfl⟩
      have hs := hB.2.2.1 _ g1 g2
      have hpl := pl_b hB hG g1 g2
      unfold pryF outB allG
      rw [decide_eq_true (show sd B (mAt B G (x.2 % bW B) (x.2 / bW B)) = 1 - gs G by omega), show tk G (mAt B G (x.2 % bW B) (x.2 / bW B)) = false from decide_eq_false (by omega), Bool.not_false, Bool.true_and, Bool.true_and, List.any_eq_true]
      refine ⟨x.1, (mem_mens hM0).mpr ⟨a, b⟩, ?_⟩
      have hnt := (go_spec f).1
      unfold outB gQ
      rw [decide_eq_true e, show tk G x.1 = false from decide_eq_false hnt]
      rcases hpl with hpl | hpl
      · omega
      · rw [hpl.2.2.2.2.2.2.2.1, hpl.2.2.2.2.2.2.2.2, g3, g4, onBd_i.mpr ⟨⟨hxy.2.1, hxy.2.2.1⟩, ⟨hxy.2.2.2.1, hxy.2.2.2.2⟩⟩]
        have f : go B G x.1 (x.2 % bW B) (x.2 / bW B) = true := f
        rw [f]
        rfl
  · right
    unfold pryL at hw
    obtain ⟨c, hc2, rfl⟩ := List.mem_map.mp hw
    obtain ⟨hcm, hcp⟩ := List.mem_filter.mp hc2
    rw [mem_mens hM0] at hcm
    unfold pryF outB allG at hcp
    rw [Bool.and_eq_true, Bool.and_eq_true, List.any_eq_true] at hcp
    obtain ⟨⟨p1, p2⟩, m, hm, p3⟩ := hcp
    rw [mem_mens hM0] at hm
    rw [Bool.and_eq_true] at p3
    have hm1 : sd B m = gs G := by
      have := p3.1
      unfold outB at this
      rw [Bool.and_eq_true] at this
      exact of_decide_eq_true this.1
    have hnt : ¬ gx G c = -1 := by
      intro k
      unfold tk at p2
      rw [decide_eq_true k] at p2
      cases p2
    have hpl := pl_b hB hG hcm.1 hcm.2
    rcases hpl with hpl | hpl
    · exact absurd hpl.1 hnt
    have p4 := p3.2
    have hks : pl G c ∈ pls.filter (gQ B G m) := List.mem_filter.mpr ⟨by unfold pls; exact mem_upto.mpr (by omega), p4⟩
    rw [gQ_ks hB] at hks
    obtain ⟨k, hk, hk2⟩ := List.mem_map.mp hks
    unfold ks at hk
    obtain ⟨hk3, hk4⟩ := List.mem_filter.mp hk
    have hk3' := hk3
    unfold sqs at hk3'
    rw [mem_upto] at hk3'
    have hp5 := p5_x hB (k := k) hk3'.1 (by omega)
    rw [hk2] at hp5
    refine List.mem_map.mpr ⟨(m, k), ?_, ?_⟩
    · unfold mvl
      refine List.mem_flatMap.mpr ⟨m, (mem_mens hM0).mpr hm, ?_⟩
      unfold mv1
      refine List.mem_map.mpr ⟨k, List.mem_filter.mpr ⟨hk3, ?_⟩, rfl⟩
      unfold cond
      rw [decide_eq_true hm1, hk4]
      rfl
    · show tkw B G k = wo B (kd B c)
      unfold tkw tkm
      rw [← hp5.1, ← hp5.2.1, hpl.2.2.2.2.2.2.2.1, hpl.2.2.2.2.2.2.2.2, mAt_from hB hG hcm.1 hcm.2 hpl.1, if_neg (by omega)]
