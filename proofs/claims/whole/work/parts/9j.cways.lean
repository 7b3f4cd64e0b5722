/-! L3: boards reached, as the class finds them -/
def paL (ax ay : Int → Int) (m : Int) : Int := if ax m = -1 then -1 else 5 * ay m + ax m
def AOk (B : Brd) (ax ay : Int → Int) : Prop := ∀ m : Int, 0 ≤ m → m < bM B → (ax m = -1 ∧ ay m = -1) ∨ (0 ≤ ax m ∧ ax m < bW B ∧ 0 ≤ ay m ∧ ay m < bH B)
def AM (B : Brd) (ax ay : Int → Int) (s : ST) : Prop := ∀ m : Int, 0 ≤ m → m < bM B → s.1 63 m.toNat = Int32.ofInt (paL ax ay m)
theorem AM_Fm {B : Brd} {ax ay : Int → Int} {o : Nat} {s s' : ST} (ho : o = 36 ∨ o = 46) (h : AM B ax ay s) (hf : Fm o s s') : AM B ax ay s' := fun m m0 m1 => (hf.1 63 _ (by omega) (by omega) (by omega) (by omega)).trans (h m m0 m1)
def unl1 (G : Gam) (ax ay : Int → Int) (m : Int) : Int := if asAim G ax ay m = true then 0 else 1
def unl (B : Brd) (G : Gam) (ax ay : Int → Int) : Int := smL (unl1 G ax ay) (mens B)
theorem asAim_pl {B : Brd} {G : Gam} (hB : Bv B) (hG : Gv B G) {ax ay : Int → Int} (ha : AOk B ax ay) {m : Int} (m0 : 0 ≤ m) (m1 : m < bM B) : asAim G ax ay m = decide (pl G m = paL ax ay m) := by
  have hW : bW B ≤ 5 := hB.1.1.2.1
  have h1 := hG.2.1 m m0 m1
  have h2 := ha m m0 m1
  unfold asAim pl paL
  apply decide_eq_decide.mpr
  by_cases e1 : gx G m = -1
  · by_cases e2 : ax m = -1
    · rw [if_pos e1, if_pos e2]; omega
    · rw [if_pos e1, if_neg e2]; omega
  · by_cases e2 : ax m = -1
    · rw [if_neg e1, if_pos e2]; omega
    · rw [if_neg e1, if_neg e2]; omega
theorem c_unlike_L {B : Brd} {G : Gam} {o p : Nat} {s : ST} (h : GA B G o p s) {ax ay : Int → Int} (ha : AOk B ax ay) (hm : AM B ax ay s) : ∀ (n F : Nat) (i a : Int), 0 ≤ i → (n : Int) = bM B - i → n < F → f_X3_unlike_L4 F o 63 (Int32.ofInt a) (Int32.ofInt i) s = some (Int32.ofInt (a + smL (unl1 G ax ay) (upto n i)), s) := by
  obtain ⟨⟨hB, hG⟩, ⟨ho, hp⟩, hP, hPB, hplc, -⟩ := h
  have hM : bM B ≤ 8 := hB.1.1.2.2.2.2.2.2.2.1
  have hW : bW B ≤ 5 := hB.1.1.2.1
  have hH : bH B ≤ 5 := hB.1.1.2.2.2.1
  have c8 : s.1 p 8 = Int32.ofInt (bM B) := hPB.1.2.2.2.1
  have k1 : ∀ x : Option (Int32 × ST), gd (kr 63) x = x := fun _ => rfl
  have k2 : ∀ x : Option (Int32 × ST), gd (kk 63 13) x = x := fun _ => rfl
  have k3 : (K0 63).2 = 8 := rfl
  have k4 : Int32.ofNat 8 = Int32.ofInt 8 := rfl
  intro n
  induction n with
  | zero =>
    intro F i a h0 hn hF
    obtain ⟨F, rfl⟩ : ∃ F', F = F' + 1 := ⟨F - 1, by omega⟩
    simp (disch := omega) only [f_X3_unlike_L4, hP, c8, upto, smL, Int.add_zero, g_kk, g_k1, g_n1, g_k2, g_n2, g_k3, g_n3, g_k4, g_n4, g_k5, g_n5, g_k7, g_n7, g_k8, g_n8, g_k9, g_n9, g_k6, g_r3, g_r4, g_r5, g_r6, g_r7, g_r10, g_q0, g_q1, g_q2, p_kk, p_k1, p_n1, p_k2, p_n2, p_k3, p_n3, p_k4, p_n4, p_k5, p_n5, p_k6, p_n6, p_k7, p_n7, p_k8, p_n8, p_k9, p_n9, p_k10, p_n10, p_k11, p_n11, p_k13, p_n13, p_k12, p_r2, p_r4, p_r5, p_r6, p_r7, p_r9, p_r10, p_r11, p_r13, p_r14, p_r15, p_r16, p_h0, n_i8, n_i16, n_0, n_31, n_add, n_sub, n_mul, n_neg, n_div, n_rem, n_le_t, n_le_f, n_lt_t, n_lt_f, n_eq_t, n_eq_f, n_cl, n_gd, n_gdt, n_nz, Int.reduceToNat, Int.reduceAdd, Int.reduceSub, Int.reduceMul, Int.reduceNeg, Int.reduceLT, Int.reduceLE, Int.reduceEq, Int.reduceDiv, Int.reduceMod, Nat.reduceAdd, Nat.reduceMul, ↓reduceIte, u_eq, u_no, u_nk, u_ek, u_2, u_3, j_1, j_3, j_eq, j_no, j_nk, ltd, bnd]
  | succ n ih =>
    intro F i a h0 hn hF
    obtain ⟨F, rfl⟩ : ∃ F', F = F' + 1 := ⟨F - 1, by omega⟩
    have cpl := hplc i h0 (by omega)
    have cam := hm i h0 (by omega)
    have hplb := pl_b hB hG h0 (show i < bM B by omega)
    have hpa : -1 ≤ paL ax ay i ∧ paL ax ay i < 25 := by
      have := ha i h0 (by omega)
      unfold paL
      split <;> omega
    have has := asAim_pl hB hG ha h0 (show i < bM B by omega)
    have hu : unl1 G ax ay i = if asAim G ax ay i = true then 0 else 1 := rfl
    simp only [upto, smL]
    by_cases e : pl G i = paL ax ay i
    · rw [decide_eq_true e] at has
      rw [has, if_pos rfl] at hu
      rw [hu, Int.zero_add, ← ih F (i + 1) a (by omega) (by omega) (by omega)]
      rw [f_X3_unlike_L4]
      simp (disch := omega) only [hP, c8, k1, k2, k3, k4, cpl, cam, g_kk, g_k1, g_n1, g_k2, g_n2, g_k3, g_n3, g_k4, g_n4, g_k5, g_n5, g_k7, g_n7, g_k8, g_n8, g_k9, g_n9, g_k6, g_r3, g_r4, g_r5, g_r6, g_r7, g_r10, g_q0, g_q1, g_q2, p_kk, p_k1, p_n1, p_k2, p_n2, p_k3, p_n3, p_k4, p_n4, p_k5, p_n5, p_k6, p_n6, p_k7, p_n7, p_k8, p_n8, p_k9, p_n9, p_k10, p_n10, p_k11, p_n11, p_k13, p_n13, p_k12, p_r2, p_r4, p_r5, p_r6, p_r7, p_r9, p_r10, p_r11, p_r13, p_r14, p_r15, p_r16, p_h0, n_i8, n_i16, n_0, n_31, n_add, n_sub, n_mul, n_neg, n_div, n_rem, n_le_t, n_le_f, n_lt_t, n_lt_f, n_eq_t, n_eq_f, n_cl, n_gd, n_gdt, n_nz, Int.reduceToNat, Int.reduceAdd, Int.reduceSub, Int.reduceMul, Int.reduceNeg, Int.reduceLT, Int.reduceLE, Int.reduceEq, Int.reduceDiv, Int.reduceMod, Nat.reduceAdd, Nat.reduceMul, ↓reduceIte, u_eq, u_no, u_nk, u_ek, u_2, u_3, j_1, j_3, j_eq, j_no, j_nk, ltd, bnd]
    · rw [decide_eq_false e] at has
      rw [has, if_neg (by decide)] at hu
      rw [hu, ← Int.add_assoc, ← ih F (i + 1) (a + 1) (by omega) (by omega) (by omega)]
      rw [f_X3_unlike_L4]
      simp (disch := omega) only [hP, c8, k1, k2, k3, k4, cpl, cam, g_kk, g_k1, g_n1, g_k2, g_n2, g_k3, g_n3, g_k4, g_n4, g_k5, g_n5, g_k7, g_n7, g_k8, g_n8, g_k9, g_n9, g_k6, g_r3, g_r4, g_r5, g_r6, g_r7, g_r10, g_q0, g_q1, g_q2, p_kk, p_k1, p_n1, p_k2, p_n2, p_k3, p_n3, p_k4, p_n4, p_k5, p_n5, p_k6, p_n6, p_k7, p_n7, p_k8, p_n8, p_k9, p_n9, p_k10, p_n10, p_k11, p_n11, p_k13, p_n13, p_k12, p_r2, p_r4, p_r5, p_r6, p_r7, p_r9, p_r10, p_r11, p_r13, p_r14, p_r15, p_r16, p_h0, n_i8, n_i16, n_0, n_31, n_add, n_sub, n_mul, n_neg, n_div, n_rem, n_le_t, n_le_f, n_lt_t, n_lt_f, n_eq_t, n_eq_f, n_cl, n_gd, n_gdt, n_nz, Int.reduceToNat, Int.reduceAdd, Int.reduceSub, Int.reduceMul, Int.reduceNeg, Int.reduceLT, Int.reduceLE, Int.reduceEq, Int.reduceDiv, Int.reduceMod, Nat.reduceAdd, Nat.reduceMul, ↓reduceIte, u_eq, u_no, u_nk, u_ek, u_2, u_3, j_1, j_3, j_eq, j_no, j_nk, ltd, bnd]
theorem c_unlike {B : Brd} {G : Gam} {o p : Nat} {s : ST} (h : GA B G o p s) {ax ay : Int → Int} (ha : AOk B ax ay) (hm : AM B ax ay s) : f_X3_unlike o 63 s = some (Int32.ofInt (unl B G ax ay), s) := by
  have hM0 : 0 ≤ bM B := h.1.1.1.1.2.2.2.2.2.2.1
  have hM : bM B ≤ 8 := h.1.1.1.1.2.2.2.2.2.2.2.1
  have := c_unlike_L h ha hm (bM B).toNat fuel 0 0 (by omega) (by omega) (by unfold fuel; omega)
  rw [Int.zero_add] at this
  exact this
theorem unl1_b (G : Gam) (ax ay : Int → Int) (m : Int) : 0 ≤ unl1 G ax ay m ∧ unl1 G ax ay m ≤ 1 := by unfold unl1; split <;> omega
theorem unl_b {B : Brd} (hB : Bv B) (G : Gam) (ax ay : Int → Int) : 0 ≤ unl B G ax ay ∧ unl B G ax ay ≤ 8 := by
  have hM : bM B ≤ 8 := hB.1.1.2.2.2.2.2.2.2.1
  have : ∀ (n : Nat) (i : Int), 0 ≤ smL (unl1 G ax ay) (upto n i) ∧ smL (unl1 G ax ay) (upto n i) ≤ n := by
    intro n
    induction n with
    | zero => intro i; exact ⟨Int.le_refl 0, Int.le_refl 0⟩
    | succ n ih =>
      intro i
      have a := ih (i + 1)
      have b := unl1_b G ax ay i
      simp only [upto, smL]
      omega
  have := this (bM B).toNat 0
  unfold unl mens
  omega
theorem unl_mv {B : Brd} (G : Gam) (m x y : Int) (ax ay : Int → Int) : unl B G ax ay ≤ unl B (mvG B G m x y) ax ay + 2 := by
  unfold unl mens
  have h1 : ∀ j, ¬ j = m → unl1 G ax ay j = (fun j => if j = m then unl1 (mvG B G m x y) ax ay j else unl1 G ax ay j) j := fun j hj => by
    show _ = if j = m then _ else _
    rw [if_neg hj]
  have h2 : ∀ j, ¬ j = mAt B G x y → (fun j => if j = m then unl1 (mvG B G m x y) ax ay j else unl1 G ax ay j) j = unl1 (mvG B G m x y) ax ay j := fun j hj => by
    show (if j = m then _ else _) = _
    by_cases e : j = m
    · rw [if_pos e]
    · rw [if_neg e]
      unfold unl1 asAim
      rw [mvG_x, mvG_y]
      simp only [if_neg e, if_neg hj]
  rw [smL_one h1, smL_one h2]
  have a1 := unl1_b G ax ay m
  have a2 := unl1_b (mvG B G m x y) ax ay m
  have a3 := unl1_b G ax ay (mAt B G x y)
  have a4 := unl1_b (mvG B G m x y) ax ay (mAt B G x y)
  generalize smL (unl1 (mvG B G m x y) ax ay) (upto (bM B).toNat 0) = w
  generalize unl1 G ax ay m = u1 at *
  generalize unl1 (mvG B G m x y) ax ay m = u2 at *
  generalize unl1 G ax ay (mAt B G x y) = u3 at *
  generalize unl1 (mvG B G m x y) ax ay (mAt B G x y) = u4 at *
  simp only [↓reduceIte]
  (repeat' split) <;> omega
theorem wfold (B : Brd) (f : Gam → Int) (G : Gam) (a : Int) : (mens B).foldl (wK B f G) a = (mvl B G).foldl (fun a x => a + f (mvK B G x.1 x.2)) a := by
  refine Eq.trans ?_ (fold_mvl B G (fun a m k => a + f (mvK B G m k)) (mens B) a)
  congr 1
  funext p m
  unfold wK
  congr 1
  funext p k
  unfold wstep cond
  by_cases c : sd B m = gs G ∧ goK B G m k = true
  · rw [if_pos c, if_pos (by rw [decide_eq_true c.1, c.2]; rfl)]
  · rw [if_neg c, if_neg (fun d => c (by rw [Bool.and_eq_true] at d; exact ⟨of_decide_eq_true d.1, d.2⟩))]
theorem sum_z {f : Int × Int → Int} (hf : ∀ x, 0 ≤ f x) : ∀ (l : List (Int × Int)) (a : Int), a ≤ l.foldl (fun a x => a + f x) a ∧ ((∀ x ∈ l, f x = 0) → l.foldl (fun a x => a + f x) a = a)
  | [], a => ⟨Int.le_refl a, fun _ => rfl⟩
  | x :: l, a => by
    have h := sum_z hf l (a + f x)
    have hx := hf x
    rw [List.foldl_cons]
    refine ⟨by omega, fun hz => ?_⟩
    have h0 := hz x List.mem_cons_self
    rw [h.2 (fun y hy => hz y (List.mem_cons_of_mem _ hy)), h0]
    omega
theorem wys_nn {B : Brd} {ax ay : Int → Int} : ∀ (d : Nat) (G : Gam), 0 ≤ wys B ax ay d G
  | 0, G => by show 0 ≤ wyB _; unfold wyB; split <;> omega
  | d + 1, G => by
    show 0 ≤ (if ct B G = true then 0 else (mens B).foldl (wK B (wys B ax ay d) G) 0)
    split
    · exact Int.le_refl 0
    · rw [wfold]
      exact (sum_z (f := fun x => wys B ax ay d (mvK B G x.1 x.2)) (fun x => wys_nn d _) _ _).1
theorem wys_far {B : Brd} (hB : Bv B) {ax ay : Int → Int} : ∀ (d : Nat) (G : Gam), 2 * (d : Int) < unl B G ax ay → wys B ax ay d G = 0
  | 0, G, h => by
    show wyB ((mens B).all (asAim G ax ay)) = 0
    cases e : (mens B).all (asAim G ax ay) with
    | false => rfl
    | true =>
      exfalso
      have key : ∀ l : List Int, l.all (asAim G ax ay) = true → smL (unl1 G ax ay) l = 0 := by
        intro l
        induction l with
        | nil => intro _; rfl
        | cons m l ih =>
          intro hl
          rw [List.all_cons, Bool.and_eq_true] at hl
          simp only [smL]
          rw [ih hl.2]
          unfold unl1
          rw [if_pos hl.1]
          rfl
      have := key _ e
      unfold unl at h
      omega
  | d + 1, G, h => by
    show (if ct B G = true then 0 else (mens B).foldl (wK B (wys B ax ay d) G) 0) = 0
    split
    · rfl
    · rw [wfold]
      refine (sum_z (f := fun x => wys B ax ay d (mvK B G x.1 x.2)) (fun x => wys_nn d _) _ _).2 (fun x _ => ?_)
      have := unl_mv (B := B) G x.1 (x.2 % bW B) (x.2 / bW B) ax ay
      exact wys_far hB d _ (by show _ < unl B (mvG B G x.1 (x.2 % bW B) (x.2 / bW B)) ax ay; omega)
theorem c_ways_L73 {B : Brd} {G : Gam} {o p : Nat} {ax ay : Int → Int} {rc : Nat → Nat → Int32 → Int32 → ST → Option (Int32 × ST)} {d m : Int} {f : Gam → Int} (m0 : 0 ≤ m) (m1 : m < bM B) {g : Int → Bool} (hgq : ∀ q, g q = true → gQ B G m q = true) (hrc : ∀ (G' : Gam) (s : ST), GA B G' o p s → AM B ax ay s → ∃ s', rc o 63 (Int32.ofInt (gs G')) (Int32.ofInt (d - 1)) s = some (Int32.ofInt (f G'), s') ∧ GA B G' o p s' ∧ Fm o s s') (K : Nat → Nat → Int32 → Int32 → Int32 → Int32 → ST → Option (Int32 × ST)) : ∀ (n F : Nat) (i a : Int) (s : ST), GA B G o p s → AM B ax ay s → 0 ≤ i → (n : Int) = 25 - i → n < F → ∃ s', GA B G o p s' ∧ Fm o s s' ∧ f_X3_waysTo_L73 rc K F o 63 (Int32.ofInt (gs G)) (Int32.ofInt d) (Int32.ofInt a) (Int32.ofInt m) (bmk g) (Int32.ofInt i) s = K o 63 (Int32.ofInt (gs G)) (Int32.ofInt d) (Int32.ofInt (((upto n i).filter g).foldl (fun a q => a + f (mvG B G m (q % 5) (q / 5))) a)) (Int32.ofInt (m + 1)) s' := by
  intro n
  by_cases hz : bmk g = Int32.ofInt 0
  · intro F i a s hA hM h0 hn hF
    obtain ⟨F, rfl⟩ : ∃ F', F = F' + 1 := ⟨F - 1, by omega⟩
    have hg := bmk_0.mp hz
    have hnil : (upto n i).filter g = [] := List.filter_eq_nil_iff.mpr (fun q hq => by
      rw [mem_upto] at hq
      rw [hg q (by omega) (by omega)]; decide)
    rw [hnil]
    refine ⟨s, hA, Fm.rf o s, ?_⟩
    simp (disch := omega) only [f_X3_waysTo_L73, hz, List.foldl_nil, n_i8, n_i16, n_0, n_31, n_add, n_sub, n_mul, n_neg, n_div, n_rem, n_le_t, n_le_f, n_lt_t, n_lt_f, n_eq_t, n_eq_f, n_cl, n_gd, n_gdt, n_nz, Int.reduceToNat, Int.reduceAdd, Int.reduceSub, Int.reduceMul, Int.reduceNeg, Int.reduceLT, Int.reduceLE, Int.reduceEq, Int.reduceDiv, Int.reduceMod, Nat.reduceAdd, Nat.reduceMul, ↓reduceIte]
  · induction n with
    | zero =>
      intro F i a s hA hM h0 hn hF
      obtain ⟨F, rfl⟩ : ∃ F', F = F' + 1 := ⟨F - 1, by omega⟩
      refine ⟨s, hA, Fm.rf o s, ?_⟩
      simp (disch := omega) only [f_X3_waysTo_L73, if_neg hz, upto, List.filter_nil, List.foldl_nil, n_i8, n_i16, n_0, n_31, n_add, n_sub, n_mul, n_neg, n_div, n_rem, n_le_t, n_le_f, n_lt_t, n_lt_f, n_eq_t, n_eq_f, n_cl, n_gd, n_gdt, n_nz, Int.reduceToNat, Int.reduceAdd, Int.reduceSub, Int.reduceMul, Int.reduceNeg, Int.reduceLT, Int.reduceLE, Int.reduceEq, Int.reduceDiv, Int.reduceMod, Nat.reduceAdd, Nat.reduceMul, ↓reduceIte]
    | succ n ih =>
      intro F i a s hA hM h0 hn hF
      obtain ⟨F, rfl⟩ : ∃ F', F = F' + 1 := ⟨F - 1, by omega⟩
      have hb := bit_q g (q := i) h0 (by omega)
      simp only [upto]
      rw [List.filter_cons]
      cases e : g i with
      | false =>
        rw [e] at hb
        rw [if_neg (by decide)]
        obtain ⟨s', q1, q2, q4⟩ := ih F (i + 1) a s hA hM (by omega) (by omega) (by omega)
        refine ⟨s', q1, q2, ?_⟩
        rw [← q4]
        rw [f_X3_waysTo_L73]
        simp (disch := omega) only [if_neg hz, hb, bI_f, n_i8, n_i16, n_0, n_31, n_add, n_sub, n_mul, n_neg, n_div, n_rem, n_le_t, n_le_f, n_lt_t, n_lt_f, n_eq_t, n_eq_f, n_cl, n_gd, n_gdt, n_nz, Int.reduceToNat, Int.reduceAdd, Int.reduceSub, Int.reduceMul, Int.reduceNeg, Int.reduceLT, Int.reduceLE, Int.reduceEq, Int.reduceDiv, Int.reduceMod, Nat.reduceAdd, Nat.reduceMul, ↓reduceIte]
      | true =>
        rw [e] at hb
        rw [if_pos rfl, List.foldl_cons]
        have hA' := hA
        obtain ⟨⟨hB, hG⟩, ⟨ho, hp⟩, hP, hPB, hplc, -⟩ := hA'
        have hM8 : bM B ≤ 8 := hB.1.1.2.2.2.2.2.2.2.1
        have cpl := hplc m m0 m1
        have hok := gQ_okM m0 m1 (hgq i e)
        obtain ⟨s1, w1, w2, w3⟩ := c_carry hA hok
        rw [show 5 * (i / 5) + i % 5 = i by omega] at w1
        obtain ⟨s2, w4, w5, w6⟩ := hrc _ s1 w2 (AM_Fm ho hM w3)
        obtain ⟨s3, w7, w8, w9⟩ := c_back hG hok w5
        have hsg : gs (mvG B G m (i % 5) (i / 5)) = 1 - gs G := mvG_s B G m _ _
        rw [hsg] at w4
        have F3 := (w3.tr w6).tr w9
        obtain ⟨s', q1, q2, q4⟩ := ih F (i + 1) (a + f (mvG B G m (i % 5) (i / 5))) s3 w8 (AM_Fm ho hM F3) (by omega) (by omega) (by omega)
        refine ⟨s', q1, F3.tr q2, ?_⟩
        rw [← q4]
        rw [f_X3_waysTo_L73]
        simp (disch := omega) only [if_neg hz, hb, cpl, w1, w4, w7, bI_t, g_kk, g_k1, g_n1, g_k2, g_n2, g_k3, g_n3, g_k4, g_n4, g_k5, g_n5, g_k7, g_n7, g_k8, g_n8, g_k9, g_n9, g_k6, g_r3, g_r4, g_r5, g_r6, g_r7, g_r10, g_q0, g_q1, g_q2, p_kk, p_k1, p_n1, p_k2, p_n2, p_k3, p_n3, p_k4, p_n4, p_k5, p_n5, p_k6, p_n6, p_k7, p_n7, p_k8, p_n8, p_k9, p_n9, p_k10, p_n10, p_k11, p_n11, p_k13, p_n13, p_k12, p_r2, p_r4, p_r5, p_r6, p_r7, p_r9, p_r10, p_r11, p_r13, p_r14, p_r15, p_r16, p_h0, n_i8, n_i16, n_0, n_31, n_add, n_sub, n_mul, n_neg, n_div, n_rem, n_le_t, n_le_f, n_lt_t, n_lt_f, n_eq_t, n_eq_f, n_cl, n_gd, n_gdt, n_nz, Int.reduceToNat, Int.reduceAdd, Int.reduceSub, Int.reduceMul, Int.reduceNeg, Int.reduceLT, Int.reduceLE, Int.reduceEq, Int.reduceDiv, Int.reduceMod, Nat.reduceAdd, Nat.reduceMul, ↓reduceIte, u_eq, u_no, u_nk, u_ek, u_2, u_3, j_1, j_3, j_eq, j_no, j_nk, ltd, bnd]
theorem c_ways_L29 {B : Brd} {G : Gam} {o p : Nat} {ax ay : Int → Int} {rc : Nat → Nat → Int32 → Int32 → ST → Option (Int32 × ST)} {d : Int} {f : Gam → Int} (hc : ct B G = false) (hrc : ∀ (G' : Gam) (s : ST), GA B G' o p s → AM B ax ay s → ∃ s', rc o 63 (Int32.ofInt (gs G')) (Int32.ofInt (d - 1)) s = some (Int32.ofInt (f G'), s') ∧ GA B G' o p s' ∧ Fm o s s') : ∀ (n F : Nat) (i a : Int) (s : ST), GA B G o p s → AM B ax ay s → 0 ≤ i → (n : Int) = bM B - i → n < F → ∃ s', GA B G o p s' ∧ Fm o s s' ∧ f_X3_waysTo_L29 rc F o 63 (Int32.ofInt (gs G)) (Int32.ofInt d) (Int32.ofInt a) (Int32.ofInt i) s = some (Int32.ofInt ((cml B G (upto n i)).foldl (fun a x => a + f (mvG B G x.1 (x.2 % 5) (x.2 / 5))) a), s') := by
  intro n
  induction n with
  | zero =>
    intro F i a s hA hAM h0 hn hF
    obtain ⟨F, rfl⟩ : ∃ F', F = F' + 1 := ⟨F - 1, by omega⟩
    have hA' := hA
    obtain ⟨⟨hB, hG⟩, ⟨ho, hp⟩, hP, hPB, -, -, -, -, h9⟩ := hA'
    rw [(ct_ctn G).2.mpr hc] at h9
    have c8 : s.1 p 8 = Int32.ofInt (bM B) := hPB.1.2.2.2.1
    have hM : bM B ≤ 8 := hB.1.1.2.2.2.2.2.2.2.1
    refine ⟨s, hA, Fm.rf o s, ?_⟩
    simp (disch := omega) only [f_X3_waysTo_L29, hP, c8, h9, upto, cml, List.flatMap_nil, List.foldl_nil, g_kk, g_k1, g_n1, g_k2, g_n2, g_k3, g_n3, g_k4, g_n4, g_k5, g_n5, g_k7, g_n7, g_k8, g_n8, g_k9, g_n9, g_k6, g_r3, g_r4, g_r5, g_r6, g_r7, g_r10, g_q0, g_q1, g_q2, p_kk, p_k1, p_n1, p_k2, p_n2, p_k3, p_n3, p_k4, p_n4, p_k5, p_n5, p_k6, p_n6, p_k7, p_n7, p_k8, p_n8, p_k9, p_n9, p_k10, p_n10, p_k11, p_n11, p_k13, p_n13, p_k12, p_r2, p_r4, p_r5, p_r6, p_r7, p_r9, p_r10, p_r11, p_r13, p_r14, p_r15, p_r16, p_h0, n_i8, n_i16, n_0, n_31, n_add, n_sub, n_mul, n_neg, n_div, n_rem, n_le_t, n_le_f, n_lt_t, n_lt_f, n_eq_t, n_eq_f, n_cl, n_gd, n_gdt, n_nz, Int.reduceToNat, Int.reduceAdd, Int.reduceSub, Int.reduceMul, Int.reduceNeg, Int.reduceLT, Int.reduceLE, Int.reduceEq, Int.reduceDiv, Int.reduceMod, Nat.reduceAdd, Nat.reduceMul, ↓reduceIte, u_eq, u_no, u_nk, u_ek, u_2, u_3, j_1, j_3, j_eq, j_no, j_nk, ltd, bnd]
  | succ n ih =>
    intro F i a s hA hAM h0 hn hF
    obtain ⟨F, rfl⟩ : ∃ F', F = F' + 1 := ⟨F - 1, by omega⟩
    have hA' := hA
    obtain ⟨⟨hB, hG⟩, ⟨ho, hp⟩, hP, hPB, -, -, -, -, h9⟩ := hA'
    rw [(ct_ctn G).2.mpr hc] at h9
    have c8 : s.1 p 8 = Int32.ofInt (bM B) := hPB.1.2.2.2.1
    have hM : bM B ≤ 8 := hB.1.1.2.2.2.2.2.2.2.1
    have hgs := hG.1.2.2
    have hi := c_isOut hA h0 (show i < bM B by omega) hgs.1 hgs.2
    have hg := c_goals hA h0 (show i < bM B by omega)
    have hcm : cml B G (upto (n + 1) i) = cm1 B G i ++ cml B G (upto n (i + 1)) := by
      show (i :: upto n (i + 1)).flatMap (cm1 B G) = _
      rw [List.flatMap_cons]
      rfl
    rw [hcm, List.foldl_append]
    cases e : outB B G (gs G) i with
    | false =>
      rw [e] at hi
      have hnil : cm1 B G i = [] := by unfold cm1; rw [if_neg (by rw [e]; decide)]
      rw [hnil, List.foldl_nil]
      obtain ⟨s1, w1, w2, w4⟩ := c_ways_L73 (G := G) (rc := rc) (d := d) h0 (show i < bM B by omega) (g := fun _ => false) (fun q h => by cases h) hrc (f_X3_waysTo_L29 rc F) 25 fuel 0 a s hA hAM (by omega) (by omega) (by unfold fuel; omega)
      have hnil2 : (upto 25 0).filter (fun _ : Int => false) = [] := List.filter_eq_nil_iff.mpr (fun _ _ => by decide)
      rw [hnil2, List.foldl_nil, bmk_no] at w4
      obtain ⟨s2, q1, q2, q4⟩ := ih F (i + 1) a s1 w1 (AM_Fm ho hAM w2) (by omega) (by omega) (by omega)
      refine ⟨s2, q1, w2.tr q2, ?_⟩
      refine Eq.trans ?_ (w4.trans q4)
      rw [f_X3_waysTo_L29]
      simp (disch := omega) only [f_X3_waysTo_j68, hP, c8, h9, hi, bI_f, g_kk, g_k1, g_n1, g_k2, g_n2, g_k3, g_n3, g_k4, g_n4, g_k5, g_n5, g_k7, g_n7, g_k8, g_n8, g_k9, g_n9, g_k6, g_r3, g_r4, g_r5, g_r6, g_r7, g_r10, g_q0, g_q1, g_q2, p_kk, p_k1, p_n1, p_k2, p_n2, p_k3, p_n3, p_k4, p_n4, p_k5, p_n5, p_k6, p_n6, p_k7, p_n7, p_k8, p_n8, p_k9, p_n9, p_k10, p_n10, p_k11, p_n11, p_k13, p_n13, p_k12, p_r2, p_r4, p_r5, p_r6, p_r7, p_r9, p_r10, p_r11, p_r13, p_r14, p_r15, p_r16, p_h0, n_i8, n_i16, n_0, n_31, n_add, n_sub, n_mul, n_neg, n_div, n_rem, n_le_t, n_le_f, n_lt_t, n_lt_f, n_eq_t, n_eq_f, n_cl, n_gd, n_gdt, n_nz, Int.reduceToNat, Int.reduceAdd, Int.reduceSub, Int.reduceMul, Int.reduceNeg, Int.reduceLT, Int.reduceLE, Int.reduceEq, Int.reduceDiv, Int.reduceMod, Nat.reduceAdd, Nat.reduceMul, ↓reduceIte, u_eq, u_no, u_nk, u_ek, u_2, u_3, j_1, j_3, j_eq, j_no, j_nk, ltd, bnd]
    | true =>
      rw [e] at hi
      have hcm1 : cm1 B G i = (pls.filter (gQ B G i)).map (fun q => (i, q)) := by unfold cm1; rw [if_pos e]
      rw [hcm1, List.foldl_map]
      obtain ⟨s1, w1, w2, w4⟩ := c_ways_L73 (G := G) (rc := rc) (d := d) h0 (show i < bM B by omega) (g := gQ B G i) (fun q h => h) hrc (f_X3_waysTo_L29 rc F) 25 fuel 0 a s hA hAM (by omega) (by omega) (by unfold fuel; omega)
      obtain ⟨s2, q1, q2, q4⟩ := ih F (i + 1) _ s1 w1 (AM_Fm ho hAM w2) (by omega) (by omega) (by omega)
      refine ⟨s2, q1, w2.tr q2, ?_⟩
      refine Eq.trans ?_ (w4.trans q4)
      rw [f_X3_waysTo_L29]
      simp (disch := omega) only [f_X3_waysTo_j68, hP, c8, h9, hi, hg, bI_t, g_kk, g_k1, g_n1, g_k2, g_n2, g_k3, g_n3, g_k4, g_n4, g_k5, g_n5, g_k7, g_n7, g_k8, g_n8, g_k9, g_n9, g_k6, g_r3, g_r4, g_r5, g_r6, g_r7, g_r10, g_q0, g_q1, g_q2, p_kk, p_k1, p_n1, p_k2, p_n2, p_k3, p_n3, p_k4, p_n4, p_k5, p_n5, p_k6, p_n6, p_k7, p_n7, p_k8, p_n8, p_k9, p_n9, p_k10, p_n10, p_k11, p_n11, p_k13, p_n13, p_k12, p_r2, p_r4, p_r5, p_r6, p_r7, p_r9, p_r10, p_r11, p_r13, p_r14, p_r15, p_r16, p_h0, n_i8, n_i16, n_0, n_31, n_add, n_sub, n_mul, n_neg, n_div, n_rem, n_le_t, n_le_f, n_lt_t, n_lt_f, n_eq_t, n_eq_f, n_cl, n_gd, n_gdt, n_nz, Int.reduceToNat, Int.reduceAdd, Int.reduceSub, Int.reduceMul, Int.reduceNeg, Int.reduceLT, Int.reduceLE, Int.reduceEq, Int.reduceDiv, Int.reduceMod, Nat.reduceAdd, Nat.reduceMul, ↓reduceIte, u_eq, u_no, u_nk, u_ek, u_2, u_3, j_1, j_3, j_eq, j_no, j_nk, ltd, bnd]
theorem c_ways {B : Brd} {o p : Nat} {ax ay : Int → Int} (ha : AOk B ax ay) : ∀ (n d : Nat) (G : Gam) (s : ST), d < n → d ≤ 9 → GA B G o p s → AM B ax ay s → ∃ s', t2_waysTo n o 63 (Int32.ofInt (gs G)) (Int32.ofInt (d : Int)) s = some (Int32.ofInt (wys B ax ay d G), s') ∧ GA B G o p s' ∧ Fm o s s' := by
  intro n
  induction n with
  | zero => intro d G s h; omega
  | succ n ih =>
    intro d G s hd h9d hA hAM
    have hA' := hA
    obtain ⟨⟨hB, hG⟩, ⟨ho, hp⟩, hP, hPB, -, -, -, -, h9⟩ := hA'
    have hcb := ctn_b hB G
    have hz := ct_ctn (B := B) G
    have hM0 : 0 ≤ bM B := hB.1.1.2.2.2.2.2.2.1
    have hM : bM B ≤ 8 := hB.1.1.2.2.2.2.2.2.2.1
    have hun := c_unlike hA ha hAM
    have hub := unl_b hB G ax ay
    show ∃ s', f_X3_waysTo (t2_waysTo n) o 63 (Int32.ofInt (gs G)) (Int32.ofInt (d : Int)) s = some (Int32.ofInt (wys B ax ay d G), s') ∧ _
    by_cases e1 : 2 * (d : Int) < unl B G ax ay
    · rw [wys_far hB d G e1]
      refine ⟨s, ?_, hA, Fm.rf o s⟩
      simp (disch := omega) only [f_X3_waysTo, hun, g_kk, g_k1, g_n1, g_k2, g_n2, g_k3, g_n3, g_k4, g_n4, g_k5, g_n5, g_k7, g_n7, g_k8, g_n8, g_k9, g_n9, g_k6, g_r3, g_r4, g_r5, g_r6, g_r7, g_r10, g_q0, g_q1, g_q2, p_kk, p_k1, p_n1, p_k2, p_n2, p_k3, p_n3, p_k4, p_n4, p_k5, p_n5, p_k6, p_n6, p_k7, p_n7, p_k8, p_n8, p_k9, p_n9, p_k10, p_n10, p_k11, p_n11, p_k13, p_n13, p_k12, p_r2, p_r4, p_r5, p_r6, p_r7, p_r9, p_r10, p_r11, p_r13, p_r14, p_r15, p_r16, p_h0, n_i8, n_i16, n_0, n_31, n_add, n_sub, n_mul, n_neg, n_div, n_rem, n_le_t, n_le_f, n_lt_t, n_lt_f, n_eq_t, n_eq_f, n_cl, n_gd, n_gdt, n_nz, Int.reduceToNat, Int.reduceAdd, Int.reduceSub, Int.reduceMul, Int.reduceNeg, Int.reduceLT, Int.reduceLE, Int.reduceEq, Int.reduceDiv, Int.reduceMod, Nat.reduceAdd, Nat.reduceMul, ↓reduceIte, u_eq, u_no, u_nk, u_ek, u_2, u_3, j_1, j_3, j_eq, j_no, j_nk, ltd, bnd]
    · match d, hd, h9d, e1 with
      | 0, _, _, e1 =>
        refine ⟨s, ?_, hA, Fm.rf o s⟩
        have hall : (mens B).all (asAim G ax ay) = true := by
          have key : ∀ l : List Int, smL (unl1 G ax ay) l ≤ 0 → l.all (asAim G ax ay) = true := by
            intro l
            induction l with
            | nil => intro _; rfl
            | cons m l ih =>
              intro hl
              simp only [smL] at hl
              have b := unl1_b G ax ay m
              have c : 0 ≤ smL (unl1 G ax ay) l := by
                clear ih hl
                induction l with
                | nil => exact Int.le_refl 0
                | cons k l ih2 => have := unl1_b G ax ay k; simp only [smL]; omega
              rw [List.all_cons, ih (by omega), Bool.and_true]
              cases k : asAim G ax ay m with
              | true => rfl
              | false =>
                have : unl1 G ax ay m = 1 := by unfold unl1; rw [k, if_neg (by decide)]
                omega
          exact key _ (by unfold unl at e1; omega)
        have hw : wys B ax ay 0 G = 1 := by
          show wyB ((mens B).all (asAim G ax ay)) = 1
          rw [hall]
          rfl
        rw [hw]
        show f_X3_waysTo (t2_waysTo n) o 63 (Int32.ofInt (gs G)) (Int32.ofInt 0) s = _
        simp (disch := omega) only [f_X3_waysTo, hun, g_kk, g_k1, g_n1, g_k2, g_n2, g_k3, g_n3, g_k4, g_n4, g_k5, g_n5, g_k7, g_n7, g_k8, g_n8, g_k9, g_n9, g_k6, g_r3, g_r4, g_r5, g_r6, g_r7, g_r10, g_q0, g_q1, g_q2, p_kk, p_k1, p_n1, p_k2, p_n2, p_k3, p_n3, p_k4, p_n4, p_k5, p_n5, p_k6, p_n6, p_k7, p_n7, p_k8, p_n8, p_k9, p_n9, p_k10, p_n10, p_k11, p_n11, p_k13, p_n13, p_k12, p_r2, p_r4, p_r5, p_r6, p_r7, p_r9, p_r10, p_r11, p_r13, p_r14, p_r15, p_r16, p_h0, n_i8, n_i16, n_0, n_31, n_add, n_sub, n_mul, n_neg, n_div, n_rem, n_le_t, n_le_f, n_lt_t, n_lt_f, n_eq_t, n_eq_f, n_cl, n_gd, n_gdt, n_nz, Int.reduceToNat, Int.reduceAdd, Int.reduceSub, Int.reduceMul, Int.reduceNeg, Int.reduceLT, Int.reduceLE, Int.reduceEq, Int.reduceDiv, Int.reduceMod, Nat.reduceAdd, Nat.reduceMul, ↓reduceIte, u_eq, u_no, u_nk, u_ek, u_2, u_3, j_1, j_3, j_eq, j_no, j_nk, ltd, bnd]
      | e + 1, hd, h9d, e1 =>
        have ecast : ((e + 1 : Nat) : Int) = (e : Int) + 1 := by omega
        rw [ecast] at e1 ⊢
        have hw : wys B ax ay (e + 1) G = if ct B G = true then 0 else (mens B).foldl (wK B (wys B ax ay e) G) 0 := rfl
        rw [hw]
        cases hc : ct B G with
        | true =>
          have hne : ¬ ctn B G = 0 := fun c => by have := hz.2.mp c; rw [hc] at this; cases this
          rw [if_pos rfl]
          refine ⟨s, ?_, hA, Fm.rf o s⟩
          have hL : ∀ F : Nat, f_X3_waysTo_L29 (t2_waysTo n) (F + 1) o 63 (Int32.ofInt (gs G)) (Int32.ofInt ((e : Int) + 1)) (Int32.ofInt 0) (Int32.ofInt 0) s = some (Int32.ofInt 0, s) := fun F => by
            simp (disch := omega) only [f_X3_waysTo_L29, h9, g_kk, g_k1, g_n1, g_k2, g_n2, g_k3, g_n3, g_k4, g_n4, g_k5, g_n5, g_k7, g_n7, g_k8, g_n8, g_k9, g_n9, g_k6, g_r3, g_r4, g_r5, g_r6, g_r7, g_r10, g_q0, g_q1, g_q2, p_kk, p_k1, p_n1, p_k2, p_n2, p_k3, p_n3, p_k4, p_n4, p_k5, p_n5, p_k6, p_n6, p_k7, p_n7, p_k8, p_n8, p_k9, p_n9, p_k10, p_n10, p_k11, p_n11, p_k13, p_n13, p_k12, p_r2, p_r4, p_r5, p_r6, p_r7, p_r9, p_r10, p_r11, p_r13, p_r14, p_r15, p_r16, p_h0, n_i8, n_i16, n_0, n_31, n_add, n_sub, n_mul, n_neg, n_div, n_rem, n_le_t, n_le_f, n_lt_t, n_lt_f, n_eq_t, n_eq_f, n_cl, n_gd, n_gdt, n_nz, Int.reduceToNat, Int.reduceAdd, Int.reduceSub, Int.reduceMul, Int.reduceNeg, Int.reduceLT, Int.reduceLE, Int.reduceEq, Int.reduceDiv, Int.reduceMod, Nat.reduceAdd, Nat.reduceMul, ↓reduceIte, u_eq, u_no, u_nk, u_ek, u_2, u_3, j_1, j_3, j_eq, j_no, j_nk, ltd, bnd]
          have hL : f_X3_waysTo_L29 (t2_waysTo n) fuel o 63 (Int32.ofInt (gs G)) (Int32.ofInt ((e : Int) + 1)) (Int32.ofInt 0) (Int32.ofInt 0) s = some (Int32.ofInt 0, s) := hL 99999
          simp (disch := omega) only [f_X3_waysTo, hun, hL, g_kk, g_k1, g_n1, g_k2, g_n2, g_k3, g_n3, g_k4, g_n4, g_k5, g_n5, g_k7, g_n7, g_k8, g_n8, g_k9, g_n9, g_k6, g_r3, g_r4, g_r5, g_r6, g_r7, g_r10, g_q0, g_q1, g_q2, p_kk, p_k1, p_n1, p_k2, p_n2, p_k3, p_n3, p_k4, p_n4, p_k5, p_n5, p_k6, p_n6, p_k7, p_n7, p_k8, p_n8, p_k9, p_n9, p_k10, p_n10, p_k11, p_n11, p_k13, p_n13, p_k12, p_r2, p_r4, p_r5, p_r6, p_r7, p_r9, p_r10, p_r11, p_r13, p_r14, p_r15, p_r16, p_h0, n_i8, n_i16, n_0, n_31, n_add, n_sub, n_mul, n_neg, n_div, n_rem, n_le_t, n_le_f, n_lt_t, n_lt_f, n_eq_t, n_eq_f, n_cl, n_gd, n_gdt, n_nz, Int.reduceToNat, Int.reduceAdd, Int.reduceSub, Int.reduceMul, Int.reduceNeg, Int.reduceLT, Int.reduceLE, Int.reduceEq, Int.reduceDiv, Int.reduceMod, Nat.reduceAdd, Nat.reduceMul, ↓reduceIte, u_eq, u_no, u_nk, u_ek, u_2, u_3, j_1, j_3, j_eq, j_no, j_nk, ltd, bnd]
        | false =>
          rw [if_neg (by decide), wfold]
          obtain ⟨s1, w1, w2, w3⟩ := c_ways_L29 (B := B) (G := G) (o := o) (p := p) (ax := ax) (ay := ay) (rc := t2_waysTo n) (d := (e : Int) + 1) (f := wys B ax ay e) hc (fun G' s' hGA' hAM' => by
            rw [show (e : Int) + 1 - 1 = (e : Int) by omega]
            exact ih e G' s' (by omega) (by omega) hGA' hAM') (bM B).toNat fuel 0 0 s hA hAM (by omega) (by omega) (by unfold fuel; omega)
          have hf := cml_fold hB (G := G) (fun (a : Int) m q => a + wys B ax ay e (mvG B G m (q % 5) (q / 5))) (fun a m k => a + wys B ax ay e (mvK B G m k)) (fun a m k _ _ k0 k1 _ _ => by rw [mvG_p5 hB k0 k1]) 0
          have w3 : f_X3_waysTo_L29 (t2_waysTo n) fuel o 63 (Int32.ofInt (gs G)) (Int32.ofInt ((e : Int) + 1)) (Int32.ofInt 0) (Int32.ofInt 0) s = some (Int32.ofInt ((cml B G (mens B)).foldl (fun a x => a + wys B ax ay e (mvG B G x.1 (x.2 % 5) (x.2 / 5))) 0), s1) := w3
          rw [hf] at w3
          refine ⟨s1, ?_, w1, w2⟩
          simp (disch := omega) only [f_X3_waysTo, hun, w3, g_kk, g_k1, g_n1, g_k2, g_n2, g_k3, g_n3, g_k4, g_n4, g_k5, g_n5, g_k7, g_n7, g_k8, g_n8, g_k9, g_n9, g_k6, g_r3, g_r4, g_r5, g_r6, g_r7, g_r10, g_q0, g_q1, g_q2, p_kk, p_k1, p_n1, p_k2, p_n2, p_k3, p_n3, p_k4, p_n4, p_k5, p_n5, p_k6, p_n6, p_k7, p_n7, p_k8, p_n8, p_k9, p_n9, p_k10, p_n10, p_k11, p_n11, p_k13, p_n13, p_k12, p_r2, p_r4, p_r5, p_r6, p_r7, p_r9, p_r10, p_r11, p_r13, p_r14, p_r15, p_r16, p_h0, n_i8, n_i16, n_0, n_31, n_add, n_sub, n_mul, n_neg, n_div, n_rem, n_le_t, n_le_f, n_lt_t, n_lt_f, n_eq_t, n_eq_f, n_cl, n_gd, n_gdt, n_nz, Int.reduceToNat, Int.reduceAdd, Int.reduceSub, Int.reduceMul, Int.reduceNeg, Int.reduceLT, Int.reduceLE, Int.reduceEq, Int.reduceDiv, Int.reduceMod, Nat.reduceAdd, Nat.reduceMul, ↓reduceIte, u_eq, u_no, u_nk, u_ek, u_2, u_3, j_1, j_3, j_eq, j_no, j_nk, ltd, bnd]
