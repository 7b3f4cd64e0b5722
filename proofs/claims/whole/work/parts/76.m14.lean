/-! L3: a day of the reference -/
theorem ua (s : ST) (o k : Nat) (x : Int32) (a b : Nat) : (uI s o k x).1 a b = if a = o ∧ b = k then x else s.1 a b := by
  unfold uI sm_up
  by_cases h1 : a = o
  · by_cases h2 : b = k
    · simp only [h1, h2, if_true, and_self]
    · simp only [h1, h2, if_true, if_false, and_false]
  · simp only [h1, if_false, false_and]
theorem ja (s : ST) (o k : Nat) (x : Int64) (a b : Nat) : (uJ s o k x).2.1 a b = if a = o ∧ b = k then x else s.2.1 a b := by
  unfold uJ sm_up
  by_cases h1 : a = o
  · by_cases h2 : b = k
    · simp only [h1, h2, if_true, and_self]
    · simp only [h1, h2, if_true, if_false, and_false]
  · simp only [h1, if_false, false_and]
theorem MB_fr {B : Brd} {s s' : ST} (hv : Bv B) (h : MB B s) (hf : ∀ o k : Nat, 101 ≤ o → o ≤ 108 → s'.1 o k = s.1 o k) : MB B s' := by
  obtain ⟨hMn, hMk, hMm, hMf⟩ := h
  refine ⟨?_, ?_, ?_, ?_⟩
  · unfold MBn at *
    rw [hf 101 3 (by omega) (by omega), hf 101 4 (by omega) (by omega), hf 101 5 (by omega) (by omega), hf 103 4 (by omega) (by omega), hf 103 5 (by omega) (by omega), hf 103 6 (by omega) (by omega), hf 103 7 (by omega) (by omega), hf 108 2 (by omega) (by omega), hf 108 3 (by omega) (by omega)]
    exact hMn
  · intro k h1 h2
    rw [hf 104 _ (by omega) (by omega), hf 104 _ (by omega) (by omega), hf 104 _ (by omega) (by omega), hf 104 _ (by omega) (by omega)]
    exact hMk k h1 h2
  · intro k h1 h2
    rw [hf 105 _ (by omega) (by omega), hf 105 _ (by omega) (by omega)]
    exact hMm k h1 h2
  · intro k h1 h2
    rw [hf 107 _ (by omega) (by omega), hf 107 _ (by omega) (by omega)]
    exact hMf k h1 h2
def setb (G : Gam) (f v : Int) : Gam := fun i j => if i = 3 ∧ j = f then v else G i j
theorem setb_d (G : Gam) (f v : Int) : gd_ (setb G f v) = gd_ G := rfl
theorem setb_s (G : Gam) (f v : Int) : gs (setb G f v) = gs G := rfl
theorem setb_x (G : Gam) (f v m : Int) : gx (setb G f v) m = gx G m := rfl
theorem setb_y (G : Gam) (f v m : Int) : gy (setb G f v) m = gy G m := rfl
theorem setb_b (G : Gam) (f v j : Int) : gb (setb G f v) j = if j = f then v else gb G j := by
  unfold gb setb
  by_cases h : j = f
  · rw [if_pos ⟨rfl, h⟩, if_pos h]
  · rw [if_neg (fun c => h c.2), if_neg h]
theorem Gv_setb {B : Brd} {G : Gam} (h : Gv B G) {f v : Int} (hv0 : 0 ≤ v) (hv1 : v ≤ 999) : Gv B (setb G f v) := by
  obtain ⟨h1, h2, h3, h4⟩ := h
  refine ⟨h1, h2, h3, fun j j1 j2 => ?_⟩
  rw [setb_b]
  split
  · omega
  · exact h4 j j1 j2
theorem MA_setb {B : Brd} {G : Gam} {s : ST} (h : MA B G s) {f v : Int} (h1 : 0 ≤ f) (h2 : f < bF B) (hv0 : 0 ≤ v) (hv1 : v ≤ 999) : MA B (setb G f v) (uI s 112 (18 + f).toNat (Int32.ofInt v)) := by
  obtain ⟨hB, hG, hM, hgn, hgm, hgf⟩ := h
  have hM8 : bM B ≤ 8 := hB.1.1.2.2.2.2.2.2.2.1
  refine ⟨hB, Gv_setb hG hv0 hv1, MB_fr hB hM (fun o k o1 o2 => u_no (by omega)), ?_, ?_, ?_⟩
  · unfold MGn at *
    rw [u_nk (by omega), u_nk (by omega)]
    exact hgn
  · intro m m1 m2
    rw [u_nk (by omega), u_nk (by omega), setb_x, setb_y]
    exact hgm m m1 m2
  · intro j j1 j2
    rw [setb_b]
    by_cases e : j = f
    · rw [if_pos e, u_ek (by omega)]
    · rw [if_neg e, u_nk (by omega)]
      exact hgf j j1 j2
def flipG (G : Gam) : Gam := fun i j => if i = 0 ∧ j = 1 then 1 - gs G else G i j
theorem flipG_s (G : Gam) : gs (flipG G) = 1 - gs G := rfl
theorem flipG_d (G : Gam) : gd_ (flipG G) = gd_ G := rfl
theorem Gv_flip {B : Brd} {G : Gam} (h : Gv B G) : Gv B (flipG G) := by
  obtain ⟨h1, h2, h3, h4⟩ := h
  refine ⟨?_, h2, h3, h4⟩
  rw [flipG_s, flipG_d]
  omega
theorem MA_flip {B : Brd} {G : Gam} {s : ST} (h : MA B G s) : MA B (flipG G) (uI s 112 1 (Int32.ofInt (1 - gs G))) := by
  obtain ⟨hB, hG, hM, hgn, hgm, hgf⟩ := h
  have hM8 : bM B ≤ 8 := hB.1.1.2.2.2.2.2.2.2.1
  refine ⟨hB, Gv_flip hG, MB_fr hB hM (fun o k o1 o2 => u_no (by omega)), ⟨?_, ?_⟩, ?_, ?_⟩
  · rw [u_nk (by omega), flipG_d]; exact hgn.1
  · rw [u_eq, flipG_s]
  · intro m m1 m2
    rw [u_nk (by omega), u_nk (by omega)]
    exact hgm m m1 m2
  · intro j j1 j2
    rw [u_nk (by omega)]
    exact hgf j j1 j2
def dayN (G : Gam) : Gam := fun i j => if i = 0 ∧ j = 0 then gd_ G + 1 else G i j
theorem dayN_s (G : Gam) : gs (dayN G) = gs G := rfl
theorem dayN_d (G : Gam) : gd_ (dayN G) = gd_ G + 1 := rfl
theorem dayN_b (G : Gam) (f : Int) : gb (dayN G) f = gb G f := rfl
theorem Gv_dayN {B : Brd} {G : Gam} (h : Gv B G) (hd : gd_ G ≤ 999) : Gv B (dayN G) := by
  obtain ⟨h1, h2, h3, h4⟩ := h
  refine ⟨?_, h2, h3, h4⟩
  rw [dayN_s, dayN_d]
  omega
theorem MA_dayN {B : Brd} {G : Gam} {s : ST} (h : MA B G s) (hd : gd_ G ≤ 999) : MA B (dayN G) (uI s 112 0 (Int32.ofInt (gd_ G + 1))) := by
  obtain ⟨hB, hG, hM, hgn, hgm, hgf⟩ := h
  have hM8 : bM B ≤ 8 := hB.1.1.2.2.2.2.2.2.2.1
  refine ⟨hB, Gv_dayN hG hd, MB_fr hB hM (fun o k o1 o2 => u_no (by omega)), ⟨?_, ?_⟩, ?_, ?_⟩
  · rw [u_eq, dayN_d]
  · rw [u_nk (by omega), dayN_s]; exact hgn.2
  · intro m m1 m2
    rw [u_nk (by omega), u_nk (by omega)]
    exact hgm m m1 m2
  · intro j j1 j2
    rw [u_nk (by omega)]
    exact hgf j j1 j2
/-- what a day may change -/
def Fdy (s s' : ST) : Prop := (∀ o k : Nat, ¬ (o = 112 ∧ k < 24) → ¬ (114 ≤ o ∧ o ≤ 117) → ¬ (o = 65 ∧ (k = 59 ∨ k = 117 ∨ (68 ≤ k ∧ k ≤ 70) ∨ k = 77)) → s'.1 o k = s.1 o k) ∧ (∀ o k : Nat, ¬ o = 148 → ¬ (o = 65 ∧ 71 ≤ k ∧ k ≤ 73) → s'.2.1 o k = s.2.1 o k) ∧ s'.2.2 = s.2.2
theorem Fdy.rf (s : ST) : Fdy s s := ⟨fun _ _ _ _ _ => rfl, fun _ _ _ _ => rfl, rfl⟩
theorem Fdy.tr {s t u : ST} (h1 : Fdy s t) (h2 : Fdy t u) : Fdy s u := ⟨fun o k a b c => (h2.1 o k a b c).trans (h1.1 o k a b c), fun o k a b => (h2.2.1 o k a b).trans (h1.2.1 o k a b), h2.2.2.trans h1.2.2⟩
theorem Sd.fd {s t : ST} (h : Sd s t) : Fdy s t := ⟨fun o k a b c => h.1 o k b (by omega), fun o k _ _ => by rw [h.2], by rw [h.2]⟩
theorem HF.fd {s t : ST} (h : HF s t) : Fdy s t := ⟨fun o k a b c => h.1 o k (by omega), fun o k a b => h.2.1 o k a (by omega), h.2.2⟩
theorem DF.fd {L : Int} {s t : ST} (h : DF L s t) : Fdy s t := ⟨fun o k a b c => h.1 o k (by omega) (by omega), fun o k _ _ => by rw [h.2], by rw [h.2]⟩
theorem MH_Fdy {B : Brd} {s s' : ST} (h : MH B s) (hf : Fdy s s') : MH B s' := MH_fr h (fun o k o1 o2 => hf.1 o k (by omega) (by omega) (by omega))
theorem MA_HF {B : Brd} {G : Gam} {s s' : ST} (h : MA B G s) (hs : HF s s') : MA B G s' := MA_fr h (fun o k hk => hs.1 o k (by omega))
/-- the men a move takes, worth and check of it -/
def tkm (B : Brd) (G : Gam) (k : Int) : Int := mAt B G (k % bW B) (k / bW B)
def tkw (B : Brd) (G : Gam) (k : Int) : Int := if tkm B G k = -1 then 0 else wo B (kd B (tkm B G k))
def ckv (B : Brd) (G : Gam) (m k : Int) : Int := if chk B (mvK B G m k) (gs (mvK B G m k)) = true then 1 else 0
def hitb (b h : Int) : Int := if h ≤ b then b - h else 0
def stp (B : Brd) (t c x y d : Int) (G : Gam) (f : Int) : Gam := setb G f (hitb (gb G f) (hvm B t c (farO (fx B f) (fy B f) x y) d))
def flds (B : Brd) : List Int := upto (bF B).toNat 0
def strG (B : Brd) (G : Gam) (m k : Int) : Gam := (flds B).foldl (stp B (tkw B G k) (ckv B G m k) (k % bW B) (k / bW B) (gd_ G)) (mvK B G m k)
def grw (B : Brd) (G : Gam) (f : Int) : Gam := setb G f (if gb G f + bGr B ≤ 999 then gb G f + bGr B else 999)
def dayG (B : Brd) (G : Gam) (A : CA) : Gam := dayN ((flds B).foldl (grw B) (if A.1 = -1 then flipG G else strG B G A.2.2.2.1 A.2.2.2.2))
def okA (B : Brd) (G : Gam) (A : CA) : Prop := A.1 = -1 ∨ ((0 ≤ A.1 ∧ A.1 ≤ 2147483647) ∧ 0 ≤ A.2.2.2.1 ∧ A.2.2.2.1 < bM B ∧ 0 ≤ A.2.2.2.2 ∧ A.2.2.2.2 < bW B * bH B ∧ sd B A.2.2.2.1 = gs G ∧ goK B G A.2.2.2.1 A.2.2.2.2 = true)
theorem fold_d {B : Brd} {g : Gam → Int → Gam} (hg : ∀ G f, gd_ (g G f) = gd_ G) : ∀ (l : List Int) (G : Gam), gd_ (l.foldl g G) = gd_ G
  | [], _ => rfl
  | f :: l, G => by rw [List.foldl_cons, fold_d (B := B) hg l, hg]
theorem fold_s {B : Brd} {g : Gam → Int → Gam} (hg : ∀ G f, gs (g G f) = gs G) : ∀ (l : List Int) (G : Gam), gs (l.foldl g G) = gs G
  | [], _ => rfl
  | f :: l, G => by rw [List.foldl_cons, fold_s (B := B) hg l, hg]
theorem strG_d (B : Brd) (G : Gam) (m k : Int) : gd_ (strG B G m k) = gd_ G := (fold_d (B := B) (g := stp B (tkw B G k) (ckv B G m k) (k % bW B) (k / bW B) (gd_ G)) (fun _ _ => rfl) _ _).trans rfl
theorem strG_s (B : Brd) (G : Gam) (m k : Int) : gs (strG B G m k) = 1 - gs G := (fold_s (B := B) (g := stp B (tkw B G k) (ckv B G m k) (k % bW B) (k / bW B) (gd_ G)) (fun _ _ => rfl) _ _).trans rfl
theorem dayG_s (B : Brd) (G : Gam) (A : CA) : gs (dayG B G A) = 1 - gs G := by
  unfold dayG
  rw [dayN_s, fold_s (B := B) (g := grw B) (fun _ _ => rfl)]
  split
  · rfl
  · exact strG_s B G _ _
theorem dayG_d (B : Brd) (G : Gam) (A : CA) : gd_ (dayG B G A) = gd_ G + 1 := by
  unfold dayG
  rw [dayN_d, fold_d (B := B) (g := grw B) (fun _ _ => rfl)]
  split
  · rfl
  · rw [strG_d]
theorem m_plays_L {B : Brd} (hV : Hv B) {t c x y d : Int} (ht : lb t) (ht0 : 0 ≤ t) (hc : lb c) (x1 : -10 ≤ x) (x2 : x ≤ 10) (y1 : -10 ≤ y) (y2 : y ≤ 10) (hd1 : d ≤ 1000) (K : ST → Option ST) : ∀ (n F : Nat) (i : Int) (G : Gam) (s : ST), MA B G s → MH B s → gd_ G = d → s.2.1 65 71 = Int64.ofInt t → s.2.1 65 72 = Int64.ofInt c → 0 ≤ i → (n : Int) = bF B - i → n < F → ∃ s', Fdy s s' ∧ (∀ k : Nat, ¬ k = 117 → ¬ k = 59 → s'.1 65 k = s.1 65 k) ∧ MA B ((upto n i).foldl (stp B t c x y d) G) s' ∧ f_X10_playsChosen_L104 K F (Int32.ofInt x) (Int32.ofInt y) (Int32.ofInt i) s = K s' := by
  intro n
  induction n with
  | zero =>
    intro F i G s h hH hd g1 g2 h0 hn hF
    obtain ⟨F, rfl⟩ : ∃ F', F = F' + 1 := ⟨F - 1, by omega⟩
    have hff := m_fieldMany h
    have hF6 : bF B ≤ 6 := h.1.1.1.2.2.2.2.2.2.2.2.2
    refine ⟨s, Fdy.rf s, fun _ _ _ => rfl, h, ?_⟩
    simp (disch := omega) only [f_X10_playsChosen_L104, hff, n_i8, n_i16, n_0, n_31, n_add, n_sub, n_mul, n_neg, n_div, n_rem, n_le_t, n_le_f, n_lt_t, n_lt_f, n_eq_t, n_eq_f, n_cl, n_gd, n_gdt, n_nz, Int.reduceToNat, Int.reduceAdd, Int.reduceSub, Int.reduceMul, Int.reduceNeg, Int.reduceLT, Int.reduceLE, Int.reduceEq, Int.reduceDiv, Int.reduceMod, Nat.reduceAdd, Nat.reduceMul, ↓reduceIte, u_eq, u_no, u_nk, u_ek, u_2, u_3, j_1, j_3, j_eq, j_no, j_nk, lt_def, Option.bind_some]
  | succ n ih =>
    intro F i G s h hH hd g1 g2 h0 hn hF
    obtain ⟨F, rfl⟩ : ∃ F', F = F' + 1 := ⟨F - 1, by omega⟩
    have hff := m_fieldMany h
    have hF6 : bF B ≤ 6 := h.1.1.1.2.2.2.2.2.2.2.2.2
    have hfp := h.1.2.2.2.1 i h0 (by omega)
    have hgb := h.2.1.2.2.2 i h0 (by omega)
    have hcf := h.2.2.1.2.2.2 i h0 (by omega)
    have hWW : bW B ≤ 5 := h.1.1.1.2.1
    have hHH : bH B ≤ 5 := h.1.1.1.2.2.2.1
    have hday := m_day h
    have hdd := h.2.1.1
    rw [hd] at hday hdd
    obtain ⟨s1, q1, q2, q3, q4⟩ := m_harmAt hH hV g1 g2 hday ht ht0 hc hdd.1 hd1 (x := fx B i) (y := fy B i) (a := x) (b := y) (by omega) (by omega) (by omega) (by omega) x1 x2 y1 y2
    have hA1 := MA_HF h q2
    have hcb : s1.1 112 (18 + i).toNat = Int32.ofInt (gb G i) := hA1.2.2.2.2.2 i h0 (by omega)
    simp only [upto, List.foldl_cons]
    have hst : stp B t c x y d G i = setb G i (hitb (gb G i) (hvm B t c (farO (fx B i) (fy B i) x y) d)) := rfl
    generalize hvm B t c (farO (fx B i) (fy B i) x y) d = w at *
    have hw : 0 ≤ hitb (gb G i) w ∧ hitb (gb G i) w ≤ 999 := by unfold hitb; split <;> omega
    have hA2 := MA_setb hA1 h0 (show i < bF B by omega) hw.1 hw.2
    have hfr : Fdy s (uI s1 112 (18 + i).toNat (Int32.ofInt (hitb (gb G i) w))) := q2.fd.tr ⟨fun o k a b c => by (simp only [ua, ja, u_2, u_3, j_1, j_3]; (repeat' split) <;> first | rfl | (exfalso; omega)), fun o k a b => rfl, rfl⟩
    rw [hst]
    obtain ⟨s2, q5, q5b, q6, q7⟩ := ih F (i + 1) _ _ hA2 (MH_Fdy hH hfr) hd (by rw [u_2, q2.2.1 65 71 (by omega) (by omega)]; exact g1) (by rw [u_2, q2.2.1 65 72 (by omega) (by omega)]; exact g2) (by omega) (by omega) (by omega)
    refine ⟨s2, hfr.tr q5, fun k k1 k2 => ?_, q6, ?_⟩
    · rw [q5b k k1 k2, u_no (by omega), q2.1 65 k (by omega)]
    · rw [← q7]
      by_cases e : w ≤ gb G i
      · have e' : hitb (gb G i) w = gb G i - w := by unfold hitb; rw [if_pos e]
        rw [e']
        by_cases e2 : w = gb G i
        · simp (disch := omega) only [f_X10_playsChosen_L104, f_X10_playsChosen_j189, hff, hcf.1, hcf.2, q1, hcb, n_i8, n_i16, n_0, n_31, n_add, n_sub, n_mul, n_neg, n_div, n_rem, n_le_t, n_le_f, n_lt_t, n_lt_f, n_eq_t, n_eq_f, n_cl, n_gd, n_gdt, n_nz, Int.reduceToNat, Int.reduceAdd, Int.reduceSub, Int.reduceMul, Int.reduceNeg, Int.reduceLT, Int.reduceLE, Int.reduceEq, Int.reduceDiv, Int.reduceMod, Nat.reduceAdd, Nat.reduceMul, ↓reduceIte, l_0, l_1, l_00, l_i, l_j, l_add, l_sub, l_mul, l_gt, l_ceq, l_clt, l_nz, u_eq, u_no, u_nk, u_ek, u_2, u_3, j_1, j_3, j_eq, j_no, j_nk, lt_def, Option.bind_some]
        · simp (disch := omega) only [f_X10_playsChosen_L104, f_X10_playsChosen_j189, hff, hcf.1, hcf.2, q1, hcb, n_i8, n_i16, n_0, n_31, n_add, n_sub, n_mul, n_neg, n_div, n_rem, n_le_t, n_le_f, n_lt_t, n_lt_f, n_eq_t, n_eq_f, n_cl, n_gd, n_gdt, n_nz, Int.reduceToNat, Int.reduceAdd, Int.reduceSub, Int.reduceMul, Int.reduceNeg, Int.reduceLT, Int.reduceLE, Int.reduceEq, Int.reduceDiv, Int.reduceMod, Nat.reduceAdd, Nat.reduceMul, ↓reduceIte, l_0, l_1, l_00, l_i, l_j, l_add, l_sub, l_mul, l_gt, l_ceq, l_clt, l_nz, u_eq, u_no, u_nk, u_ek, u_2, u_3, j_1, j_3, j_eq, j_no, j_nk, lt_def, Option.bind_some]
      · have e' : hitb (gb G i) w = 0 := by unfold hitb; rw [if_neg e]
        rw [e']
        simp (disch := omega) only [f_X10_playsChosen_L104, f_X10_playsChosen_j189, hff, hcf.1, hcf.2, q1, hcb, n_i8, n_i16, n_0, n_31, n_add, n_sub, n_mul, n_neg, n_div, n_rem, n_le_t, n_le_f, n_lt_t, n_lt_f, n_eq_t, n_eq_f, n_cl, n_gd, n_gdt, n_nz, Int.reduceToNat, Int.reduceAdd, Int.reduceSub, Int.reduceMul, Int.reduceNeg, Int.reduceLT, Int.reduceLE, Int.reduceEq, Int.reduceDiv, Int.reduceMod, Nat.reduceAdd, Nat.reduceMul, ↓reduceIte, l_0, l_1, l_00, l_i, l_j, l_add, l_sub, l_mul, l_gt, l_ceq, l_clt, l_nz, u_eq, u_no, u_nk, u_ek, u_2, u_3, j_1, j_3, j_eq, j_no, j_nk, lt_def, Option.bind_some]
