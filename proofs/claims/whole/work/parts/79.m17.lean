/-! L3: chosen moves are moves; days ahead of the reference -/
theorem mvl_mem {B : Brd} {G : Gam} (h0 : 0 ≤ bM B) {p : Int × Int} (h : p ∈ mvl B G) : 0 ≤ p.1 ∧ p.1 < bM B ∧ 0 ≤ p.2 ∧ p.2 < bW B * bH B ∧ sd B p.1 = gs G ∧ goK B G p.1 p.2 = true := by
  unfold mvl at h
  obtain ⟨m, hm, h⟩ := List.mem_flatMap.mp h
  unfold mv1 at h
  obtain ⟨k, hk, rfl⟩ := List.mem_map.mp h
  obtain ⟨hk1, hk2⟩ := List.mem_filter.mp hk
  unfold sqs at hk1
  rw [mem_upto] at hk1
  rw [mem_mens h0] at hm
  unfold cond at hk2
  rw [Bool.and_eq_true] at hk2
  exact ⟨hm.1, hm.2, hk1.1, by omega, of_decide_eq_true hk2.1, hk2.2⟩
theorem okA_chz {B : Brd} {G : Gam} (h0 : 0 ≤ bM B) {w : Int} (hw : w ≤ 2147483647) : okA B G (chz B G w) := by
  unfold chz
  split
  · exact Or.inl rfl
  · rename_i hc
    have hc : ¬ w < 0 ∧ ¬ ct B G = true ∧ ¬ ((mvl B G).length : Int) ≤ w := ⟨fun c => hc (Or.inl c), fun c => hc (Or.inr (Or.inl c)), fun c => hc (Or.inr (Or.inr c))⟩
    have hl : w.toNat < (mvl B G).length := by omega
    have hg : (mvl B G).getD w.toNat (0, 0) ∈ mvl B G := by
      rw [List.getD_eq_getElem?_getD, List.getElem?_eq_getElem hl]
      exact List.getElem_mem hl
    exact Or.inr ⟨⟨by omega, hw⟩, mvl_mem h0 hg⟩
def okB (B : Brd) (G : Gam) (c : Int) (A : CA) : Prop := okA B G A ∧ 0 ≤ A.2.2.1 ∧ A.2.2.1 ≤ c
theorem okB_step {B : Brd} {G : Gam} {f : Gam → Int} {c m k : Int} {A : CA} (h : okB B G c A) (hc : c ≤ 100000) (m1 : 0 ≤ m) (m2 : m < bM B) (k1 : 0 ≤ k) (k2 : k < bW B * bH B) : okB B G (c + 1) (cstep B f G m A k) := by
  obtain ⟨h1, h2, h3⟩ := h
  unfold cstep
  split
  · rename_i hh
    unfold cput
    split
    · exact ⟨Or.inr ⟨⟨h2, by show A.2.2.1 ≤ _; omega⟩, m1, m2, k1, k2, hh.1, hh.2⟩, by show 0 ≤ A.2.2.1 + 1; omega, by show A.2.2.1 + 1 ≤ c + 1; omega⟩
    · exact ⟨h1, by show 0 ≤ A.2.2.1 + 1; omega, by show A.2.2.1 + 1 ≤ c + 1; omega⟩
  · exact ⟨h1, h2, by omega⟩
theorem okB_f1 {B : Brd} {G : Gam} {f : Gam → Int} {m : Int} (m1 : 0 ≤ m) (m2 : m < bM B) : ∀ (l : List Int) (c : Int) (A : CA), okB B G c A → c + l.length ≤ 100000 → (∀ k ∈ l, 0 ≤ k ∧ k < bW B * bH B) → okB B G (c + l.length) (l.foldl (cstep B f G m) A)
  | [], c, A, h, _, _ => by simpa using h
  | k :: l, c, A, h, hc, hl => by
    rw [List.length_cons] at hc ⊢
    have hk := hl k List.mem_cons_self
    have := okB_f1 (f := f) m1 m2 l (c + 1) _ (okB_step (f := f) h (by omega) m1 m2 hk.1 hk.2) (by omega) (fun j hj => hl j (List.mem_cons_of_mem _ hj))
    rw [List.foldl_cons, show c + ((l.length + 1 : Nat) : Int) = c + 1 + (l.length : Int) by omega]
    exact this
theorem okB_f2 {B : Brd} {G : Gam} {f : Gam → Int} (hs : (sqs B).length ≤ 25) : ∀ (l : List Int) (c : Int) (A : CA), okB B G c A → c + 25 * l.length ≤ 100000 → (∀ m ∈ l, 0 ≤ m ∧ m < bM B) → okB B G (c + 25 * l.length) (l.foldl (cK B f G) A)
  | [], c, A, h, _, _ => by simpa using h
  | m :: l, c, A, h, hc, hl => by
    rw [List.length_cons] at hc ⊢
    have hm := hl m List.mem_cons_self
    have h1 := okB_f1 (f := f) hm.1 hm.2 (sqs B) c A h (by omega) (fun k hk => by unfold sqs at hk; rw [mem_upto] at hk; omega)
    have h2 : okB B G (c + 25) (cK B f G A m) := ⟨h1.1, h1.2.1, by have : (cK B f G A m).2.2.1 ≤ c + (sqs B).length := h1.2.2; omega⟩
    have := okB_f2 (f := f) hs l (c + 25) _ h2 (by omega) (fun j hj => hl j (List.mem_cons_of_mem _ hj))
    rw [List.foldl_cons, show c + 25 * ((l.length + 1 : Nat) : Int) = c + 25 + 25 * (l.length : Int) by omega]
    exact this
theorem sqs_len {B : Brd} (hB : Bv B) : (sqs B).length ≤ 25 := by
  have hW : bW B ≤ 5 := hB.1.1.2.1
  have hH : bH B ≤ 5 := hB.1.1.2.2.2.1
  have := Int.mul_le_mul hW hH hB.1.1.2.2.1 (by omega)
  unfold sqs
  rw [upto_len]
  omega
theorem okA_cb {B : Brd} {G : Gam} {f : Gam → Int} (hB : Bv B) : okA B G (cb B f G) := by
  have hM : bM B ≤ 8 := hB.1.1.2.2.2.2.2.2.2.1
  have hM0 : 0 ≤ bM B := hB.1.1.2.2.2.2.2.2.1
  unfold cb
  split
  · exact Or.inl rfl
  · have hl : (mens B).length = (bM B).toNat := upto_len
    exact (okB_f2 (sqs_len hB) (mens B) 0 _ ⟨Or.inl rfl, by show (0 : Int) ≤ 0; omega, by show (0 : Int) ≤ 0; omega⟩ (by omega) (fun m hm => (mem_mens hM0).mp hm)).1
/-- how deep a side looks -/
def dpt (B : Brd) (ds db t : Int) : Int := if t = ds then db else bD B t
def bestA (B : Brd) (d : Int) (G : Gam) : CA := cb B (val B (d - 1).toNat) G
def todA (B : Brd) (ds db : Int) (G : Gam) : CA := bestA B (dpt B ds db (gs G)) G
def dayB (B : Brd) (ds db : Int) (G : Gam) : Gam := dayG B G (todA B ds db G)
def daysN (B : Brd) (ds db : Int) : Nat → Gam → Gam
  | 0, G => G
  | n + 1, G => daysN B ds db n (dayB B ds db G)
theorem daysN_d (B : Brd) (ds db : Int) : ∀ (n : Nat) (G : Gam), gd_ (daysN B ds db n G) = gd_ G + n
  | 0, G => by simp [daysN]
  | n + 1, G => by
    rw [daysN, daysN_d B ds db n, dayB, dayG_d]
    omega
def Bd (B : Brd) : Prop := 1 ≤ bD B 0 ∧ bD B 0 ≤ 2 ∧ 1 ≤ bD B 1 ∧ bD B 1 ≤ 2
/-- the deeper look that is tried -/
def DQ (ds db : Int) (s : ST) : Prop := s.1 65 78 = Int32.ofInt ds ∧ (ds = -1 ∨ s.1 65 79 = Int32.ofInt db)
theorem m_today {B : Brd} {G : Gam} {s : ST} (h : MA B G s) (hD : Bd B) {ds db : Int} (hq : DQ ds db s) (h1 : -1 ≤ ds) (h2 : ds ≤ 1) (h3 : ds = -1 ∨ (1 ≤ db ∧ db ≤ 2)) : ∃ s', f_X10_choosesToday s = some s' ∧ Sd s s' ∧ CH (todA B ds db G) s' := by
  have hs := m_side h
  have hgs := h.2.1.1.2.2
  obtain ⟨g1, g2⟩ := hq
  have c6 : s.1 103 6 = Int32.ofInt (bD B 0) := h.2.2.1.1.2.2.2.2.2.1
  have c7 : s.1 103 7 = Int32.ofInt (bD B 1) := h.2.2.1.1.2.2.2.2.2.2.1
  unfold Bd at hD
  by_cases e : gs G = ds
  · have g2 : s.1 65 79 = Int32.ofInt db := by
      rcases g2 with g2 | g2
      · omega
      · exact g2
    have hd : dpt B ds db (gs G) = db := by unfold dpt; rw [if_pos e]
    obtain ⟨s', q1, q2, q3⟩ := m_choosesBest h (d := db) (by omega) (by omega)
    refine ⟨s', ?_, q2, ?_⟩
    · rw [e] at hs
      simp (disch := omega) only [f_X10_choosesToday, f_X10_choosesToday_j35, hs, g1, g2, q1, n_i8, n_i16, n_0, n_31, n_add, n_sub, n_mul, n_neg, n_div, n_rem, n_le_t, n_le_f, n_lt_t, n_lt_f, n_eq_t, n_eq_f, n_cl, n_gd, n_gdt, n_nz, Int.reduceToNat, Int.reduceAdd, Int.reduceSub, Int.reduceMul, Int.reduceNeg, Int.reduceLT, Int.reduceLE, Int.reduceEq, Int.reduceDiv, Int.reduceMod, Nat.reduceAdd, Nat.reduceMul, ↓reduceIte, u_eq, u_no, u_nk, u_ek, u_2, u_3, j_1, j_3, j_eq, j_no, j_nk, lt_def, Option.bind_some, Int.toNat_one]
    · unfold todA bestA; rw [hd]; exact q3
  · have hd : dpt B ds db (gs G) = bD B (gs G) := by unfold dpt; rw [if_neg e]
    have hc : gs G = 0 ∨ gs G = 1 := by omega
    rcases hc with e2 | e2
    · obtain ⟨s', q1, q2, q3⟩ := m_choosesBest h (d := bD B 0) (by omega) (by omega)
      refine ⟨s', ?_, q2, ?_⟩
      · rw [e2] at hs e
        simp (disch := omega) only [f_X10_choosesToday, f_X10_choosesToday_j35, hs, g1, c6, q1, n_i8, n_i16, n_0, n_31, n_add, n_sub, n_mul, n_neg, n_div, n_rem, n_le_t, n_le_f, n_lt_t, n_lt_f, n_eq_t, n_eq_f, n_cl, n_gd, n_gdt, n_nz, Int.reduceToNat, Int.reduceAdd, Int.reduceSub, Int.reduceMul, Int.reduceNeg, Int.reduceLT, Int.reduceLE, Int.reduceEq, Int.reduceDiv, Int.reduceMod, Nat.reduceAdd, Nat.reduceMul, ↓reduceIte, u_eq, u_no, u_nk, u_ek, u_2, u_3, j_1, j_3, j_eq, j_no, j_nk, lt_def, Option.bind_some, Int.toNat_one]
      · unfold todA bestA; rw [hd, e2]; exact q3
    · obtain ⟨s', q1, q2, q3⟩ := m_choosesBest h (d := bD B 1) (by omega) (by omega)
      refine ⟨s', ?_, q2, ?_⟩
      · rw [e2] at hs e
        simp (disch := omega) only [f_X10_choosesToday, f_X10_choosesToday_j35, hs, g1, c7, q1, n_i8, n_i16, n_0, n_31, n_add, n_sub, n_mul, n_neg, n_div, n_rem, n_le_t, n_le_f, n_lt_t, n_lt_f, n_eq_t, n_eq_f, n_cl, n_gd, n_gdt, n_nz, Int.reduceToNat, Int.reduceAdd, Int.reduceSub, Int.reduceMul, Int.reduceNeg, Int.reduceLT, Int.reduceLE, Int.reduceEq, Int.reduceDiv, Int.reduceMod, Nat.reduceAdd, Nat.reduceMul, ↓reduceIte, u_eq, u_no, u_nk, u_ek, u_2, u_3, j_1, j_3, j_eq, j_no, j_nk, lt_def, Option.bind_some, Int.toNat_one]
      · unfold todA bestA; rw [hd, e2]; exact q3
theorem DQ_fd {ds db : Int} {s s' : ST} (h : DQ ds db s) (hf : Fdy s s') : DQ ds db s' := ⟨(hf.1 65 78 (by omega) (by omega) (by omega)).trans h.1, h.2.imp id (fun g => (hf.1 65 79 (by omega) (by omega) (by omega)).trans g)⟩
theorem m_daysGo_L {B : Brd} (hD : Bd B) (hV : Hv B) {ds db N : Int} (hN : N ≤ 1000) (h1 : -1 ≤ ds) (h2 : ds ≤ 1) (h3 : ds = -1 ∨ (1 ≤ db ∧ db ≤ 2)) : ∀ (n F : Nat) (i : Int) (G : Gam) (s : ST), MA B G s → MH B s → DQ ds db s → s.1 65 75 = Int32.ofInt 1 → 0 ≤ i → (n : Int) = N - i → n < F → gd_ G + n ≤ 1000 → ∃ s', f_X10_daysGo_L2 F (Int32.ofInt N) (Int32.ofInt i) s = some s' ∧ Fdy s s' ∧ MA B (daysN B ds db n G) s' := by
  intro n
  induction n with
  | zero =>
    intro F i G s h hMH hq ht h0 hn hF hd
    obtain ⟨F, rfl⟩ : ∃ F', F = F' + 1 := ⟨F - 1, by omega⟩
    refine ⟨s, ?_, Fdy.rf s, h⟩
    simp (disch := omega) only [f_X10_daysGo_L2, n_i8, n_i16, n_0, n_31, n_add, n_sub, n_mul, n_neg, n_div, n_rem, n_le_t, n_le_f, n_lt_t, n_lt_f, n_eq_t, n_eq_f, n_cl, n_gd, n_gdt, n_nz, Int.reduceToNat, Int.reduceAdd, Int.reduceSub, Int.reduceMul, Int.reduceNeg, Int.reduceLT, Int.reduceLE, Int.reduceEq, Int.reduceDiv, Int.reduceMod, Nat.reduceAdd, Nat.reduceMul, ↓reduceIte]
  | succ n ih =>
    intro F i G s h hMH hq ht h0 hn hF hd
    obtain ⟨F, rfl⟩ : ∃ F', F = F' + 1 := ⟨F - 1, by omega⟩
    obtain ⟨s1, q1, q2, q3⟩ := m_today h hD hq h1 h2 h3
    have hA1 := MA_Sd h q2
    have ht1 : s1.1 65 75 = Int32.ofInt 1 := (q2.1 65 75 (by omega) (by omega)).trans ht
    obtain ⟨s2, q4, q5, q6⟩ := m_dayT hA1 (MH_Fdy hMH q2.fd) hV q3 (okA_cb h.1) (by omega) ht1
    have f2 := q2.fd.tr q5
    obtain ⟨s3, q7, q8, q9⟩ := ih F (i + 1) _ s2 q6 (MH_Fdy hMH f2) (DQ_fd hq f2) ((f2.1 65 75 (by omega) (by omega) (by omega)).trans ht) (by omega) (by omega) (by omega) (by rw [dayG_d]; omega)
    refine ⟨s3, ?_, f2.tr q8, q9⟩
    rw [← q7]
    simp (disch := omega) only [f_X10_daysGo_L2, q1, q4, n_i8, n_i16, n_0, n_31, n_add, n_sub, n_mul, n_neg, n_div, n_rem, n_le_t, n_le_f, n_lt_t, n_lt_f, n_eq_t, n_eq_f, n_cl, n_gd, n_gdt, n_nz, Int.reduceToNat, Int.reduceAdd, Int.reduceSub, Int.reduceMul, Int.reduceNeg, Int.reduceLT, Int.reduceLE, Int.reduceEq, Int.reduceDiv, Int.reduceMod, Nat.reduceAdd, Nat.reduceMul, ↓reduceIte, u_eq, u_no, u_nk, u_ek, u_2, u_3, j_1, j_3, j_eq, j_no, j_nk, lt_def, Option.bind_some]
theorem m_daysGo {B : Brd} {G : Gam} {s : ST} (h : MA B G s) (hMH : MH B s) (hD : Bd B) (hV : Hv B) {ds db N : Int} (hq : DQ ds db s) (ht : s.1 65 75 = Int32.ofInt 1) (hN0 : 0 ≤ N) (hN : N ≤ 1000) (h1 : -1 ≤ ds) (h2 : ds ≤ 1) (h3 : ds = -1 ∨ (1 ≤ db ∧ db ≤ 2)) (hd : gd_ G + N ≤ 1000) : ∃ s', f_X10_daysGo (Int32.ofInt N) s = some s' ∧ Fdy s s' ∧ MA B (daysN B ds db N.toNat G) s' :=
  m_daysGo_L hD hV hN h1 h2 h3 N.toNat fuel 0 G s h hMH hq ht (by omega) (by omega) (by unfold fuel; omega) (by omega)
theorem m_aside_L : ∀ (n F : Nat) (i : Int) (s : ST), 0 ≤ i → (n : Int) = 24 - i → n < F → ∃ s', (∀ o k : Nat, ¬ o = 113 → s'.1 o k = s.1 o k) ∧ s'.2 = s.2 ∧ (∀ k : Nat, s'.1 113 k = if i ≤ (k : Int) ∧ (k : Int) < 24 then s.1 112 k else s.1 113 k) ∧ f_X10_putsAside_L7 F (Int32.ofInt i) s = some s' := by
  intro n
  induction n with
  | zero =>
    intro F i s h0 hn hF
    obtain ⟨F, rfl⟩ : ∃ F', F = F' + 1 := ⟨F - 1, by omega⟩
    refine ⟨s, fun _ _ _ => rfl, rfl, fun k => ?_, ?_⟩
    · rw [if_neg (by omega)]
    · simp (disch := omega) only [f_X10_putsAside_L7, n_i8, n_i16, n_0, n_31, n_add, n_sub, n_mul, n_neg, n_div, n_rem, n_le_t, n_le_f, n_lt_t, n_lt_f, n_eq_t, n_eq_f, n_cl, n_gd, n_gdt, n_nz, Int.reduceToNat, Int.reduceAdd, Int.reduceSub, Int.reduceMul, Int.reduceNeg, Int.reduceLT, Int.reduceLE, Int.reduceEq, Int.reduceDiv, Int.reduceMod, Nat.reduceAdd, Nat.reduceMul, ↓reduceIte]
  | succ n ih =>
    intro F i s h0 hn hF
    obtain ⟨F, rfl⟩ : ∃ F', F = F' + 1 := ⟨F - 1, by omega⟩
    obtain ⟨s', q1, q2, q3, q4⟩ := ih F (i + 1) (uI s 113 i.toNat (s.1 112 i.toNat)) (by omega) (by omega) (by omega)
    refine ⟨s', fun o k ho => (q1 o k ho).trans (u_no ho), q2, fun k => ?_, ?_⟩
    · rw [q3 k, u_no (by omega)]
      by_cases e : (k : Int) = i
      · rw [if_neg (by omega), if_pos (by omega), u_ek (by omega), show i.toNat = k by omega]
      · by_cases e2 : i + 1 ≤ (k : Int) ∧ (k : Int) < 24
        · rw [if_pos e2, if_pos (by omega)]
        · rw [if_neg e2, if_neg (by omega), u_nk (by omega)]
    · rw [← q4]
      simp (disch := omega) only [f_X10_putsAside_L7, n_i8, n_i16, n_0, n_31, n_add, n_sub, n_mul, n_neg, n_div, n_rem, n_le_t, n_le_f, n_lt_t, n_lt_f, n_eq_t, n_eq_f, n_cl, n_gd, n_gdt, n_nz, Int.reduceToNat, Int.reduceAdd, Int.reduceSub, Int.reduceMul, Int.reduceNeg, Int.reduceLT, Int.reduceLE, Int.reduceEq, Int.reduceDiv, Int.reduceMod, Nat.reduceAdd, Nat.reduceMul, ↓reduceIte, u_eq, u_no, u_nk, u_ek, u_2, u_3, j_1, j_3, j_eq, j_no, j_nk, lt_def, Option.bind_some]
theorem m_anew_L : ∀ (n F : Nat) (i : Int) (s : ST), 0 ≤ i → (n : Int) = 24 - i → n < F → ∃ s', (∀ o k : Nat, ¬ o = 112 → s'.1 o k = s.1 o k) ∧ s'.2 = s.2 ∧ (∀ k : Nat, s'.1 112 k = if i ≤ (k : Int) ∧ (k : Int) < 24 then s.1 113 k else s.1 112 k) ∧ f_X10_triesAnew_L2 F (Int32.ofInt i) s = some s' := by
  intro n
  induction n with
  | zero =>
    intro F i s h0 hn hF
    obtain ⟨F, rfl⟩ : ∃ F', F = F' + 1 := ⟨F - 1, by omega⟩
    refine ⟨s, fun _ _ _ => rfl, rfl, fun k => ?_, ?_⟩
    · rw [if_neg (by omega)]
    · simp (disch := omega) only [f_X10_triesAnew_L2, n_i8, n_i16, n_0, n_31, n_add, n_sub, n_mul, n_neg, n_div, n_rem, n_le_t, n_le_f, n_lt_t, n_lt_f, n_eq_t, n_eq_f, n_cl, n_gd, n_gdt, n_nz, Int.reduceToNat, Int.reduceAdd, Int.reduceSub, Int.reduceMul, Int.reduceNeg, Int.reduceLT, Int.reduceLE, Int.reduceEq, Int.reduceDiv, Int.reduceMod, Nat.reduceAdd, Nat.reduceMul, ↓reduceIte]
  | succ n ih =>
    intro F i s h0 hn hF
    obtain ⟨F, rfl⟩ : ∃ F', F = F' + 1 := ⟨F - 1, by omega⟩
    obtain ⟨s', q1, q2, q3, q4⟩ := ih F (i + 1) (uI s 112 i.toNat (s.1 113 i.toNat)) (by omega) (by omega) (by omega)
    refine ⟨s', fun o k ho => (q1 o k ho).trans (u_no ho), q2, fun k => ?_, ?_⟩
    · rw [q3 k, u_no (by omega)]
      by_cases e : (k : Int) = i
      · rw [if_neg (by omega), if_pos (by omega), u_ek (by omega), show i.toNat = k by omega]
      · by_cases e2 : i + 1 ≤ (k : Int) ∧ (k : Int) < 24
        · rw [if_pos e2, if_pos (by omega)]
        · rw [if_neg e2, if_neg (by omega), u_nk (by omega)]
    · rw [← q4]
      simp (disch := omega) only [f_X10_triesAnew_L2, n_i8, n_i16, n_0, n_31, n_add, n_sub, n_mul, n_neg, n_div, n_rem, n_le_t, n_le_f, n_lt_t, n_lt_f, n_eq_t, n_eq_f, n_cl, n_gd, n_gdt, n_nz, Int.reduceToNat, Int.reduceAdd, Int.reduceSub, Int.reduceMul, Int.reduceNeg, Int.reduceLT, Int.reduceLE, Int.reduceEq, Int.reduceDiv, Int.reduceMod, Nat.reduceAdd, Nat.reduceMul, ↓reduceIte, u_eq, u_no, u_nk, u_ek, u_2, u_3, j_1, j_3, j_eq, j_no, j_nk, lt_def, Option.bind_some]
/-- the cells that outlast a question -/
def QP (o k : Nat) : Prop := o < 65 ∨ (66 ≤ o ∧ o ≤ 112) ∨ o = 120 ∨ (122 ≤ o ∧ o ≤ 145) ∨ o = 149 ∨ (o = 65 ∧ (k = 1 ∨ k = 7 ∨ k = 8 ∨ k = 58 ∨ k = 75 ∨ k = 78 ∨ k = 80 ∨ k = 84 ∨ k = 85 ∨ k = 121))
def QL (o k : Nat) : Prop := o = 102 ∨ (o = 65 ∧ k = 86)
def QF (s s' : ST) : Prop := (∀ o k : Nat, QP o k → s'.1 o k = s.1 o k) ∧ (∀ o k : Nat, QL o k → s'.2.1 o k = s.2.1 o k) ∧ s'.2.2 = s.2.2
theorem QF.rf (s : ST) : QF s s := ⟨fun _ _ _ => rfl, fun _ _ _ => rfl, rfl⟩
theorem QF.tr {s t u : ST} (h1 : QF s t) (h2 : QF t u) : QF s u := ⟨fun o k hk => (h2.1 o k hk).trans (h1.1 o k hk), fun o k hk => (h2.2.1 o k hk).trans (h1.2.1 o k hk), h2.2.2.trans h1.2.2⟩
theorem Sd.qf {s t : ST} (h : Sd s t) : QF s t := ⟨fun o k hk => h.1 o k (by unfold QP at hk; omega) (by unfold QP at hk; omega), fun o k _ => by rw [h.2], by rw [h.2]⟩
theorem Sc.qf {a b : Int} {s t : ST} (h : Sc a b s t) : QF s t := h.sd.qf
theorem MA_QF {B : Brd} {G : Gam} {s s' : ST} (h : MA B G s) (hs : QF s s') : MA B G s' := MA_fr h (fun o k hk => hs.1 o k (by unfold QP; omega))
theorem MH_QF {B : Brd} {s s' : ST} (h : MH B s) (hs : QF s s') : MH B s' := MH_fr h (fun o k h1 h2 => hs.1 o k (by unfold QP; omega))
/-- in thought, since s0 -/
def TH (s0 s : ST) : Prop := s.1 65 75 = Int32.ofInt 1 ∧ (∀ k : Nat, k < 24 → s.1 113 k = s0.1 112 k) ∧ (∀ o k : Nat, QP o k → ¬ (o = 112 ∧ k < 24) → ¬ (o = 65 ∧ (k = 75 ∨ k = 78)) → s.1 o k = s0.1 o k) ∧ (∀ o k : Nat, QL o k → s.2.1 o k = s0.2.1 o k) ∧ s.2.2 = s0.2.2
theorem TH_fd {s0 s s' : ST} (h : TH s0 s) (hf : Fdy s s') : TH s0 s' := by
  obtain ⟨h1, h2, h3, h4, h5⟩ := h
  refine ⟨(hf.1 65 75 (by omega) (by omega) (by omega)).trans h1, fun k hk => (hf.1 113 k (by omega) (by omega) (by omega)).trans (h2 k hk), fun o k q a b => ?_, fun o k q => ?_, hf.2.2.trans h5⟩
  · exact (hf.1 o k a (by unfold QP at q; omega) (by unfold QP at q; omega)).trans (h3 o k q a b)
  · exact (hf.2.1 o k (by unfold QL at q; omega) (by unfold QL at q; omega)).trans (h4 o k q)
theorem m_putsAside (s : ST) : ∃ s', f_X10_putsAside s = some s' ∧ TH s s' ∧ (∀ o k : Nat, ¬ o = 113 → ¬ (o = 65 ∧ k = 75) → s'.1 o k = s.1 o k) ∧ s'.2 = s.2 := by
  obtain ⟨s', q1, q2, q3, q4⟩ := m_aside_L 24 fuel 0 (uI s 65 75 (Int32.ofInt 1)) (by omega) (by omega) (by unfold fuel; omega)
  have q4 : f_X10_putsAside s = some s' := by unfold f_X10_putsAside; rw [lt_def]; exact q4
  have f : ∀ o k : Nat, ¬ o = 113 → ¬ (o = 65 ∧ k = 75) → s'.1 o k = s.1 o k := fun o k a b => (q1 o k a).trans (by (simp only [ua, ja, u_2, u_3, j_1, j_3]; (repeat' split) <;> first | rfl | (exfalso; omega)))
  refine ⟨s', q4, ⟨?_, fun k hk => ?_, fun o k q a b => f o k (by unfold QP at q; omega) (by omega), fun o k _ => by rw [q2]; rfl, by rw [q2]; rfl⟩, f, q2⟩
  · rw [q1 65 75 (by omega), u_eq]
  · rw [q3 k, if_pos (by omega), u_no (by omega)]
theorem m_triesAnew {B : Brd} {G : Gam} {s0 s : ST} (h : TH s0 s) (hA : MA B G s0) : ∃ s', f_X10_triesAnew s = some s' ∧ TH s0 s' ∧ MA B G s' ∧ (∀ o k : Nat, ¬ o = 112 → s'.1 o k = s.1 o k) ∧ (∀ k : Nat, s'.1 112 k = s0.1 112 k) ∧ s'.2 = s.2 := by
  obtain ⟨s', q1, q2, q3, q4⟩ := m_anew_L 24 fuel 0 s (by omega) (by omega) (by unfold fuel; omega)
  obtain ⟨h1, h2, h3, h4, h5⟩ := h
  have g : ∀ k : Nat, s'.1 112 k = s0.1 112 k := by
    intro k
    rw [q3 k]
    by_cases e : k < 24
    · rw [if_pos (by omega)]; exact h2 k e
    · rw [if_neg (by omega)]; exact h3 112 k (by unfold QP; omega) (by omega) (by omega)
  have f : ∀ o k : Nat, QP o k → ¬ (o = 65 ∧ (k = 75 ∨ k = 78)) → s'.1 o k = s0.1 o k := by
    intro o k q b
    by_cases e : o = 112
    · subst e; exact g k
    · rw [q1 o k e]; exact h3 o k q (by omega) b
  refine ⟨s', q4, ⟨(q1 65 75 (by omega)).trans h1, fun k hk => (q1 113 k (by omega)).trans (h2 k hk), fun o k q a b => f o k q b, fun o k q => by rw [q2]; exact h4 o k q, by rw [q2]; exact h5⟩, ?_, q1, g, q2⟩
  exact MA_fr hA (fun o k hk => f o k (by unfold QP; omega) (by omega))
theorem m_takesBack {s0 s : ST} (h : TH s0 s) (h0 : s0.1 65 75 = Int32.ofInt 0) (h78 : s.1 65 78 = s0.1 65 78) : ∃ s', f_X10_takesBack s = some s' ∧ QF s0 s' ∧ s'.2 = s.2 := by
  obtain ⟨s1, q1, q2, q3, q4⟩ := m_anew_L 24 fuel 0 s (by omega) (by omega) (by unfold fuel; omega)
  obtain ⟨h1, h2, h3, h4, h5⟩ := h
  have q4 : f_X10_triesAnew s = some s1 := q4
  refine ⟨uI s1 65 75 (Int32.ofInt 0), ?_, ⟨fun o k q => ?_, fun o k q => ?_, ?_⟩, ?_⟩
  · simp (disch := omega) only [f_X10_takesBack, q4, u_eq, u_no, u_nk, u_ek, u_2, u_3, j_1, j_3, j_eq, j_no, j_nk, lt_def, Option.bind_some]
  · rw [ua]
    by_cases e : o = 65 ∧ k = 75
    · rw [if_pos e, e.1, e.2, h0]
    · rw [if_neg e]
      by_cases e2 : o = 112
      · subst e2
        rw [q3 k]
        by_cases e3 : k < 24
        · rw [if_pos (by omega)]; exact h2 k e3
        · rw [if_neg (by omega)]; exact h3 112 k q (by omega) (by omega)
      · rw [q1 o k e2]
        by_cases e3 : o = 65 ∧ k = 78
        · rw [e3.1, e3.2]; exact h78
        · exact h3 o k q (by omega) (by omega)
  · rw [u_2, q2]; exact h4 o k q
  · rw [u_3, q2]; exact h5
  · exact q2
theorem m_isAhead {B : Brd} {G : Gam} {s : ST} (h : MA B G s) (hb : s.1 65 58 = Int32.ofInt 1) {n a b : Int} (n1 : -2147483648 ≤ n) (n2 : n ≤ 2147483647) (a1 : 0 ≤ a) (a2 : a ≤ 100) (b1 : 0 ≤ b) (b2 : b ≤ 100) : f_X10_isAhead (Int32.ofInt n) (Int32.ofInt a) (Int32.ofInt b) s = some (bI (decide ((a ≤ n ∧ n ≤ b) ∧ gd_ G + n ≤ 999)), s) := by
  have hi := m_isIn (s := s) (v := n) (a := a) (b := b) (by omega) (by omega) (by omega) (by omega) (by omega) (by omega)
  have hd := m_day h
  have hdd := h.2.1.1
  by_cases e : a ≤ n ∧ n ≤ b
  · rw [decide_eq_true e] at hi
    by_cases e2 : gd_ G + n ≤ 999
    · rw [decide_eq_true (And.intro e e2)]
      simp (disch := omega) only [f_X10_isAhead, hb, hi, hd, bI_t, n_i8, n_i16, n_0, n_31, n_add, n_sub, n_mul, n_neg, n_div, n_rem, n_le_t, n_le_f, n_lt_t, n_lt_f, n_eq_t, n_eq_f, n_cl, n_gd, n_gdt, n_nz, Int.reduceToNat, Int.reduceAdd, Int.reduceSub, Int.reduceMul, Int.reduceNeg, Int.reduceLT, Int.reduceLE, Int.reduceEq, Int.reduceDiv, Int.reduceMod, Nat.reduceAdd, Nat.reduceMul, ↓reduceIte, l_0, l_1, l_00, l_i, l_j, l_add, l_sub, l_mul, l_gt, l_ceq, l_clt, l_nz, u_eq, u_no, u_nk, u_ek, u_2, u_3, j_1, j_3, j_eq, j_no, j_nk, lt_def, Option.bind_some, Int.toNat_zero]
    · rw [decide_eq_false (fun c => e2 c.2)]
      simp (disch := omega) only [f_X10_isAhead, hb, hi, hd, bI_t, bI_f, n_i8, n_i16, n_0, n_31, n_add, n_sub, n_mul, n_neg, n_div, n_rem, n_le_t, n_le_f, n_lt_t, n_lt_f, n_eq_t, n_eq_f, n_cl, n_gd, n_gdt, n_nz, Int.reduceToNat, Int.reduceAdd, Int.reduceSub, Int.reduceMul, Int.reduceNeg, Int.reduceLT, Int.reduceLE, Int.reduceEq, Int.reduceDiv, Int.reduceMod, Nat.reduceAdd, Nat.reduceMul, ↓reduceIte, l_0, l_1, l_00, l_i, l_j, l_add, l_sub, l_mul, l_gt, l_ceq, l_clt, l_nz, u_eq, u_no, u_nk, u_ek, u_2, u_3, j_1, j_3, j_eq, j_no, j_nk, lt_def, Option.bind_some, Int.toNat_zero]
  · rw [decide_eq_false e] at hi
    rw [decide_eq_false (fun c => e c.1)]
    simp (disch := omega) only [f_X10_isAhead, hb, hi, hd, bI_f, n_i8, n_i16, n_0, n_31, n_add, n_sub, n_mul, n_neg, n_div, n_rem, n_le_t, n_le_f, n_lt_t, n_lt_f, n_eq_t, n_eq_f, n_cl, n_gd, n_gdt, n_nz, Int.reduceToNat, Int.reduceAdd, Int.reduceSub, Int.reduceMul, Int.reduceNeg, Int.reduceLT, Int.reduceLE, Int.reduceEq, Int.reduceDiv, Int.reduceMod, Nat.reduceAdd, Nat.reduceMul, ↓reduceIte, l_0, l_1, l_00, l_i, l_j, l_add, l_sub, l_mul, l_gt, l_ceq, l_clt, l_nz, u_eq, u_no, u_nk, u_ek, u_2, u_3, j_1, j_3, j_eq, j_no, j_nk, lt_def, Option.bind_some, Int.toNat_zero]
