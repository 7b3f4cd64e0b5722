/-! L3: a day of the reference, what is kept -/
theorem MA_o {B : Brd} {G : Gam} {s s' : ST} (h : MA B G s) (hf : ∀ o k : Nat, ¬ o = 65 → s'.1 o k = s.1 o k) : MA B G s' := MA_fr h (fun o k hk => hf o k (by omega))
theorem CH_fr {A : CA} {s t : ST} (h : CH A s) (h1 : ∀ k : Nat, 68 ≤ k → k ≤ 70 → t.1 65 k = s.1 65 k) : CH A t := by
  unfold CH at *
  rw [h1 68 (by omega) (by omega), h1 69 (by omega) (by omega), h1 70 (by omega) (by omega)]
  exact h
def tkb (B : Brd) (G : Gam) (k : Int) : Int := if tkm B G k = -1 then 255 else tkm B G k
theorem m_plays {B : Brd} {G : Gam} {s : ST} (h : MA B G s) (hMH : MH B s) (hV : Hv B) {A : CA} (hC : CH A s) (hA : okA B G A) (hn : ¬ A.1 = -1) : ∃ s1, f_X10_playsChosen s = (f_X10_isKept s1).bind (fun q => some q) ∧ Fdy s s1 ∧ CH A s1 ∧ s1.1 65 77 = Int32.ofInt (tkb B G A.2.2.2.2) ∧ MA B (strG B G A.2.2.2.1 A.2.2.2.2) s1 := by
  rcases hA with hA | ⟨-, m1, m2, k1, k2, hsd, hgo⟩
  · exact absurd hA hn
  have c69 := (hC.2 hn).1
  have c70 := (hC.2 hn).2
  generalize hm : A.2.2.2.1 = m at *
  generalize hk : A.2.2.2.2 = k at *
  have hM : bM B ≤ 8 := h.1.1.1.2.2.2.2.2.2.2.1; have hM0 : 0 ≤ bM B := h.1.1.1.2.2.2.2.2.2.1
  have hW : bW B ≤ 5 := h.1.1.1.2.1; have hH : bH B ≤ 5 := h.1.1.1.2.2.2.1; have hW0 : 0 ≤ bW B := h.1.1.1.1; have hH0 : 0 ≤ bH B := h.1.1.1.2.2.1; have hWH : bW B * bH B ≤ 25 := (Int.mul_le_mul hW hH hH0 (by omega)); have hWH0 : 0 ≤ bW B * bH B := Int.mul_nonneg hW0 hH0
  have hWp : 0 < bW B := by
    rcases Int.lt_or_eq_of_le hW0 with e | e
    · exact e
    · rw [← e] at k2; omega
  have x1 : 0 ≤ k % bW B := Int.emod_nonneg _ (by omega)
  have x2 : k % bW B < bW B := Int.emod_lt_of_pos _ hWp
  have y1 : 0 ≤ k / bW B := Int.ediv_nonneg k1 hW0
  have y2 : k / bW B < bH B := Int.ediv_lt_of_lt_mul hWp (by rw [Int.mul_comm]; exact k2)
  have hR : k - k / bW B * bW B = k % bW B := n_rem k (bW B)
  have c4 : s.1 103 4 = Int32.ofInt (bW B) := h.2.2.1.1.2.2.2.1
  have hmA := m_manAt h (a := k % bW B) (b := k / bW B) (by omega) (by omega) (by omega) (by omega)
  have hsp := mAt_spec (B := B) hM0 G (k % bW B) (k / bW B)
  have htk : tkm B G k = mAt B G (k % bW B) (k / bW B) := rfl
  rw [← htk] at hmA hsp
  have hw : 0 ≤ tkw B G k ∧ tkw B G k ≤ 99 := by
    unfold tkw
    split
    · omega
    · have hb := h.1.2.2.1 (tkm B G k) (by omega) (by omega)
      have := h.1.2.1 (kd B (tkm B G k)) hb.1 hb.2.1
      omega
  -- from the worth taken on
  have main : ∀ t0 : Int, f_X10_playsChosen_j63 (Int32.ofInt (k % bW B)) (Int32.ofInt (k / bW B)) (Int64.ofInt (tkw B G k)) (uI s 65 77 (Int32.ofInt t0)) = f_X10_playsChosen_j63 (Int32.ofInt (k % bW B)) (Int32.ofInt (k / bW B)) (Int64.ofInt (tkw B G k)) (uI s 65 77 (Int32.ofInt t0)) → ∃ s1, f_X10_playsChosen_j63 (Int32.ofInt (k % bW B)) (Int32.ofInt (k / bW B)) (Int64.ofInt (tkw B G k)) (uI s 65 77 (Int32.ofInt t0)) = (f_X10_isKept s1).bind (fun q => some q) ∧ Fdy s s1 ∧ CH A s1 ∧ s1.1 65 77 = Int32.ofInt t0 ∧ MA B (strG B G m k) s1 := by
    intro t0 _
    have hA1 : MA B G (uJ (uI s 65 77 (Int32.ofInt t0)) 65 71 (Int64.ofInt (tkw B G k))) := MA_o h (fun o k ho => by rw [j_1, u_no ho])
    have f1 : Fdy s (uJ (uI s 65 77 (Int32.ofInt t0)) 65 71 (Int64.ofInt (tkw B G k))) := ⟨fun o k a b c => by (simp only [ua, ja, u_2, u_3, j_1, j_3]; (repeat' split) <;> first | rfl | (exfalso; omega)), fun o k a b => by (simp only [ua, ja, u_2, u_3, j_1, j_3]; (repeat' split) <;> first | rfl | (exfalso; omega)), rfl⟩
    have d69 : (uJ (uI s 65 77 (Int32.ofInt t0)) 65 71 (Int64.ofInt (tkw B G k))).1 65 69 = Int32.ofInt m := by rw [j_1, u_nk (by omega)]; exact c69
    have d70 : (uJ (uI s 65 77 (Int32.ofInt t0)) 65 71 (Int64.ofInt (tkw B G k))).1 65 70 = Int32.ofInt k := by rw [j_1, u_nk (by omega)]; exact c70
    obtain ⟨s2, q1, q2, q3, -⟩ := m_does hA1 (L := 4) (by omega) (by omega) m1 m2 k1 k2 hgo
    have q2 : MA B (mvK B G m k) s2 := q2
    have hs2 := m_side q2
    have hgs2 := q2.2.1.1.2.2
    have hck := m_isCheck q2 hgs2.1 hgs2.2
    have hcv : ckv B G m k = if chk B (mvK B G m k) (gs (mvK B G m k)) = true then 1 else 0 := rfl
    have hA3 : ∀ c : Int, MA B (mvK B G m k) (uJ s2 65 72 (Int64.ofInt c)) := fun c => MA_o q2 (fun o k ho => rfl)
    have f3 : ∀ c : Int, Fdy s (uJ s2 65 72 (Int64.ofInt c)) := fun c => (f1.tr q3.fd).tr ⟨fun o k a b c => rfl, fun o k a b => by (simp only [ua, ja, u_2, u_3, j_1, j_3]; (repeat' split) <;> first | rfl | (exfalso; omega)), rfl⟩
    have hck2 : lb (ckv B G m k) := by unfold ckv lb; split <;> omega
    obtain ⟨s4, q4, q5, q6, q7⟩ := m_plays_L hV (t := tkw B G k) (c := ckv B G m k) (x := k % bW B) (y := k / bW B) (d := gd_ G) ⟨by omega, by omega⟩ hw.1 hck2 (by omega) (by omega) (by omega) (by omega) h.2.1.1.2.1 f_X10_playsChosen_j196 (bF B).toNat fuel 0 (mvK B G m k) (uJ s2 65 72 (Int64.ofInt (ckv B G m k))) (hA3 _) (MH_Fdy hMH (f3 _)) rfl (by rw [ja, if_neg (by omega), q3.2, j_eq]) (by rw [j_eq]) (by omega) (by have := h.1.1.1.2.2.2.2.2.2.2.2.1; omega) (by have := h.1.1.1.2.2.2.2.2.2.2.2.2; unfold fuel; omega)
    refine ⟨s4, ?_, (f3 _).tr q4, ?_, ?_, q6⟩
    · rw [show (f_X10_isKept s4).bind (fun q => some q) = f_X10_playsChosen_j196 s4 from rfl, ← q7]
      cases e : chk B (mvK B G m k) (gs (mvK B G m k)) with
      | true =>
        rw [e, if_pos rfl] at hcv
        rw [e] at hck
        simp (disch := omega) only [f_X10_playsChosen_j63, f_X10_playsChosen_j98, d69, d70, q1, hs2, hck, hcv, bI_t, n_i8, n_i16, n_0, n_31, n_add, n_sub, n_mul, n_neg, n_div, n_rem, n_le_t, n_le_f, n_lt_t, n_lt_f, n_eq_t, n_eq_f, n_cl, n_gd, n_gdt, n_nz, Int.reduceToNat, Int.reduceAdd, Int.reduceSub, Int.reduceMul, Int.reduceNeg, Int.reduceLT, Int.reduceLE, Int.reduceEq, Int.reduceDiv, Int.reduceMod, Nat.reduceAdd, Nat.reduceMul, ↓reduceIte, l_0, l_1, l_00, l_i, l_j, l_add, l_sub, l_mul, l_gt, l_ceq, l_clt, l_nz, u_eq, u_no, u_nk, u_ek, u_2, u_3, j_1, j_3, j_eq, j_no, j_nk, lt_def, Option.bind_some, Int.toNat_one]
      | false =>
        rw [e, if_neg (by decide)] at hcv
        rw [e] at hck
        simp (disch := omega) only [f_X10_playsChosen_j63, f_X10_playsChosen_j98, d69, d70, q1, hs2, hck, hcv, bI_f, n_i8, n_i16, n_0, n_31, n_add, n_sub, n_mul, n_neg, n_div, n_rem, n_le_t, n_le_f, n_lt_t, n_lt_f, n_eq_t, n_eq_f, n_cl, n_gd, n_gdt, n_nz, Int.reduceToNat, Int.reduceAdd, Int.reduceSub, Int.reduceMul, Int.reduceNeg, Int.reduceLT, Int.reduceLE, Int.reduceEq, Int.reduceDiv, Int.reduceMod, Nat.reduceAdd, Nat.reduceMul, ↓reduceIte, l_0, l_1, l_00, l_i, l_j, l_add, l_sub, l_mul, l_gt, l_ceq, l_clt, l_nz, u_eq, u_no, u_nk, u_ek, u_2, u_3, j_1, j_3, j_eq, j_no, j_nk, lt_def, Option.bind_some, Int.toNat_one]
    · refine CH_fr hC (fun j j1 j2 => ?_)
      rw [q5 j (by omega) (by omega), j_1, q3.1 65 j (by omega) (by omega), j_1, u_nk (by omega)]
    · rw [q5 77 (by omega) (by omega), j_1, q3.1 65 77 (by omega) (by omega), j_1, u_eq]
  by_cases e : tkm B G k = -1
  · obtain ⟨s1, q1, q2, q3, q4, q5⟩ := main 255 rfl
    refine ⟨s1, ?_, q2, q3, ?_, q5⟩
    · rw [← q1]
      have hw0 : tkw B G k = 0 := by unfold tkw; rw [if_pos e]
      rw [hw0]
      rw [e] at hmA
      simp (disch := omega) only [f_X10_playsChosen, f_X10_playsChosen_j44, c4, c70, hR, hmA, n_i8, n_i16, n_0, n_31, n_add, n_sub, n_mul, n_neg, n_div, n_rem, n_le_t, n_le_f, n_lt_t, n_lt_f, n_eq_t, n_eq_f, n_cl, n_gd, n_gdt, n_nz, Int.reduceToNat, Int.reduceAdd, Int.reduceSub, Int.reduceMul, Int.reduceNeg, Int.reduceLT, Int.reduceLE, Int.reduceEq, Int.reduceDiv, Int.reduceMod, Nat.reduceAdd, Nat.reduceMul, ↓reduceIte, l_0, l_1, l_00, l_i, l_j, l_add, l_sub, l_mul, l_gt, l_ceq, l_clt, l_nz, u_eq, u_no, u_nk, u_ek, u_2, u_3, j_1, j_3, j_eq, j_no, j_nk, lt_def, Option.bind_some]
    · rw [q4]; unfold tkb; rw [if_pos e]
  · obtain ⟨s1, q1, q2, q3, q4, q5⟩ := main (tkm B G k) rfl
    refine ⟨s1, ?_, q2, q3, ?_, q5⟩
    · rw [← q1]
      have hw0 : tkw B G k = wo B (kd B (tkm B G k)) := by unfold tkw; rw [if_neg e]
      have hwo := m_worthOf (MA_o h (s' := uI s 65 77 (Int32.ofInt (tkm B G k))) (fun o k ho => by rw [u_no ho])) (m := tkm B G k) (by omega) (by omega)
      rw [← hw0] at hwo
      simp (disch := omega) only [f_X10_playsChosen, f_X10_playsChosen_j44, c4, c70, hR, hmA, hwo, n_i8, n_i16, n_0, n_31, n_add, n_sub, n_mul, n_neg, n_div, n_rem, n_le_t, n_le_f, n_lt_t, n_lt_f, n_eq_t, n_eq_f, n_cl, n_gd, n_gdt, n_nz, Int.reduceToNat, Int.reduceAdd, Int.reduceSub, Int.reduceMul, Int.reduceNeg, Int.reduceLT, Int.reduceLE, Int.reduceEq, Int.reduceDiv, Int.reduceMod, Nat.reduceAdd, Nat.reduceMul, ↓reduceIte, l_0, l_1, l_00, l_i, l_j, l_add, l_sub, l_mul, l_gt, l_ceq, l_clt, l_nz, u_eq, u_no, u_nk, u_ek, u_2, u_3, j_1, j_3, j_eq, j_no, j_nk, lt_def, Option.bind_some]
    · rw [q4]; unfold tkb; rw [if_neg e]
/-- only the game's own cells have changed -/
def Fg (s s' : ST) : Prop := (∀ o k : Nat, ¬ (o = 112 ∧ k < 24) → s'.1 o k = s.1 o k) ∧ s'.2 = s.2
theorem Fg.rf (s : ST) : Fg s s := ⟨fun _ _ _ => rfl, rfl⟩
theorem Fg.tr {s t u : ST} (h1 : Fg s t) (h2 : Fg t u) : Fg s u := ⟨fun o k a => (h2.1 o k a).trans (h1.1 o k a), h2.2.trans h1.2⟩
theorem Fg.fd {s t : ST} (h : Fg s t) : Fdy s t := ⟨fun o k a b c => h.1 o k a, fun o k _ _ => by rw [h.2], by rw [h.2]⟩
theorem m_grow_L {B : Brd} (K : ST → Option ST) : ∀ (n F : Nat) (i : Int) (G : Gam) (s : ST), MA B G s → 0 ≤ i → (n : Int) = bF B - i → n < F → ∃ s', Fg s s' ∧ MA B ((upto n i).foldl (grw B) G) s' ∧ f_X10_dayGoes_L31 K F (Int32.ofInt i) s = K s' := by
  intro n
  induction n with
  | zero =>
    intro F i G s h h0 hn hF
    obtain ⟨F, rfl⟩ : ∃ F', F = F' + 1 := ⟨F - 1, by omega⟩
    have hff := m_fieldMany h
    have hF6 : bF B ≤ 6 := h.1.1.1.2.2.2.2.2.2.2.2.2
    refine ⟨s, Fg.rf s, h, ?_⟩
    simp (disch := omega) only [f_X10_dayGoes_L31, hff, n_i8, n_i16, n_0, n_31, n_add, n_sub, n_mul, n_neg, n_div, n_rem, n_le_t, n_le_f, n_lt_t, n_lt_f, n_eq_t, n_eq_f, n_cl, n_gd, n_gdt, n_nz, Int.reduceToNat, Int.reduceAdd, Int.reduceSub, Int.reduceMul, Int.reduceNeg, Int.reduceLT, Int.reduceLE, Int.reduceEq, Int.reduceDiv, Int.reduceMod, Nat.reduceAdd, Nat.reduceMul, ↓reduceIte, u_eq, u_no, u_nk, u_ek, u_2, u_3, j_1, j_3, j_eq, j_no, j_nk, lt_def, Option.bind_some]
  | succ n ih =>
    intro F i G s h h0 hn hF
    obtain ⟨F, rfl⟩ : ∃ F', F = F' + 1 := ⟨F - 1, by omega⟩
    have hff := m_fieldMany h
    have hF6 : bF B ≤ 6 := h.1.1.1.2.2.2.2.2.2.2.2.2
    have hgb := h.2.1.2.2.2 i h0 (by omega)
    have hcb := h.2.2.2.2.2 i h0 (by omega)
    have hgr := h.1.2.2.2.2.2
    have c2 : s.1 108 2 = Int32.ofInt (bGr B) := h.2.2.1.1.2.2.2.2.2.2.2.1
    simp only [upto, List.foldl_cons]
    have hst : grw B G i = setb G i (if gb G i + bGr B ≤ 999 then gb G i + bGr B else 999) := rfl
    by_cases e : gb G i + bGr B ≤ 999
    · rw [if_pos e] at hst
      rw [hst]
      obtain ⟨s2, q5, q6, q7⟩ := ih F (i + 1) _ _ (MA_setb h h0 (show i < bF B by omega) (v := gb G i + bGr B) (by omega) (by omega)) (by omega) (by omega) (by omega)
      refine ⟨s2, Fg.tr ?_ q5, q6, ?_⟩
      · exact ⟨fun o k a => by (simp only [ua, ja, u_2, u_3, j_1, j_3]; (repeat' split) <;> first | rfl | (exfalso; omega)), rfl⟩
      rw [← q7]
      simp (disch := omega) only [f_X10_dayGoes_L31, f_X10_dayGoes_j91, hff, hcb, c2, n_i8, n_i16, n_0, n_31, n_add, n_sub, n_mul, n_neg, n_div, n_rem, n_le_t, n_le_f, n_lt_t, n_lt_f, n_eq_t, n_eq_f, n_cl, n_gd, n_gdt, n_nz, Int.reduceToNat, Int.reduceAdd, Int.reduceSub, Int.reduceMul, Int.reduceNeg, Int.reduceLT, Int.reduceLE, Int.reduceEq, Int.reduceDiv, Int.reduceMod, Nat.reduceAdd, Nat.reduceMul, ↓reduceIte, u_eq, u_no, u_nk, u_ek, u_2, u_3, j_1, j_3, j_eq, j_no, j_nk, lt_def, Option.bind_some]
    · rw [if_neg e] at hst
      rw [hst]
      obtain ⟨s2, q5, q6, q7⟩ := ih F (i + 1) _ _ (MA_setb h h0 (show i < bF B by omega) (v := 999) (by omega) (by omega)) (by omega) (by omega) (by omega)
      refine ⟨s2, Fg.tr ?_ q5, q6, ?_⟩
      · exact ⟨fun o k a => by (simp only [ua, ja, u_2, u_3, j_1, j_3]; (repeat' split) <;> first | rfl | (exfalso; omega)), rfl⟩
      rw [← q7]
      simp (disch := omega) only [f_X10_dayGoes_L31, f_X10_dayGoes_j91, hff, hcb, c2, n_i8, n_i16, n_0, n_31, n_add, n_sub, n_mul, n_neg, n_div, n_rem, n_le_t, n_le_f, n_lt_t, n_lt_f, n_eq_t, n_eq_f, n_cl, n_gd, n_gdt, n_nz, Int.reduceToNat, Int.reduceAdd, Int.reduceSub, Int.reduceMul, Int.reduceNeg, Int.reduceLT, Int.reduceLE, Int.reduceEq, Int.reduceDiv, Int.reduceMod, Nat.reduceAdd, Nat.reduceMul, ↓reduceIte, u_eq, u_no, u_nk, u_ek, u_2, u_3, j_1, j_3, j_eq, j_no, j_nk, lt_def, Option.bind_some]
theorem m_dayEnd {B : Brd} {G : Gam} {s : ST} (h : MA B G s) (hd : gd_ G ≤ 999) : ∃ s', f_X10_dayGoes_j29 s = some s' ∧ Fg s s' ∧ MA B (dayN ((flds B).foldl (grw B) G)) s' := by
  have hF0 : 0 ≤ bF B := h.1.1.1.2.2.2.2.2.2.2.2.1
  have hF6 : bF B ≤ 6 := h.1.1.1.2.2.2.2.2.2.2.2.2
  obtain ⟨s1, q1, q2, q3⟩ := m_grow_L (B := B) f_X10_dayGoes_j98 (bF B).toNat fuel 0 G s h (by omega) (by omega) (by unfold fuel; omega)
  have hd2 : gd_ ((flds B).foldl (grw B) G) = gd_ G := fold_d (B := B) (g := grw B) (fun _ _ => rfl) _ _
  have q2 : MA B ((flds B).foldl (grw B) G) s1 := q2
  have hday := m_day q2
  refine ⟨_, ?_, q1.tr ?_, MA_dayN q2 (by omega)⟩
  · show f_X10_dayGoes_L31 f_X10_dayGoes_j98 fuel (Int32.ofInt 0) s = _
    rw [q3]
    simp (disch := omega) only [f_X10_dayGoes_j98, hday, n_i8, n_i16, n_0, n_31, n_add, n_sub, n_mul, n_neg, n_div, n_rem, n_le_t, n_le_f, n_lt_t, n_lt_f, n_eq_t, n_eq_f, n_cl, n_gd, n_gdt, n_nz, Int.reduceToNat, Int.reduceAdd, Int.reduceSub, Int.reduceMul, Int.reduceNeg, Int.reduceLT, Int.reduceLE, Int.reduceEq, Int.reduceDiv, Int.reduceMod, Nat.reduceAdd, Nat.reduceMul, ↓reduceIte, u_eq, u_no, u_nk, u_ek, u_2, u_3, j_1, j_3, j_eq, j_no, j_nk, lt_def, Option.bind_some, Int.toNat_zero]
  · exact ⟨fun o k a => by (simp only [ua, ja, u_2, u_3, j_1, j_3]; (repeat' split) <;> first | rfl | (exfalso; omega)), rfl⟩
/-- a day in thought -/
theorem m_dayT {B : Brd} {G : Gam} {s : ST} (h : MA B G s) (hMH : MH B s) (hV : Hv B) {A : CA} (hC : CH A s) (hA : okA B G A) (hd : gd_ G ≤ 999) (ht : s.1 65 75 = Int32.ofInt 1) : ∃ s', f_X10_dayGoes s = some s' ∧ Fdy s s' ∧ MA B (dayG B G A) s' := by
  have c68 := hC.1
  by_cases e : A.1 = -1
  · have hA2 := MA_flip h
    have hgs := h.2.1.1.2.2
    have hs1 := m_side h
    obtain ⟨s1, q1, q2, q3⟩ := m_dayEnd hA2 hd
    refine ⟨s1, ?_, Fdy.tr ?_ q2.fd, ?_⟩
    · rw [← q1]
      rw [e] at c68
      simp (disch := omega) only [f_X10_dayGoes, c68, hs1, n_i8, n_i16, n_0, n_31, n_add, n_sub, n_mul, n_neg, n_div, n_rem, n_le_t, n_le_f, n_lt_t, n_lt_f, n_eq_t, n_eq_f, n_cl, n_gd, n_gdt, n_nz, Int.reduceToNat, Int.reduceAdd, Int.reduceSub, Int.reduceMul, Int.reduceNeg, Int.reduceLT, Int.reduceLE, Int.reduceEq, Int.reduceDiv, Int.reduceMod, Nat.reduceAdd, Nat.reduceMul, ↓reduceIte, u_eq, u_no, u_nk, u_ek, u_2, u_3, j_1, j_3, j_eq, j_no, j_nk, lt_def, Option.bind_some, Int.toNat_one]
    · exact ⟨fun o k a b c => by (simp only [ua, ja, u_2, u_3, j_1, j_3]; (repeat' split) <;> first | rfl | (exfalso; omega)), fun o k a b => rfl, rfl⟩
    · unfold dayG; rw [if_pos e]; exact q3
  · obtain ⟨s1, q1, q2, q3, q4, q5⟩ := m_plays h hMH hV hC hA e
    have ht1 : s1.1 65 75 = Int32.ofInt 1 := (q2.1 65 75 (by omega) (by omega) (by omega)).trans ht
    have hk : f_X10_isKept s1 = some s1 := by
      simp (disch := omega) only [f_X10_isKept, ht1, n_i8, n_i16, n_0, n_31, n_add, n_sub, n_mul, n_neg, n_div, n_rem, n_le_t, n_le_f, n_lt_t, n_lt_f, n_eq_t, n_eq_f, n_cl, n_gd, n_gdt, n_nz, Int.reduceToNat, Int.reduceAdd, Int.reduceSub, Int.reduceMul, Int.reduceNeg, Int.reduceLT, Int.reduceLE, Int.reduceEq, Int.reduceDiv, Int.reduceMod, Nat.reduceAdd, Nat.reduceMul, ↓reduceIte]
    obtain ⟨s2, q6, q7, q8⟩ := m_dayEnd q5 (by rw [strG_d]; exact hd)
    refine ⟨s2, ?_, q2.tr q7.fd, ?_⟩
    · rw [hk] at q1
      have hne : ¬ s.1 65 68 = Int32.ofInt (-1) := by
        rw [c68]
        rcases hA with hA | hA
        · exact absurd hA e
        · rw [n_eq (by omega) (by omega) (by omega) (by omega)]
          exact e
      rw [← q6]
      unfold f_X10_dayGoes
      rw [if_neg hne, q1]
      rfl
    · unfold dayG; rw [if_neg e]; exact q8
