/-! L3: acts of the class -/
def crf (s : ST) (j : Nat) : ST := uI s 61 j (s.1 61 j + Int32.ofInt 1)
theorem c_refuse {s : ST} {j : Int} (j0 : 0 ≤ j) (j1 : j ≤ 5) : f_X9_refuse (Int32.ofInt j) s = some (Int32.ofInt (-1), crf s j.toNat) := by
  simp (disch := omega) only [f_X9_refuse, crf, n_i8, n_i16, n_0, n_31, n_add, n_sub, n_mul, n_neg, n_div, n_rem, n_le_t, n_le_f, n_lt_t, n_lt_f, n_eq_t, n_eq_f, n_cl, n_gd, n_gdt, n_nz, Int.reduceToNat, Int.reduceAdd, Int.reduceSub, Int.reduceMul, Int.reduceNeg, Int.reduceLT, Int.reduceLE, Int.reduceEq, Int.reduceDiv, Int.reduceMod, Nat.reduceAdd, Nat.reduceMul, ↓reduceIte, u_eq, u_no, u_nk, u_ek, u_2, u_3, j_1, j_3, j_eq, j_no, j_nk, ltd, bnd]
/-- what an act may change in the class -/
def AX (s s' : ST) : Prop := (∀ a k : Nat, ¬ (36 ≤ a ∧ a ≤ 45) → ¬ a = 56 → ¬ a = 57 → ¬ a = 58 → ¬ (a = 0 ∧ k = 12) → s'.1 a k = s.1 a k) ∧ s'.2 = s.2
theorem AX.rf (s : ST) : AX s s := ⟨fun _ _ _ _ _ _ _ => rfl, rfl⟩
theorem AX.tr {s t u : ST} (h1 : AX s t) (h2 : AX t u) : AX s u := ⟨fun a k x y z w v => (h2.1 a k x y z w v).trans (h1.1 a k x y z w v), h2.2.trans h1.2⟩
/-- an act without draws -/
def AX0 (s s' : ST) : Prop := (∀ a k : Nat, ¬ (36 ≤ a ∧ a ≤ 45) → ¬ a = 56 → ¬ a = 57 → ¬ a = 58 → s'.1 a k = s.1 a k) ∧ s'.2 = s.2
theorem AX0.ax {s t : ST} (h : AX0 s t) : AX s t := ⟨fun a k x y z w _ => h.1 a k x y z w, h.2⟩
theorem CQ_x {B : Brd} {G : Gam} {brd : Bool} {p : Nat} {s s' : ST} (h : CQ B G brd p s) (hf : ∀ a k : Nat, (6 ≤ a ∧ a ≤ 45) → s'.1 a k = s.1 a k) (h2 : s'.2 = s.2) : CQ B G brd p s' := by
  obtain ⟨⟨h1, h3, h4, h5⟩, ⟨h6, h7⟩, h8⟩ := h
  have hpa := h1.1.2.1.2
  have h1' : GT B G 36 p s' := by
    obtain ⟨a, b, c⟩ := h1
    have hB := a.1.1
    have hF6 : bF B ≤ 6 := hB.1.1.2.2.2.2.2.2.2.2.2
    exact ⟨GA_fr a (by rw [h2]) (fun x k x0 x1 => hf x k (by omega)) (fun k => ⟨hf _ k (by omega), hf _ k (by omega), hf _ k (by omega)⟩) (hf 36 8 (by omega)) (hf 36 9 (by omega)), (hf 36 2 (by omega)).trans b, fun f f0 f1 => (hf _ _ (by omega)).trans (c f f0 f1)⟩
  exact ⟨⟨h1', (hf 36 1 (by omega)).trans h3, ⟨(hf _ 0 (by omega)).trans h4.1, (hf _ 1 (by omega)).trans h4.2⟩, h5⟩, ⟨by rw [h2]; exact h6, by rw [h2]; exact h7⟩, h8⟩
theorem keepA_len {B : Brd} {G : Gam} {A : CA} {K : List Ent} (h : (K.length : Int) ≤ gd_ G) : ((keepA B G A K).length : Int) ≤ gd_ (dayG B G A) := by
  rw [dayG_d]
  unfold keepA
  split
  · omega
  · rw [List.length_append, List.length_singleton]; omega
theorem keepA_pre (B : Brd) (G : Gam) (A : CA) (K : List Ent) : K <+: keepA B G A K := by
  unfold keepA
  split
  · exact List.prefix_refl K
  · exact List.prefix_append K _
theorem c_actDay {B : Brd} {G : Gam} {brd : Bool} {p : Nat} {K : List Ent} {s : ST} (h : CQ B G brd p s) (hK : CK K s) (hl : (K.length : Int) ≤ gd_ G) (hd : gd_ G ≤ 998) {A : CA} (hA : okA B G A) : ∃ s', f_X9_actDay (Int32.ofInt (mvC B A)) s = some (Int32.ofInt (tkA B G A), s') ∧ CQ B (dayG B G A) brd p s' ∧ CK (keepA B G A K) s' ∧ (∀ a k : Nat, ¬ (36 ≤ a ∧ a ≤ 45) → ¬ a = 57 → ¬ (a = 56 ∧ k = 1) → s'.1 a k = s.1 a k) ∧ s'.2 = s.2 := by
  have hB := h.1.1.1.1.1
  have hM : bM B ≤ 8 := hB.1.1.2.2.2.2.2.2.2.1
  have hd0 := h.1.1.1.1.2.1.1
  obtain ⟨s1, a1, a2, a3, a4⟩ := c_passDay h.1.1 h.1.2.2.2 hA h.1.2.1 (by omega)
  have hDN : d999 (gd_ G) = gd_ (dayG B G A) := by rw [dayG_d]; unfold d999; split <;> omega
  rw [hDN] at a3
  have hq : CQ B (dayG B G A) brd p s1 := ⟨⟨a2, a3, ⟨(a4.2.1 0).trans h.1.2.2.1.1, (a4.2.1 1).trans h.1.2.2.1.2⟩, h.1.2.2.2⟩, ⟨by rw [a4.2.2]; exact h.2.1.1, by rw [a4.2.2]; exact h.2.1.2⟩, h.2.2.1, h.2.2.2.1, by rw [dayG_d]; omega⟩
  have hK1 : CK K s1 := CK_fr hK (a4.1 56 1 (by omega)) (fun k => a4.1 57 k (by omega))
  by_cases e : A.1 = -1
  · have hmc : mvC B A = -1 := by unfold mvC; rw [if_pos e]
    have hk : keepA B G A K = K := by unfold keepA; rw [if_pos e]
    rw [hk]
    refine ⟨s1, ?_, hq, hK1, fun a k x y z => a4.1 a k (by omega), a4.2.2⟩
    rw [hmc] at a1 ⊢
    simp (disch := omega) only [f_X9_actDay, a1, n_i8, n_i16, n_0, n_31, n_add, n_sub, n_mul, n_neg, n_div, n_rem, n_le_t, n_le_f, n_lt_t, n_lt_f, n_eq_t, n_eq_f, n_cl, n_gd, n_gdt, n_nz, Int.reduceToNat, Int.reduceAdd, Int.reduceSub, Int.reduceMul, Int.reduceNeg, Int.reduceLT, Int.reduceLE, Int.reduceEq, Int.reduceDiv, Int.reduceMod, Nat.reduceAdd, Nat.reduceMul, ↓reduceIte, u_eq, u_no, u_nk, u_ek, u_2, u_3, j_1, j_3, j_eq, j_no, j_nk, ltd, bnd]
  · have hta : tkA B G A = tkm B G A.2.2.2.2 := by unfold tkA; rw [if_neg e]
    rcases hA with hA | ⟨-, m1, m2, k1, k2, hsd, hgo⟩
    · exact absurd hA e
    have hp5 := p5_x hB k1 k2
    have hxy := sq_xy hB k1 k2
    have hmc : mvC B A = 25 * A.2.2.2.1 + p5 B A.2.2.2.2 := by unfold mvC; rw [if_neg e]
    have hkA : keepA B G A K = K ++ [(gd_ G, A.2.2.2.1, p5 B A.2.2.2.2 % 5, p5 B A.2.2.2.2 / 5, tkb B G A.2.2.2.2)] := by unfold keepA; rw [if_neg e, hp5.1, hp5.2.1]
    have htb := tkm_b (G := G) hB (k := A.2.2.2.2)
    have hbyte := c_byte (G := G) hB (k := A.2.2.2.2) s1
    have htkb : 0 ≤ tkb B G A.2.2.2.2 ∧ tkb B G A.2.2.2.2 ≤ 255 := by unfold tkb; split <;> omega
    obtain ⟨s2, b1, b2, b3, b4⟩ := c_keep hK1 (d := gd_ G) (m := A.2.2.2.1) (q := p5 B A.2.2.2.2) (t := tkb B G A.2.2.2.2) (by omega) ⟨⟨hd0, by show gd_ G ≤ 999; omega⟩, ⟨m1, by show A.2.2.2.1 < 8; omega⟩, ⟨by show 0 ≤ p5 B A.2.2.2.2 % 5; omega, by show p5 B A.2.2.2.2 % 5 < 5; omega⟩, ⟨by show 0 ≤ p5 B A.2.2.2.2 / 5; omega, by show p5 B A.2.2.2.2 / 5 < 5; omega⟩, htkb⟩ hp5.2.2.1 hp5.2.2.2
    have hday := h.1.2.1
    rw [hkA]
    refine ⟨s2, ?_, CQ_x hq (fun a k x => b3 a k (by omega) (by omega)) b4, b2, fun a k x y z => (b3 a k y z).trans (a4.1 a k (by omega)), b4.trans a4.2.2⟩
    rw [hmc] at a1 ⊢
    rw [hta] at a1 ⊢
    simp (disch := omega) only [f_X9_actDay, a1, hbyte, hday, b1, n_i8, n_i16, n_0, n_31, n_add, n_sub, n_mul, n_neg, n_div, n_rem, n_le_t, n_le_f, n_lt_t, n_lt_f, n_eq_t, n_eq_f, n_cl, n_gd, n_gdt, n_nz, Int.reduceToNat, Int.reduceAdd, Int.reduceSub, Int.reduceMul, Int.reduceNeg, Int.reduceLT, Int.reduceLE, Int.reduceEq, Int.reduceDiv, Int.reduceMod, Nat.reduceAdd, Nat.reduceMul, ↓reduceIte, u_eq, u_no, u_nk, u_ek, u_2, u_3, j_1, j_3, j_eq, j_no, j_nk, ltd, bnd]
theorem c_play {B : Brd} {G : Gam} {brd : Bool} {p : Nat} {K : List Ent} {U : USn} {s : ST} (h : CQ B G brd p s) (hK : CK K s) (hU : CU B U s) (hl : (K.length : Int) ≤ gd_ G) {k : Int} (k1 : -2147483648 ≤ k) (k2 : k ≤ 2147483647) : (¬ (chz B G k).1 = -1 ∧ gd_ G < 999 → ∃ s', f_X9_play (Int32.ofInt k) s = some (Int32.ofInt (tkb B G (chz B G k).2.2.2.2), s') ∧ CQ B (dayG B G (chz B G k)) brd p s' ∧ CK (keepA B G (chz B G k) K) s' ∧ CU B ((G, K) :: U.take 19) s' ∧ AX0 s s') ∧ (¬ (¬ (chz B G k).1 = -1 ∧ gd_ G < 999) → f_X9_play (Int32.ofInt k) s = some (Int32.ofInt (-1), crf s 2)) := by
  have hA := h.1.1.1
  have hB := hA.1.1
  have hM0 : 0 ≤ bM B := hB.1.1.2.2.2.2.2.2.1
  have hmv := c_moveAt hA h.1.1.2.1 k1 k2
  have hok := okA_chz (G := G) hM0 k2
  have hday := h.1.2.1
  have hd0 := hA.1.2.1.1
  have hd9 := h.2.2.2.2
  have href := c_refuse (s := s) (j := 2) (by omega) (by omega)
  generalize chz B G k = A at *
  constructor
  · rintro ⟨e, hd⟩
    have hmc : 0 ≤ mvC B A ∧ mvC B A ≤ 1000 := by
      rcases hok with hA | ⟨-, m1, m2, k1, k2, hsd, hgo⟩
      · exact absurd hA e
      · have hM : bM B ≤ 8 := hB.1.1.2.2.2.2.2.2.2.1
        have hp5 := p5_x hB k1 k2
        unfold mvC; rw [if_neg e]; omega
    obtain ⟨s1, a1, a2, a3, a4⟩ := c_remember (K := K) h.1.1 hday hK.1 hU
    have hq1 := CQ_x h (fun a k x => a3 a k (by omega) (by omega)) a4
    obtain ⟨s2, b1, b2, b3, b4, b5⟩ := c_actDay hq1 (CK_fr hK (a3 56 1 (by omega) (by omega)) (fun k => a3 57 k (by omega) (by omega))) hl (by omega) hok
    have hta : tkA B G A = tkm B G A.2.2.2.2 := by unfold tkA; rw [if_neg e]
    rw [hta] at b1
    have hby := c_byte (G := G) hB (k := A.2.2.2.2) s2
    have hU2 : CU B ((G, K) :: U.take 19) s2 := ⟨(b4 56 3 (by omega) (by omega) (by omega)).trans a2.1, a2.2.1, CUl_fr hB a2.2.2 (fun k _ => b4 58 k (by omega) (by omega) (by omega))⟩
    refine ⟨s2, ?_, b2, b3, hU2, ⟨fun a k x y z w => (b4 a k x z (by omega)).trans (a3 a k w (by omega)), b5.trans a4⟩⟩
    simp (disch := omega) only [f_X9_play, hmv, hday, a1, b1, hby, n_i8, n_i16, n_0, n_31, n_add, n_sub, n_mul, n_neg, n_div, n_rem, n_le_t, n_le_f, n_lt_t, n_lt_f, n_eq_t, n_eq_f, n_cl, n_gd, n_gdt, n_nz, Int.reduceToNat, Int.reduceAdd, Int.reduceSub, Int.reduceMul, Int.reduceNeg, Int.reduceLT, Int.reduceLE, Int.reduceEq, Int.reduceDiv, Int.reduceMod, Nat.reduceAdd, Nat.reduceMul, ↓reduceIte, u_eq, u_no, u_nk, u_ek, u_2, u_3, j_1, j_3, j_eq, j_no, j_nk, ltd, bnd]
  · intro hn
    by_cases e : A.1 = -1
    · have hmc : mvC B A = -1 := by unfold mvC; rw [if_pos e]
      rw [hmc] at hmv
      simp (disch := omega) only [f_X9_play, f_X9_play_j26, hmv, href, n_i8, n_i16, n_0, n_31, n_add, n_sub, n_mul, n_neg, n_div, n_rem, n_le_t, n_le_f, n_lt_t, n_lt_f, n_eq_t, n_eq_f, n_cl, n_gd, n_gdt, n_nz, Int.reduceToNat, Int.reduceAdd, Int.reduceSub, Int.reduceMul, Int.reduceNeg, Int.reduceLT, Int.reduceLE, Int.reduceEq, Int.reduceDiv, Int.reduceMod, Nat.reduceAdd, Nat.reduceMul, ↓reduceIte, u_eq, u_no, u_nk, u_ek, u_2, u_3, j_1, j_3, j_eq, j_no, j_nk, ltd, bnd]
    · have hd : gd_ G = 999 := by
        by_cases x : gd_ G < 999
        · exact absurd ⟨e, x⟩ hn
        · omega
      have hmc : 0 ≤ mvC B A ∧ mvC B A ≤ 1000 := by
        rcases hok with hA | ⟨-, m1, m2, k1, k2, hsd, hgo⟩
        · exact absurd hA e
        · have hM : bM B ≤ 8 := hB.1.1.2.2.2.2.2.2.2.1
          have hp5 := p5_x hB k1 k2
          unfold mvC; rw [if_neg e]; omega
      simp (disch := omega) only [f_X9_play, f_X9_play_j26, hmv, hday, href, n_i8, n_i16, n_0, n_31, n_add, n_sub, n_mul, n_neg, n_div, n_rem, n_le_t, n_le_f, n_lt_t, n_lt_f, n_eq_t, n_eq_f, n_cl, n_gd, n_gdt, n_nz, Int.reduceToNat, Int.reduceAdd, Int.reduceSub, Int.reduceMul, Int.reduceNeg, Int.reduceLT, Int.reduceLE, Int.reduceEq, Int.reduceDiv, Int.reduceMod, Nat.reduceAdd, Nat.reduceMul, ↓reduceIte, u_eq, u_no, u_nk, u_ek, u_2, u_3, j_1, j_3, j_eq, j_no, j_nk, ltd, bnd]
theorem c_tend {B : Brd} {G : Gam} {brd : Bool} {p : Nat} {K : List Ent} {U : USn} {s : ST} (h : CQ B G brd p s) (hK : CK K s) (hU : CU B U s) {f m : Int} (f1 : -2147483648 ≤ f) (f2 : f ≤ 2147483647) (m1 : -2147483648 ≤ m) (m2 : m ≤ 2147483647) : ((0 ≤ f ∧ f < bF B) ∧ (1 ≤ m ∧ m ≤ 99) → ∃ s', f_X9_tend (Int32.ofInt f) (Int32.ofInt m) s = some (Int32.ofInt (tendV G f m), s') ∧ CQ B (setb G f (tendV G f m)) brd p s' ∧ CK K s' ∧ CU B ((G, K) :: U.take 19) s' ∧ AX0 s s') ∧ (¬ ((0 ≤ f ∧ f < bF B) ∧ (1 ≤ m ∧ m ≤ 99)) → f_X9_tend (Int32.ofInt f) (Int32.ofInt m) s = some (Int32.ofInt (-1), crf s 2)) := by
  have hi := c_isField h f1 f2
  have href := c_refuse (s := s) (j := 2) (by omega) (by omega)
  have hB := h.1.1.1.1.1
  have hF6 : bF B ≤ 6 := hB.1.1.2.2.2.2.2.2.2.2.2
  constructor
  · rintro ⟨hf, hm⟩
    rw [decide_eq_true hf] at hi
    obtain ⟨s1, a1, a2, a3, a4⟩ := c_remember (K := K) h.1.1 h.1.2.1 hK.1 hU
    have hq1 := CQ_x h (fun a k x => a3 a k (by omega) (by omega)) a4
    have hgb := h.1.1.1.1.2.2.2.2 f hf.1 hf.2
    have hcb : s1.1 39 f.toNat = Int32.ofInt (gb G f) := hq1.1.1.2.2 f hf.1 hf.2
    have htv : 0 ≤ tendV G f m ∧ tendV G f m ≤ 999 := by unfold tendV; split <;> omega
    obtain ⟨⟨h1, h3, h4, h5⟩, ⟨h6, h7⟩, h8⟩ := hq1
    have hGA : GA B (setb G f (tendV G f m)) 36 p (uI s1 39 f.toNat (Int32.ofInt (tendV G f m))) := GA_b (o := 36) h1.1 htv.1 htv.2
    have hGB : GB B (setb G f (tendV G f m)) 36 (uI s1 39 f.toNat (Int32.ofInt (tendV G f m))) := GB_b (o := 36) h1.2.2 hf.1
    have hGS : GS (setb G f (tendV G f m)) 36 (uI s1 39 f.toNat (Int32.ofInt (tendV G f m))) := by unfold GS; rw [u_no (by omega), setb_s]; exact h1.2.1
    have hfr : ∀ a k : Nat, ¬ a = 39 → (uI s1 39 f.toNat (Int32.ofInt (tendV G f m))).1 a k = s1.1 a k := fun a k x => u_no x
    refine ⟨uI s1 39 f.toNat (Int32.ofInt (tendV G f m)), ?_, ⟨⟨⟨hGA, hGS, hGB⟩, by rw [hfr _ _ (by omega), setb_d]; exact h3, ⟨by rw [hfr _ _ (by omega)]; exact h4.1, by rw [hfr _ _ (by omega)]; exact h4.2⟩, h5⟩, ⟨h6, h7⟩, h8⟩, ?_, ?_, ⟨fun a k x y z w => by rw [hfr a k (by omega), a3 a k w (by omega)], a4⟩⟩
    · unfold tendV
      by_cases e : gb G f + m ≤ 999
      · rw [if_pos e]
        by_cases e2 : gb G f + m = 999
        · simp (disch := omega) only [f_X9_tend, hi, a1, hcb, e2, bI_t, n_i8, n_i16, n_0, n_31, n_add, n_sub, n_mul, n_neg, n_div, n_rem, n_le_t, n_le_f, n_lt_t, n_lt_f, n_eq_t, n_eq_f, n_cl, n_gd, n_gdt, n_nz, Int.reduceToNat, Int.reduceAdd, Int.reduceSub, Int.reduceMul, Int.reduceNeg, Int.reduceLT, Int.reduceLE, Int.reduceEq, Int.reduceDiv, Int.reduceMod, Nat.reduceAdd, Nat.reduceMul, ↓reduceIte, u_eq, u_no, u_nk, u_ek, u_2, u_3, j_1, j_3, j_eq, j_no, j_nk, ltd, bnd]
        · simp (disch := omega) only [f_X9_tend, hi, a1, hcb, bI_t, n_i8, n_i16, n_0, n_31, n_add, n_sub, n_mul, n_neg, n_div, n_rem, n_le_t, n_le_f, n_lt_t, n_lt_f, n_eq_t, n_eq_f, n_cl, n_gd, n_gdt, n_nz, Int.reduceToNat, Int.reduceAdd, Int.reduceSub, Int.reduceMul, Int.reduceNeg, Int.reduceLT, Int.reduceLE, Int.reduceEq, Int.reduceDiv, Int.reduceMod, Nat.reduceAdd, Nat.reduceMul, ↓reduceIte, u_eq, u_no, u_nk, u_ek, u_2, u_3, j_1, j_3, j_eq, j_no, j_nk, ltd, bnd]
      · rw [if_neg e]
        simp (disch := omega) only [f_X9_tend, hi, a1, hcb, bI_t, n_i8, n_i16, n_0, n_31, n_add, n_sub, n_mul, n_neg, n_div, n_rem, n_le_t, n_le_f, n_lt_t, n_lt_f, n_eq_t, n_eq_f, n_cl, n_gd, n_gdt, n_nz, Int.reduceToNat, Int.reduceAdd, Int.reduceSub, Int.reduceMul, Int.reduceNeg, Int.reduceLT, Int.reduceLE, Int.reduceEq, Int.reduceDiv, Int.reduceMod, Nat.reduceAdd, Nat.reduceMul, ↓reduceIte, u_eq, u_no, u_nk, u_ek, u_2, u_3, j_1, j_3, j_eq, j_no, j_nk, ltd, bnd]
    · exact CK_fr hK (by rw [hfr _ _ (by omega), a3 56 1 (by omega) (by omega)]) (fun k => by rw [hfr _ _ (by omega), a3 57 k (by omega) (by omega)])
    · exact ⟨by rw [hfr _ _ (by omega)]; exact a2.1, a2.2.1, CUl_fr hB a2.2.2 (fun k _ => hfr 58 k (by omega))⟩
  · intro hn
    by_cases hf : 0 ≤ f ∧ f < bF B
    · rw [decide_eq_true hf] at hi
      by_cases e1 : m < 1
      · simp (disch := omega) only [f_X9_tend, f_X9_tend_j19, hi, href, bI_t, n_i8, n_i16, n_0, n_31, n_add, n_sub, n_mul, n_neg, n_div, n_rem, n_le_t, n_le_f, n_lt_t, n_lt_f, n_eq_t, n_eq_f, n_cl, n_gd, n_gdt, n_nz, Int.reduceToNat, Int.reduceAdd, Int.reduceSub, Int.reduceMul, Int.reduceNeg, Int.reduceLT, Int.reduceLE, Int.reduceEq, Int.reduceDiv, Int.reduceMod, Nat.reduceAdd, Nat.reduceMul, ↓reduceIte, u_eq, u_no, u_nk, u_ek, u_2, u_3, j_1, j_3, j_eq, j_no, j_nk, ltd, bnd]
      · simp (disch := omega) only [f_X9_tend, f_X9_tend_j19, hi, href, bI_t, n_i8, n_i16, n_0, n_31, n_add, n_sub, n_mul, n_neg, n_div, n_rem, n_le_t, n_le_f, n_lt_t, n_lt_f, n_eq_t, n_eq_f, n_cl, n_gd, n_gdt, n_nz, Int.reduceToNat, Int.reduceAdd, Int.reduceSub, Int.reduceMul, Int.reduceNeg, Int.reduceLT, Int.reduceLE, Int.reduceEq, Int.reduceDiv, Int.reduceMod, Nat.reduceAdd, Nat.reduceMul, ↓reduceIte, u_eq, u_no, u_nk, u_ek, u_2, u_3, j_1, j_3, j_eq, j_no, j_nk, ltd, bnd]
    · rw [decide_eq_false hf] at hi
      simp (disch := omega) only [f_X9_tend, f_X9_tend_j19, hi, href, bI_f, n_i8, n_i16, n_0, n_31, n_add, n_sub, n_mul, n_neg, n_div, n_rem, n_le_t, n_le_f, n_lt_t, n_lt_f, n_eq_t, n_eq_f, n_cl, n_gd, n_gdt, n_nz, Int.reduceToNat, Int.reduceAdd, Int.reduceSub, Int.reduceMul, Int.reduceNeg, Int.reduceLT, Int.reduceLE, Int.reduceEq, Int.reduceDiv, Int.reduceMod, Nat.reduceAdd, Nat.reduceMul, ↓reduceIte, u_eq, u_no, u_nk, u_ek, u_2, u_3, j_1, j_3, j_eq, j_no, j_nk, ltd, bnd]
theorem mvC_b {B : Brd} (hB : Bv B) {G : Gam} {A : CA} (hA : okA B G A) : (A.1 = -1 ∧ mvC B A = -1) ∨ (¬ A.1 = -1 ∧ 0 ≤ mvC B A ∧ mvC B A ≤ 1000) := by
  by_cases e : A.1 = -1
  · left; exact ⟨e, by unfold mvC; rw [if_pos e]⟩
  · right
    rcases hA with hA | ⟨-, m1, m2, k1, k2, hsd, hgo⟩
    · exact absurd hA e
    · have hM : bM B ≤ 8 := hB.1.1.2.2.2.2.2.2.2.1
      have hp5 := p5_x hB k1 k2
      refine ⟨e, ?_⟩
      unfold mvC; rw [if_neg e]; omega
theorem c_daysA_L {B : Brd} {brd : Bool} {p : Nat} (hb : brd = true) {N : Int} (N1 : N ≤ 30) : ∀ (c F : Nat) (i : Int) (r : Gam × List Ent × Int) (s : ST), CQ B r.1 brd p s → CK r.2.1 s → (r.2.1.length : Int) ≤ gd_ r.1 → gd_ r.1 + c ≤ 999 → 0 ≤ i → (c : Int) = N - i → c < F → ∃ s', f_X9_days_L32 F (Int32.ofInt N) (Int32.ofInt r.2.2) (Int32.ofInt i) s = some (Int32.ofInt (ddN B c r).2.2, s') ∧ CQ B (ddN B c r).1 brd p s' ∧ CK (ddN B c r).2.1 s' ∧ ((ddN B c r).2.1.length : Int) ≤ gd_ (ddN B c r).1 ∧ r.2.1 <+: (ddN B c r).2.1 ∧ (∀ a k : Nat, ¬ (36 ≤ a ∧ a ≤ 45) → ¬ a = 57 → ¬ (a = 56 ∧ k = 1) → s'.1 a k = s.1 a k) ∧ s'.2 = s.2 := by
  intro c
  induction c with
  | zero =>
    intro F i r s h hK hl hd i0 hc hF
    obtain ⟨F, rfl⟩ : ∃ F', F = F' + 1 := ⟨F - 1, by omega⟩
    refine ⟨s, ?_, h, hK, hl, List.prefix_refl _, fun _ _ _ _ _ => rfl, rfl⟩
    rw [show ddN B 0 r = r from rfl]
    simp (disch := omega) only [f_X9_days_L32, n_i8, n_i16, n_0, n_31, n_add, n_sub, n_mul, n_neg, n_div, n_rem, n_le_t, n_le_f, n_lt_t, n_lt_f, n_eq_t, n_eq_f, n_cl, n_gd, n_gdt, n_nz, Int.reduceToNat, Int.reduceAdd, Int.reduceSub, Int.reduceMul, Int.reduceNeg, Int.reduceLT, Int.reduceLE, Int.reduceEq, Int.reduceDiv, Int.reduceMod, Nat.reduceAdd, Nat.reduceMul, ↓reduceIte, u_eq, u_no, u_nk, u_ek, u_2, u_3, j_1, j_3, j_eq, j_no, j_nk, ltd, bnd]
  | succ c ih =>
    intro F i r s h hK hl hd i0 hc hF
    obtain ⟨F, rfl⟩ : ∃ F', F = F' + 1 := ⟨F - 1, by omega⟩
    have hB := h.1.1.1.1.1
    have hBd := (h.2.2.1 hb).1
    have hde := c_depth h.1.1 h.1.2.2.1
    obtain ⟨s1, a1, a2, a3⟩ := c_today h.1.1 hBd (ds := -1) (db := 0) (Or.inl rfl)
    have hq1 := CQ_Fm h a2.1 a3
    have hok : okA B r.1 (todA B (-1) 0 r.1) := okA_cb hB
    have hK1 : CK r.2.1 s1 := CK_fr hK (a3.1 56 1 (by omega) (by omega) (by omega) (by omega)) (fun k => a3.1 57 k (by omega) (by omega) (by omega) (by omega))
    obtain ⟨s2, b1, b2, b3, b4, b5⟩ := c_actDay hq1 hK1 hl (by omega) hok
    have hds : ddS B r = (dayG B r.1 (todA B (-1) 0 r.1), keepA B r.1 (todA B (-1) 0 r.1) r.2.1, if (todA B (-1) 0 r.1).1 = -1 then r.2.2 else r.2.2 + 1) := rfl
    obtain ⟨s3, c1, c2, c3, c4, c5, c6, c7⟩ := ih F (i + 1) (ddS B r) s2 (by rw [hds]; exact b2) (by rw [hds]; exact b3) (by rw [hds]; exact keepA_len hl) (by rw [hds]; show gd_ (dayG B r.1 (todA B (-1) 0 r.1)) + (c : Int) ≤ 999; rw [dayG_d]; omega) (by omega) (by omega) (by omega)
    rw [show ddN B (c + 1) r = ddN B c (ddS B r) from rfl]
    refine ⟨s3, ?_, c2, c3, c4, (keepA_pre B r.1 (todA B (-1) 0 r.1) r.2.1).trans (by rw [hds] at c5; exact c5), fun a k x y z => by rw [c6 a k x y z, b4 a k x y z, a3.1 a k (by omega) (by omega) (by omega) (by omega)], c7.trans (b5.trans a3.2)⟩
    rw [← c1, f_X9_days_L32, hds]
    rcases mvC_b hB hok with ⟨e, hmc⟩ | ⟨e, hmc⟩
    · rw [hmc] at a1 b1
      rw [if_pos e]
      simp (disch := omega) only [f_X9_days_j64, hde, a1, b1, Int.add_zero, n_i8, n_i16, n_0, n_31, n_add, n_sub, n_mul, n_neg, n_div, n_rem, n_le_t, n_le_f, n_lt_t, n_lt_f, n_eq_t, n_eq_f, n_cl, n_gd, n_gdt, n_nz, Int.reduceToNat, Int.reduceAdd, Int.reduceSub, Int.reduceMul, Int.reduceNeg, Int.reduceLT, Int.reduceLE, Int.reduceEq, Int.reduceDiv, Int.reduceMod, Nat.reduceAdd, Nat.reduceMul, ↓reduceIte, u_eq, u_no, u_nk, u_ek, u_2, u_3, j_1, j_3, j_eq, j_no, j_nk, ltd, bnd]
    · rw [if_neg e]
      simp (disch := omega) only [f_X9_days_j64, hde, a1, b1, n_i8, n_i16, n_0, n_31, n_add, n_sub, n_mul, n_neg, n_div, n_rem, n_le_t, n_le_f, n_lt_t, n_lt_f, n_eq_t, n_eq_f, n_cl, n_gd, n_gdt, n_nz, Int.reduceToNat, Int.reduceAdd, Int.reduceSub, Int.reduceMul, Int.reduceNeg, Int.reduceLT, Int.reduceLE, Int.reduceEq, Int.reduceDiv, Int.reduceMod, Nat.reduceAdd, Nat.reduceMul, ↓reduceIte, u_eq, u_no, u_nk, u_ek, u_2, u_3, j_1, j_3, j_eq, j_no, j_nk, ltd, bnd]
theorem c_daysA {B : Brd} {G : Gam} {brd : Bool} {p : Nat} {K : List Ent} {U : USn} {s : ST} (h : CQ B G brd p s) (hK : CK K s) (hU : CU B U s) (hl : (K.length : Int) ≤ gd_ G) {n : Int} (n1 : -2147483648 ≤ n) (n2 : n ≤ 2147483647) : (ahd G brd n 1 30 → ∃ s', f_X9_days (Int32.ofInt n) s = some (Int32.ofInt (ddN B n.toNat (G, K, 0)).2.2, s') ∧ CQ B (ddN B n.toNat (G, K, 0)).1 brd p s' ∧ CK (ddN B n.toNat (G, K, 0)).2.1 s' ∧ CU B ((G, K) :: U.take 19) s' ∧ AX0 s s' ∧ ((ddN B n.toNat (G, K, 0)).2.1.length : Int) ≤ gd_ (ddN B n.toNat (G, K, 0)).1 ∧ K <+: (ddN B n.toNat (G, K, 0)).2.1) ∧ (¬ ahd G brd n 1 30 → f_X9_days (Int32.ofInt n) s = some (Int32.ofInt (-1), crf s 3)) := by
  have hc := c_canCome h n1 n2 (a := 1) (b := 30) (by omega) (by omega) (by omega) (by omega)
  have href := c_refuse (s := s) (j := 3) (by omega) (by omega)
  have hB := h.1.1.1.1.1
  constructor
  · intro ha
    have hc := hc.1 ha
    have hn := ha.2.1
    obtain ⟨s1, a1, a2, a3, a4⟩ := c_remember (K := K) h.1.1 h.1.2.1 hK.1 hU
    have hq1 := CQ_x h (fun a k x => a3 a k (by omega) (by omega)) a4
    obtain ⟨s2, b1, b2, b3, b4, b5, b6, b7⟩ := c_daysA_L ha.1 (N := n) (by omega) n.toNat fuel 0 (G, K, 0) s1 hq1 (CK_fr hK (a3 56 1 (by omega) (by omega)) (fun k => a3 57 k (by omega) (by omega))) hl (by have := ha.2.2; show gd_ G + (n.toNat : Int) ≤ 999; omega) (by omega) (by omega) (by unfold fuel; omega)
    have hU2 : CU B ((G, K) :: U.take 19) s2 := ⟨(b6 56 3 (by omega) (by omega) (by omega)).trans a2.1, a2.2.1, CUl_fr hB a2.2.2 (fun k _ => b6 58 k (by omega) (by omega) (by omega))⟩
    refine ⟨s2, ?_, b2, b3, hU2, ⟨fun a k x y z w => (b6 a k x z (by omega)).trans (a3 a k w (by omega)), b7.trans a4⟩, b4, b5⟩
    simp (disch := omega) only [f_X9_days, hc, a1, b1, n_i8, n_i16, n_0, n_31, n_add, n_sub, n_mul, n_neg, n_div, n_rem, n_le_t, n_le_f, n_lt_t, n_lt_f, n_eq_t, n_eq_f, n_cl, n_gd, n_gdt, n_nz, Int.reduceToNat, Int.reduceAdd, Int.reduceSub, Int.reduceMul, Int.reduceNeg, Int.reduceLT, Int.reduceLE, Int.reduceEq, Int.reduceDiv, Int.reduceMod, Nat.reduceAdd, Nat.reduceMul, ↓reduceIte, u_eq, u_no, u_nk, u_ek, u_2, u_3, j_1, j_3, j_eq, j_no, j_nk, ltd, bnd]
  · intro hn
    have hc := hc.2 hn
    simp (disch := omega) only [f_X9_days, hc, href, n_i8, n_i16, n_0, n_31, n_add, n_sub, n_mul, n_neg, n_div, n_rem, n_le_t, n_le_f, n_lt_t, n_lt_f, n_eq_t, n_eq_f, n_cl, n_gd, n_gdt, n_nz, Int.reduceToNat, Int.reduceAdd, Int.reduceSub, Int.reduceMul, Int.reduceNeg, Int.reduceLT, Int.reduceLE, Int.reduceEq, Int.reduceDiv, Int.reduceMod, Nat.reduceAdd, Nat.reduceMul, ↓reduceIte, u_eq, u_no, u_nk, u_ek, u_2, u_3, j_1, j_3, j_eq, j_no, j_nk, ltd, bnd]
