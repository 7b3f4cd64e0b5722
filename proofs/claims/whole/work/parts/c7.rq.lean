/-! L3: the reference's codes and waiting list -/
def tp (W : List Int) : Int := W.getLastD (-1)
theorem tp_c (W : List Int) (v : Int) : tp (W ++ [v]) = v := by
  unfold tp
  rw [List.getLastD_concat]
theorem tp_n : tp [] = -1 := rfl
theorem ls_cases (W : List Int) : W = [] ∨ ∃ W' v, W = W' ++ [v] := by
  rcases List.eq_nil_or_concat W with h | ⟨a, b, h⟩
  · exact Or.inl h
  · exact Or.inr ⟨a, b, by rw [h, List.concat_eq_append]⟩
theorem gD_app {a b : List Int} {i : Nat} (h : i < a.length) : (a ++ b).getD i 0 = a.getD i 0 := by
  rw [List.getD_eq_getElem?_getD, List.getD_eq_getElem?_getD, List.getElem?_append_left h]
theorem gD_last (a : List Int) (v : Int) : (a ++ [v]).getD a.length 0 = v := by
  rw [List.getD_eq_getElem?_getD, List.getElem?_append_right (Nat.le_refl _), Nat.sub_self]
  rfl
theorem ln1 (a : List Int) (v : Int) : (a ++ [v]).length = a.length + 1 := by rw [List.length_append, List.length_singleton]
def QS (cs W : List Int) (o : Int) (s : ST) : Prop := (s.1 65 111 = Int32.ofInt (cs.length : Int) ∧ ∀ i : Nat, i < cs.length → s.1 146 i = Int32.ofInt (cs.getD i 0)) ∧ (s.1 65 113 = Int32.ofInt (W.length : Int) ∧ ∀ i : Nat, i < W.length → s.1 147 i = Int32.ofInt (W.getD i 0)) ∧ (s.1 65 114 = Int32.ofInt o ∧ 0 ≤ o ∧ o ≤ 6) ∧ ∀ v ∈ W, 0 ≤ v ∧ v ≤ 100
def QWf (s s' : ST) : Prop := (∀ o k : Nat, ¬ (o = 65 ∧ (k = 111 ∨ k = 113 ∨ k = 114)) → ¬ o = 146 → ¬ o = 147 → s'.1 o k = s.1 o k) ∧ s'.2 = s.2
def RQf (s s' : ST) : Prop := (∀ o k : Nat, ¬ (o = 65 ∧ (k = 2 ∨ k = 4 ∨ k = 5 ∨ k = 6 ∨ k = 10 ∨ k = 44 ∨ k = 111 ∨ k = 113 ∨ k = 114 ∨ k = 115)) → ¬ o = 146 → ¬ o = 147 → s'.1 o k = s.1 o k) ∧ s'.2 = s.2
theorem QWf.rf (s : ST) : QWf s s := ⟨fun _ _ _ _ _ => rfl, rfl⟩
theorem QWf.tr {s t u : ST} (h1 : QWf s t) (h2 : QWf t u) : QWf s u := ⟨fun o k x y z => (h2.1 o k x y z).trans (h1.1 o k x y z), h2.2.trans h1.2⟩
theorem RQf.rf (s : ST) : RQf s s := ⟨fun _ _ _ _ _ => rfl, rfl⟩
theorem RQf.tr {s t u : ST} (h1 : RQf s t) (h2 : RQf t u) : RQf s u := ⟨fun o k x y z => (h2.1 o k x y z).trans (h1.1 o k x y z), h2.2.trans h1.2⟩
theorem QWf.q {s t : ST} (h : QWf s t) : RQf s t := ⟨fun o k x y z => h.1 o k (by omega) y z, h.2⟩
theorem RPf.q {s t : ST} (h : RPf s t) : RQf s t := ⟨fun o k x _ _ => h.1 o k (by omega), h.2⟩
theorem RFa.q {s t : ST} (h : RFa s t) : RQf s t := h.rp.q
theorem QS_fr {cs W : List Int} {o : Int} {s s' : ST} (h : QS cs W o s) (hf : RPf s s') : QS cs W o s' := ⟨⟨(hf.1 65 111 (by omega)).trans h.1.1, fun i hi => (hf.1 146 i (by omega)).trans (h.1.2 i hi)⟩, ⟨(hf.1 65 113 (by omega)).trans h.2.1.1, fun i hi => (hf.1 147 i (by omega)).trans (h.2.1.2 i hi)⟩, ⟨(hf.1 65 114 (by omega)).trans h.2.2.1.1, h.2.2.1.2⟩, h.2.2.2⟩
theorem QS.top {cs W : List Int} {v o : Int} {s : ST} (h : QS cs (W ++ [v]) o s) : s.1 147 W.length = Int32.ofInt v ∧ 0 ≤ v ∧ v ≤ 100 := by
  refine ⟨?_, h.2.2.2 v (by simp)⟩
  rw [h.2.1.2 W.length (by rw [ln1]; omega), gD_last]
/-- a code more -/
theorem m_qcode {cs W : List Int} {o : Int} {s : ST} (h : QS cs W o s) (hl : (cs.length : Int) < 1700) (v : Int) : ∃ s', f_X10_qCode (Int32.ofInt v) s = some s' ∧ QS (cs ++ [v]) W o s' ∧ QWf s s' := by
  obtain ⟨⟨h1, h2⟩, ⟨h3, h4⟩, ⟨h5, h5b⟩, h6⟩ := h
  have ecl : (Int32.ofInt (cs.length : Int)).toNatClampNeg = cs.length := by rw [n_cl (by omega) (by omega)]; omega
  have egd : ∀ {α : Type} {y : Option α}, gd (ib (Int32.ofInt (cs.length : Int)) 1700) y = y := by intro α y; exact n_gd (by omega) (by omega) (by omega)
  refine ⟨uI (uI s 146 cs.length (Int32.ofInt v)) 65 111 (Int32.ofInt ((cs.length : Int) + 1)), ?_, ⟨⟨?_, fun i hi => ?_⟩, ⟨?_, fun i hi => ?_⟩, ⟨?_, h5b⟩, h6⟩, ⟨fun a k x y z => by (simp only [ua, ja, u_2, u_3, j_1, j_3]; (repeat' split) <;> first | rfl | (exfalso; omega)), rfl⟩⟩
  · simp (disch := omega) only [f_X10_qCode, h1, ecl, egd, n_i8, n_i16, n_0, n_31, n_add, n_sub, n_mul, n_neg, n_div, n_rem, n_le_t, n_le_f, n_lt_t, n_lt_f, n_eq_t, n_eq_f, n_cl, n_gd, n_gdt, n_nz, Int.reduceToNat, Int.reduceAdd, Int.reduceSub, Int.reduceMul, Int.reduceNeg, Int.reduceLT, Int.reduceLE, Int.reduceEq, Int.reduceDiv, Int.reduceMod, Nat.reduceAdd, Nat.reduceMul, ↓reduceIte, u_eq, u_no, u_nk, u_ek, u_2, u_3, j_1, j_3, j_eq, j_no, j_nk, ltd, bnd]
  · rw [u_eq, ln1]; rfl
  · rw [ln1] at hi
    rw [u_no (by omega)]
    by_cases e : i = cs.length
    · subst e; rw [u_eq, gD_last]
    · rw [u_nk e, h2 i (by omega), gD_app (by omega)]
  · rw [u_nk (by omega), u_no (by omega)]; exact h3
  · rw [u_no (by omega), u_no (by omega)]; exact h4 i hi
  · rw [u_nk (by omega), u_no (by omega)]; exact h5
/-- the last that waits becomes a code -/
theorem m_qdrops {cs W : List Int} {o v : Int} {s : ST} (h : QS cs (W ++ [v]) o s) (hl : (cs.length : Int) < 1700) (hw : (W.length : Int) < 1700) : ∃ s', f_X10_qDrops s = some s' ∧ QS (cs ++ [v]) W o s' ∧ QWf s s' := by
  have ht := h.top
  have h' := h
  obtain ⟨⟨h1, h2⟩, ⟨h3, h4⟩, ⟨h5, h5b⟩, h6⟩ := h'
  rw [ln1] at h3 h4
  rw [show ((W.length + 1 : Nat) : Int) = (W.length : Int) + 1 by omega] at h3
  have hf : QWf s (uI s 65 113 (Int32.ofInt (W.length : Int))) := ⟨fun a k x y z => by (simp only [ua, ja, u_2, u_3, j_1, j_3]; (repeat' split) <;> first | rfl | (exfalso; omega)), rfl⟩
  have hq : QS cs W o (uI s 65 113 (Int32.ofInt (W.length : Int))) := by
    refine ⟨⟨?_, fun i hi => ?_⟩, ⟨u_eq _ _ _ _, fun i hi => ?_⟩, ⟨?_, h5b⟩, fun u hu => h6 u (by simp [hu])⟩
    · rw [u_nk (by omega)]; exact h1
    · rw [u_no (by omega)]; exact h2 i hi
    · rw [u_no (by omega), h4 i (by omega), gD_app hi]
    · rw [u_nk (by omega)]; exact h5
  obtain ⟨s', q1, q2, q3⟩ := m_qcode hq hl v
  have ecl : (Int32.ofInt (W.length : Int)).toNatClampNeg = W.length := by rw [n_cl (by omega) (by omega)]; omega
  have egd : ∀ {α : Type} {y : Option α}, gd (ib (Int32.ofInt (W.length : Int)) 1700) y = y := by intro α y; exact n_gd (by omega) (by omega) (by omega)
  have et := ht.1
  refine ⟨s', ?_, q2, hf.tr q3⟩
  have e3 : s.1 65 113 - Int32.ofInt 1 = Int32.ofInt (W.length : Int) := by rw [h3, n_sub, show (W.length : Int) + 1 - 1 = (W.length : Int) by omega]
  simp (disch := omega) only [f_X10_qDrops, e3, ecl, egd, et, q1, n_i8, n_i16, n_0, n_31, n_add, n_sub, n_mul, n_neg, n_div, n_rem, n_le_t, n_le_f, n_lt_t, n_lt_f, n_eq_t, n_eq_f, n_cl, n_gd, n_gdt, n_nz, Int.reduceToNat, Int.reduceAdd, Int.reduceSub, Int.reduceMul, Int.reduceNeg, Int.reduceLT, Int.reduceLE, Int.reduceEq, Int.reduceDiv, Int.reduceMod, Nat.reduceAdd, Nat.reduceMul, ↓reduceIte, u_eq, u_no, u_nk, u_ek, u_2, u_3, j_1, j_3, j_eq, j_no, j_nk, ltd, bnd]
/-- one more waits, and nothing opens -/
theorem QS.psh {cs W : List Int} {o : Int} {s : ST} (h : QS cs W o s) {v : Int} (v0 : 0 ≤ v) (v1 : v ≤ 100) : QS cs (W ++ [v]) o (uI (uI s 147 W.length (Int32.ofInt v)) 65 113 (Int32.ofInt ((W.length : Int) + 1))) ∧ QWf s (uI (uI s 147 W.length (Int32.ofInt v)) 65 113 (Int32.ofInt ((W.length : Int) + 1))) := by
  obtain ⟨⟨h1, h2⟩, ⟨h3, h4⟩, ⟨h5, h5b⟩, h6⟩ := h
  refine ⟨⟨⟨?_, fun i hi => ?_⟩, ⟨?_, fun i hi => ?_⟩, ⟨?_, h5b⟩, fun u hu => ?_⟩, ⟨fun a k x y z => by (simp only [ua, ja, u_2, u_3, j_1, j_3]; (repeat' split) <;> first | rfl | (exfalso; omega)), rfl⟩⟩
  · rw [u_nk (by omega), u_no (by omega)]; exact h1
  · rw [u_no (by omega), u_no (by omega)]; exact h2 i hi
  · rw [u_eq, ln1]; rfl
  · rw [ln1] at hi
    rw [u_no (by omega)]
    by_cases e : i = W.length
    · subst e; rw [u_eq, gD_last]
    · rw [u_nk e, h4 i (by omega), gD_app (by omega)]
  · rw [u_nk (by omega), u_no (by omega)]; exact h5
  · rcases List.mem_append.mp hu with hu | hu
    · exact h6 u hu
    · rw [List.mem_singleton.mp hu]; exact ⟨v0, v1⟩
theorem QS.opn {cs W : List Int} {o o' : Int} {s : ST} (h : QS cs W o s) (o0 : 0 ≤ o') (o6 : o' ≤ 6) : QS cs W o' (uI s 65 114 (Int32.ofInt o')) ∧ QWf s (uI s 65 114 (Int32.ofInt o')) := by
  obtain ⟨⟨h1, h2⟩, ⟨h3, h4⟩, ⟨h5, h5b⟩, h6⟩ := h
  refine ⟨⟨⟨?_, fun i hi => ?_⟩, ⟨?_, fun i hi => ?_⟩, ⟨u_eq _ _ _ _, o0, o6⟩, h6⟩, ⟨fun a k x y z => by (simp only [ua, ja, u_2, u_3, j_1, j_3]; (repeat' split) <;> first | rfl | (exfalso; omega)), rfl⟩⟩
  · rw [u_nk (by omega)]; exact h1
  · rw [u_no (by omega)]; exact h2 i hi
  · rw [u_nk (by omega)]; exact h3
  · rw [u_no (by omega)]; exact h4 i hi
/-- the last goes -/
theorem QS.pop {cs W : List Int} {o v : Int} {s : ST} (h : QS cs (W ++ [v]) o s) : QS cs W o (uI s 65 113 (Int32.ofInt (W.length : Int))) ∧ QWf s (uI s 65 113 (Int32.ofInt (W.length : Int))) := by
  obtain ⟨⟨h1, h2⟩, ⟨h3, h4⟩, ⟨h5, h5b⟩, h6⟩ := h
  rw [ln1] at h4
  refine ⟨⟨⟨?_, fun i hi => ?_⟩, ⟨u_eq _ _ _ _, fun i hi => ?_⟩, ⟨?_, h5b⟩, fun u hu => h6 u (by simp [hu])⟩, ⟨fun a k x y z => by (simp only [ua, ja, u_2, u_3, j_1, j_3]; (repeat' split) <;> first | rfl | (exfalso; omega)), rfl⟩⟩
  · rw [u_nk (by omega)]; exact h1
  · rw [u_no (by omega)]; exact h2 i hi
  · rw [u_no (by omega), h4 i (by omega), gD_app hi]
  · rw [u_nk (by omega)]; exact h5
theorem m_qopens {cs W : List Int} {o : Int} {s : ST} (h : QS cs W o s) (hb : s.1 65 5 = Int32.ofInt 0) (ho : o < 6) (hw : (W.length : Int) < 1700) {v : Int} (v0 : 0 ≤ v) (v1 : v ≤ 100) (p : Int32) : ∃ s', f_X10_qOpens (Int32.ofInt v) p s = some s' ∧ QS cs (W ++ [v]) (o + 1) s' ∧ QWf s s' := by
  have hob := h.2.2.1.2
  obtain ⟨a1, a2⟩ := h.opn (o' := o + 1) (by omega) (by omega)
  obtain ⟨b1, b2⟩ := a1.psh v0 v1
  refine ⟨_, ?_, b1, a2.tr b2⟩
  have h3 := h.2.1.1
  have h5 := h.2.2.1.1
  have ecl : (Int32.ofInt (W.length : Int)).toNatClampNeg = W.length := by rw [n_cl (by omega) (by omega)]; omega
  have egd : ∀ {α : Type} {y : Option α}, gd (ib (Int32.ofInt (W.length : Int)) 1700) y = y := by intro α y; exact n_gd (by omega) (by omega) (by omega)
  simp (disch := omega) only [f_X10_qOpens, hb, h3, h5, ecl, egd, n_i8, n_i16, n_0, n_31, n_add, n_sub, n_mul, n_neg, n_div, n_rem, n_le_t, n_le_f, n_lt_t, n_lt_f, n_eq_t, n_eq_f, n_cl, n_gd, n_gdt, n_nz, Int.reduceToNat, Int.reduceAdd, Int.reduceSub, Int.reduceMul, Int.reduceNeg, Int.reduceLT, Int.reduceLE, Int.reduceEq, Int.reduceDiv, Int.reduceMod, Nat.reduceAdd, Nat.reduceMul, ↓reduceIte, u_eq, u_no, u_nk, u_ek, u_2, u_3, j_1, j_3, j_eq, j_no, j_nk, ltd, bnd]
theorem m_qopens6 {cs W : List Int} {s : ST} (h : QS cs W 6 s) (hb : s.1 65 5 = Int32.ofInt 0) (v : Int32) (p : Int) : ∃ s', f_X10_qOpens v (Int32.ofInt p) s = some s' ∧ RB 4 p s' ∧ RPf s s' := by
  obtain ⟨s', q1, q2, q3⟩ := m_fail (k := 4) (p := p) hb (by omega) (by omega)
  refine ⟨s', ?_, q2, q3⟩
  have h5 := h.2.2.1.1
  simp (disch := omega) only [f_X10_qOpens, hb, h5, q1, n_i8, n_i16, n_0, n_31, n_add, n_sub, n_mul, n_neg, n_div, n_rem, n_le_t, n_le_f, n_lt_t, n_lt_f, n_eq_t, n_eq_f, n_cl, n_gd, n_gdt, n_nz, Int.reduceToNat, Int.reduceAdd, Int.reduceSub, Int.reduceMul, Int.reduceNeg, Int.reduceLT, Int.reduceLE, Int.reduceEq, Int.reduceDiv, Int.reduceMod, Nat.reduceAdd, Nat.reduceMul, ↓reduceIte, u_eq, u_no, u_nk, u_ek, u_2, u_3, j_1, j_3, j_eq, j_no, j_nk, ltd, bnd]
theorem m_qison {cs W : List Int} {o : Int} {s : ST} (h : QS cs W o s) (hw : (W.length : Int) ≤ 1700) {q : Int} (q0 : 0 ≤ q) (q1 : q ≤ 100) : f_X10_qIsOn (Int32.ofInt q) s = some (bI (decide (tp W = q)), s) := by
  have h3 := h.2.1.1
  rcases ls_cases W with rfl | ⟨W', v, rfl⟩
  · rw [tp_n, decide_eq_false (by omega)]
    have h3 : s.1 65 113 = Int32.ofInt 0 := h3
    simp (disch := omega) only [f_X10_qIsOn, h3, bI_f, n_i8, n_i16, n_0, n_31, n_add, n_sub, n_mul, n_neg, n_div, n_rem, n_le_t, n_le_f, n_lt_t, n_lt_f, n_eq_t, n_eq_f, n_cl, n_gd, n_gdt, n_nz, Int.reduceToNat, Int.reduceAdd, Int.reduceSub, Int.reduceMul, Int.reduceNeg, Int.reduceLT, Int.reduceLE, Int.reduceEq, Int.reduceDiv, Int.reduceMod, Nat.reduceAdd, Nat.reduceMul, ↓reduceIte, u_eq, u_no, u_nk, u_ek, u_2, u_3, j_1, j_3, j_eq, j_no, j_nk, ltd, bnd]
  · rw [tp_c]
    have ht := h.top
    rw [ln1] at h3 hw
    rw [show ((W'.length + 1 : Nat) : Int) = (W'.length : Int) + 1 by omega] at h3
    have ecl : (Int32.ofInt (W'.length : Int)).toNatClampNeg = W'.length := by rw [n_cl (by omega) (by omega)]; omega
    have egd : ∀ {α : Type} {y : Option α}, gd (ib (Int32.ofInt (W'.length : Int)) 1700) y = y := by intro α y; exact n_gd (by omega) (by omega) (by omega)
    have e3 : Int32.ofInt ((W'.length : Int) + 1) - Int32.ofInt 1 = Int32.ofInt (W'.length : Int) := by rw [n_sub, show (W'.length : Int) + 1 - 1 = (W'.length : Int) by omega]
    have et := ht.1
    by_cases e : v = q
    · rw [decide_eq_true e]
      simp (disch := omega) only [f_X10_qIsOn, h3, e3, ecl, egd, et, bI_t, n_i8, n_i16, n_0, n_31, n_add, n_sub, n_mul, n_neg, n_div, n_rem, n_le_t, n_le_f, n_lt_t, n_lt_f, n_eq_t, n_eq_f, n_cl, n_gd, n_gdt, n_nz, Int.reduceToNat, Int.reduceAdd, Int.reduceSub, Int.reduceMul, Int.reduceNeg, Int.reduceLT, Int.reduceLE, Int.reduceEq, Int.reduceDiv, Int.reduceMod, Nat.reduceAdd, Nat.reduceMul, ↓reduceIte, u_eq, u_no, u_nk, u_ek, u_2, u_3, j_1, j_3, j_eq, j_no, j_nk, ltd, bnd]
    · rw [decide_eq_false e]
      simp (disch := omega) only [f_X10_qIsOn, h3, e3, ecl, egd, et, bI_f, n_i8, n_i16, n_0, n_31, n_add, n_sub, n_mul, n_neg, n_div, n_rem, n_le_t, n_le_f, n_lt_t, n_lt_f, n_eq_t, n_eq_f, n_cl, n_gd, n_gdt, n_nz, Int.reduceToNat, Int.reduceAdd, Int.reduceSub, Int.reduceMul, Int.reduceNeg, Int.reduceLT, Int.reduceLE, Int.reduceEq, Int.reduceDiv, Int.reduceMod, Nat.reduceAdd, Nat.reduceMul, ↓reduceIte, u_eq, u_no, u_nk, u_ek, u_2, u_3, j_1, j_3, j_eq, j_no, j_nk, ltd, bnd]
theorem m_qisb (v : Int) (v0 : 0 ≤ v) (v1 : v ≤ 100) (s : ST) : f_X10_qIsBracket (Int32.ofInt v) s = some (bI (decide (20 ≤ v ∧ v ≤ 24)), s) := by
  by_cases e1 : v < 20
  · rw [decide_eq_false (by omega)]
    simp (disch := omega) only [f_X10_qIsBracket, bI_f, n_i8, n_i16, n_0, n_31, n_add, n_sub, n_mul, n_neg, n_div, n_rem, n_le_t, n_le_f, n_lt_t, n_lt_f, n_eq_t, n_eq_f, n_cl, n_gd, n_gdt, n_nz, Int.reduceToNat, Int.reduceAdd, Int.reduceSub, Int.reduceMul, Int.reduceNeg, Int.reduceLT, Int.reduceLE, Int.reduceEq, Int.reduceDiv, Int.reduceMod, Nat.reduceAdd, Nat.reduceMul, ↓reduceIte, u_eq, u_no, u_nk, u_ek, u_2, u_3, j_1, j_3, j_eq, j_no, j_nk, ltd, bnd]
  by_cases e2 : 24 < v
  · rw [decide_eq_false (by omega)]
    simp (disch := omega) only [f_X10_qIsBracket, bI_f, n_i8, n_i16, n_0, n_31, n_add, n_sub, n_mul, n_neg, n_div, n_rem, n_le_t, n_le_f, n_lt_t, n_lt_f, n_eq_t, n_eq_f, n_cl, n_gd, n_gdt, n_nz, Int.reduceToNat, Int.reduceAdd, Int.reduceSub, Int.reduceMul, Int.reduceNeg, Int.reduceLT, Int.reduceLE, Int.reduceEq, Int.reduceDiv, Int.reduceMod, Nat.reduceAdd, Nat.reduceMul, ↓reduceIte, u_eq, u_no, u_nk, u_ek, u_2, u_3, j_1, j_3, j_eq, j_no, j_nk, ltd, bnd]
  · rw [decide_eq_true (by omega)]
    simp (disch := omega) only [f_X10_qIsBracket, bI_t, n_i8, n_i16, n_0, n_31, n_add, n_sub, n_mul, n_neg, n_div, n_rem, n_le_t, n_le_f, n_lt_t, n_lt_f, n_eq_t, n_eq_f, n_cl, n_gd, n_gdt, n_nz, Int.reduceToNat, Int.reduceAdd, Int.reduceSub, Int.reduceMul, Int.reduceNeg, Int.reduceLT, Int.reduceLE, Int.reduceEq, Int.reduceDiv, Int.reduceMod, Nat.reduceAdd, Nat.reduceMul, ↓reduceIte, u_eq, u_no, u_nk, u_ek, u_2, u_3, j_1, j_3, j_eq, j_no, j_nk, ltd, bnd]
/-- at the bottom of what waits above b stands nothing, or a bracket -/
def CX (b : Int) (W : List Int) : Prop := ((W.length : Int) = b ∧ (tp W = -1 ∨ (10 ≤ tp W ∧ tp W ≤ 25))) ∨ (b < (W.length : Int) ∧ 20 ≤ tp W ∧ tp W ≤ 24)
theorem CX.t {b : Int} {W : List Int} (h : CX b W) : b ≤ (W.length : Int) ∧ (tp W = -1 ∨ (10 ≤ tp W ∧ tp W ≤ 25)) := by
  rcases h with h | h
  · exact ⟨by omega, h.2⟩
  · exact ⟨by omega, Or.inr ⟨by omega, by omega⟩⟩
theorem rev_c (W r : List Int) (v : Int) : W ++ (v :: r).reverse = (W ++ r.reverse) ++ [v] := by rw [List.reverse_cons, List.append_assoc]
def brk (b : Int) (W : List Int) : Int := if (W.length : Int) = b then -1 else tp W
theorem m_qbr_L {cs W : List Int} {o b : Int} {s : ST} (hq : QS cs W o s) (hb : s.1 65 115 = Int32.ofInt b) (b0 : 0 ≤ b) (hw : (W.length : Int) ≤ 1700) {W0 : List Int} (hX : CX b W0) : ∀ (r : List Int) (F : Nat) (R : List Int), W = (W0 ++ r.reverse) ++ R → (∀ v ∈ r, 1 ≤ v ∧ v ≤ 4) → r.length + 1 < F → f_X10_qBracket_L7 f_X10_qBracket_j33 F (Int32.ofInt (((W0 ++ r.reverse).length : Int) - 1)) s = some (Int32.ofInt (brk b W0), s) := by
  have hXt := hX.t
  intro r
  induction r with
  | nil =>
    intro F R hW hr hF
    obtain ⟨F, rfl⟩ : ∃ F', F = F' + 1 := ⟨F - 1, by omega⟩
    rw [List.reverse_nil, List.append_nil] at hW ⊢
    have hlen : W.length = W0.length + R.length := by rw [hW, List.length_append]
    unfold brk
    rcases hX with hX | hX
    · rw [if_pos hX.1]
      simp (disch := omega) only [f_X10_qBracket_L7, f_X10_qBracket_j33, hb, n_i8, n_i16, n_0, n_31, n_add, n_sub, n_mul, n_neg, n_div, n_rem, n_le_t, n_le_f, n_lt_t, n_lt_f, n_eq_t, n_eq_f, n_cl, n_gd, n_gdt, n_nz, Int.reduceToNat, Int.reduceAdd, Int.reduceSub, Int.reduceMul, Int.reduceNeg, Int.reduceLT, Int.reduceLE, Int.reduceEq, Int.reduceDiv, Int.reduceMod, Nat.reduceAdd, Nat.reduceMul, ↓reduceIte, u_eq, u_no, u_nk, u_ek, u_2, u_3, j_1, j_3, j_eq, j_no, j_nk, ltd, bnd]
    · rw [if_neg (by omega)]
      rcases ls_cases W0 with rfl | ⟨W', v, rfl⟩
      · have : tp ([] : List Int) = -1 := rfl
        omega
      · rw [tp_c] at hX ⊢
        rw [ln1] at hX hlen ⊢
        have hv := hq.2.1.2 W'.length (by omega)
        rw [hW, gD_app (by rw [ln1]; omega), gD_last] at hv
        have hib := m_qisb v (by omega) (by omega) s
        rw [decide_eq_true ⟨hX.2.1, hX.2.2⟩] at hib
        rw [show ((W'.length + 1 : Nat) : Int) - 1 = (W'.length : Int) by omega]
        have ecl : (Int32.ofInt (W'.length : Int)).toNatClampNeg = W'.length := by rw [n_cl (by omega) (by omega)]; omega
        have egd : ∀ {α : Type} {y : Option α}, gd (ib (Int32.ofInt (W'.length : Int)) 1700) y = y := by intro α y; exact n_gd (by omega) (by omega) (by omega)
        simp (disch := omega) only [f_X10_qBracket_L7, f_X10_qBracket_j33, hb, ecl, egd, hv, hib, bI_t, n_i8, n_i16, n_0, n_31, n_add, n_sub, n_mul, n_neg, n_div, n_rem, n_le_t, n_le_f, n_lt_t, n_lt_f, n_eq_t, n_eq_f, n_cl, n_gd, n_gdt, n_nz, Int.reduceToNat, Int.reduceAdd, Int.reduceSub, Int.reduceMul, Int.reduceNeg, Int.reduceLT, Int.reduceLE, Int.reduceEq, Int.reduceDiv, Int.reduceMod, Nat.reduceAdd, Nat.reduceMul, ↓reduceIte, u_eq, u_no, u_nk, u_ek, u_2, u_3, j_1, j_3, j_eq, j_no, j_nk, ltd, bnd]
  | cons v r ih =>
    intro F R hW hr hF
    obtain ⟨F, rfl⟩ : ∃ F', F = F' + 1 := ⟨F - 1, by omega⟩
    rw [rev_c] at hW ⊢
    have hlen : W.length = (W0 ++ r.reverse).length + 1 + R.length := by rw [hW, List.length_append, ln1]
    have hl0 : W0.length ≤ (W0 ++ r.reverse).length := by rw [List.length_append]; omega
    have ih := ih F ([v] ++ R) (by rw [hW, List.append_assoc]) (fun u hu => hr u (List.mem_cons_of_mem _ hu)) (by rw [List.length_cons] at hF; omega)
    have hvb := hr v List.mem_cons_self
    have hv := hq.2.1.2 (W0 ++ r.reverse).length (by omega)
    rw [hW, gD_app (by rw [ln1]; omega), gD_last] at hv
    have hib := m_qisb v (by omega) (by omega) s
    rw [decide_eq_false (by omega)] at hib
    rw [ln1]
    generalize (W0 ++ r.reverse).length = L at *
    rw [show ((L + 1 : Nat) : Int) - 1 = (L : Int) by omega]
    have ecl : (Int32.ofInt (L : Int)).toNatClampNeg = L := by rw [n_cl (by omega) (by omega)]; omega
    have egd : ∀ {α : Type} {y : Option α}, gd (ib (Int32.ofInt (L : Int)) 1700) y = y := by intro α y; exact n_gd (by omega) (by omega) (by omega)
    rw [← ih, f_X10_qBracket_L7, show (L : Int) - 1 = (L : Int) + -1 by omega]
    simp (disch := omega) only [hb, ecl, egd, hv, hib, bI_f, n_i8, n_i16, n_0, n_31, n_add, n_sub, n_mul, n_neg, n_div, n_rem, n_le_t, n_le_f, n_lt_t, n_lt_f, n_eq_t, n_eq_f, n_cl, n_gd, n_gdt, n_nz, Int.reduceToNat, Int.reduceAdd, Int.reduceSub, Int.reduceMul, Int.reduceNeg, Int.reduceLT, Int.reduceLE, Int.reduceEq, Int.reduceDiv, Int.reduceMod, Nat.reduceAdd, Nat.reduceMul, ↓reduceIte, u_eq, u_no, u_nk, u_ek, u_2, u_3, j_1, j_3, j_eq, j_no, j_nk, ltd, bnd]
theorem m_qbr {cs W0 r : List Int} {o b : Int} {s : ST} (hq : QS cs (W0 ++ r.reverse) o s) (hb : s.1 65 115 = Int32.ofInt b) (b0 : 0 ≤ b) (hw : ((W0 ++ r.reverse).length : Int) ≤ 1700) (hX : CX b W0) (hr : ∀ v ∈ r, 1 ≤ v ∧ v ≤ 4) : f_X10_qBracket s = some (Int32.ofInt (brk b W0), s) := by
  have hlen : (W0 ++ r.reverse).length = W0.length + r.length := by rw [List.length_append, List.length_reverse]
  have h := m_qbr_L hq hb b0 hw hX r fuel [] (by rw [List.append_nil]) hr (by unfold fuel; omega)
  have h3 := hq.2.1.1
  have e : f_X10_qBracket s = f_X10_qBracket_L7 f_X10_qBracket_j33 fuel (s.1 65 113 - Int32.ofInt 1) s := rfl
  rw [e, h3, n_sub]
  exact h
/-- the operators that wait become codes -/
theorem m_dtb_L {W0 : List Int} {b : Int} (b0 : 0 ≤ b) (hX : CX b W0) : ∀ (r : List Int) (F : Nat) (cs : List Int) (o : Int) (s : ST), QS cs (W0 ++ r.reverse) o s → s.1 65 115 = Int32.ofInt b → (cs.length : Int) + ((W0 ++ r.reverse).length : Int) ≤ 1650 → (∀ v ∈ r, 1 ≤ v ∧ v ≤ 4) → r.length < F → ∃ s', f_X10_qDropsToBracket_L0 F s = some s' ∧ QS (cs ++ r) W0 o s' ∧ QWf s s' := by
  have hXt := hX.t
  intro r
  induction r with
  | nil =>
    intro F cs o s hq hb hl hr hF
    obtain ⟨F, rfl⟩ : ∃ F', F = F' + 1 := ⟨F - 1, by omega⟩
    rw [List.reverse_nil, List.append_nil] at hq hl
    refine ⟨s, ?_, by rw [List.append_nil]; exact hq, QWf.rf s⟩
    have h3 := hq.2.1.1
    rcases hX with hX | hX
    · simp (disch := omega) only [f_X10_qDropsToBracket_L0, h3, hb, n_i8, n_i16, n_0, n_31, n_add, n_sub, n_mul, n_neg, n_div, n_rem, n_le_t, n_le_f, n_lt_t, n_lt_f, n_eq_t, n_eq_f, n_cl, n_gd, n_gdt, n_nz, Int.reduceToNat, Int.reduceAdd, Int.reduceSub, Int.reduceMul, Int.reduceNeg, Int.reduceLT, Int.reduceLE, Int.reduceEq, Int.reduceDiv, Int.reduceMod, Nat.reduceAdd, Nat.reduceMul, ↓reduceIte, u_eq, u_no, u_nk, u_ek, u_2, u_3, j_1, j_3, j_eq, j_no, j_nk, ltd, bnd]
    · rcases ls_cases W0 with rfl | ⟨W', v, rfl⟩
      · have : tp ([] : List Int) = -1 := rfl
        omega
      · rw [tp_c] at hX
        have ht := hq.top
        rw [ln1] at h3 hX hl hXt
        rw [show ((W'.length + 1 : Nat) : Int) = (W'.length : Int) + 1 by omega] at h3
        have ecl : (Int32.ofInt (W'.length : Int)).toNatClampNeg = W'.length := by rw [n_cl (by omega) (by omega)]; omega
        have egd : ∀ {α : Type} {y : Option α}, gd (ib (Int32.ofInt (W'.length : Int)) 1700) y = y := by intro α y; exact n_gd (by omega) (by omega) (by omega)
        have e3 : Int32.ofInt ((W'.length : Int) + 1) - Int32.ofInt 1 = Int32.ofInt (W'.length : Int) := by rw [n_sub, show (W'.length : Int) + 1 - 1 = (W'.length : Int) by omega]
        have et := ht.1
        have hib := m_qisb v (by omega) (by omega) s
        rw [decide_eq_true ⟨hX.2.1, hX.2.2⟩] at hib
        simp (disch := omega) only [f_X10_qDropsToBracket_L0, h3, hb, e3, ecl, egd, et, hib, bI_t, n_i8, n_i16, n_0, n_31, n_add, n_sub, n_mul, n_neg, n_div, n_rem, n_le_t, n_le_f, n_lt_t, n_lt_f, n_eq_t, n_eq_f, n_cl, n_gd, n_gdt, n_nz, Int.reduceToNat, Int.reduceAdd, Int.reduceSub, Int.reduceMul, Int.reduceNeg, Int.reduceLT, Int.reduceLE, Int.reduceEq, Int.reduceDiv, Int.reduceMod, Nat.reduceAdd, Nat.reduceMul, ↓reduceIte, u_eq, u_no, u_nk, u_ek, u_2, u_3, j_1, j_3, j_eq, j_no, j_nk, ltd, bnd]
  | cons v r ih =>
    intro F cs o s hq hb hl hr hF
    obtain ⟨F, rfl⟩ : ∃ F', F = F' + 1 := ⟨F - 1, by omega⟩
    rw [rev_c] at hq hl
    have ht := hq.top
    have h3 := hq.2.1.1
    have hvb := hr v List.mem_cons_self
    have hl0 : W0.length ≤ (W0 ++ r.reverse).length := by rw [List.length_append]; omega
    rw [ln1] at hl h3
    obtain ⟨s1, q1, q2, q3⟩ := m_qdrops hq (by omega) (by omega)
    obtain ⟨s', p1, p2, p3⟩ := ih F (cs ++ [v]) o s1 q2 ((q3.1 65 115 (by omega) (by omega) (by omega)).trans hb) (by rw [ln1]; omega) (fun u hu => hr u (List.mem_cons_of_mem _ hu)) (by rw [List.length_cons] at hF; omega)
    refine ⟨s', ?_, by rw [List.append_assoc] at p2; exact p2, q3.tr p3⟩
    generalize (W0 ++ r.reverse).length = L at *
    rw [show ((L + 1 : Nat) : Int) = (L : Int) + 1 by omega] at h3
    have ecl : (Int32.ofInt (L : Int)).toNatClampNeg = L := by rw [n_cl (by omega) (by omega)]; omega
    have egd : ∀ {α : Type} {y : Option α}, gd (ib (Int32.ofInt (L : Int)) 1700) y = y := by intro α y; exact n_gd (by omega) (by omega) (by omega)
    have e3 : Int32.ofInt ((L : Int) + 1) - Int32.ofInt 1 = Int32.ofInt (L : Int) := by rw [n_sub, show (L : Int) + 1 - 1 = (L : Int) by omega]
    have et := ht.1
    have hib := m_qisb v (by omega) (by omega) s
    rw [decide_eq_false (by omega)] at hib
    rw [← p1, f_X10_qDropsToBracket_L0]
    simp (disch := omega) only [h3, hb, e3, ecl, egd, et, hib, q1, bI_f, n_i8, n_i16, n_0, n_31, n_add, n_sub, n_mul, n_neg, n_div, n_rem, n_le_t, n_le_f, n_lt_t, n_lt_f, n_eq_t, n_eq_f, n_cl, n_gd, n_gdt, n_nz, Int.reduceToNat, Int.reduceAdd, Int.reduceSub, Int.reduceMul, Int.reduceNeg, Int.reduceLT, Int.reduceLE, Int.reduceEq, Int.reduceDiv, Int.reduceMod, Nat.reduceAdd, Nat.reduceMul, ↓reduceIte, u_eq, u_no, u_nk, u_ek, u_2, u_3, j_1, j_3, j_eq, j_no, j_nk, ltd, bnd]
/-- at the end of a SUM -/
theorem m_q53_L {W0 : List Int} {b : Int} (b0 : 0 ≤ b) (hWb : (W0.length : Int) = b) (x1 : Int32) : ∀ (r : List Int) (F : Nat) (cs : List Int) (o : Int) (s : ST), QS cs (W0 ++ r.reverse) o s → s.1 65 115 = Int32.ofInt b → s.1 65 5 = Int32.ofInt 0 → (cs.length : Int) + ((W0 ++ r.reverse).length : Int) ≤ 1650 → r.length < F → ∃ s', f_X10_qSums_L53 f_X10_qSums_j78 F x1 s = f_X10_qSums_j78 x1 s' ∧ QS (cs ++ r) W0 o s' ∧ QWf s s' := by
  intro r
  induction r with
  | nil =>
    intro F cs o s hq hb h5 hl hF
    obtain ⟨F, rfl⟩ : ∃ F', F = F' + 1 := ⟨F - 1, by omega⟩
    rw [List.reverse_nil, List.append_nil] at hq hl
    refine ⟨s, ?_, by rw [List.append_nil]; exact hq, QWf.rf s⟩
    have h3 := hq.2.1.1
    simp (disch := omega) only [f_X10_qSums_L53, h3, hb, h5, n_i8, n_i16, n_0, n_31, n_add, n_sub, n_mul, n_neg, n_div, n_rem, n_le_t, n_le_f, n_lt_t, n_lt_f, n_eq_t, n_eq_f, n_cl, n_gd, n_gdt, n_nz, Int.reduceToNat, Int.reduceAdd, Int.reduceSub, Int.reduceMul, Int.reduceNeg, Int.reduceLT, Int.reduceLE, Int.reduceEq, Int.reduceDiv, Int.reduceMod, Nat.reduceAdd, Nat.reduceMul, ↓reduceIte, u_eq, u_no, u_nk, u_ek, u_2, u_3, j_1, j_3, j_eq, j_no, j_nk, ltd, bnd]
  | cons v r ih =>
    intro F cs o s hq hb h5 hl hF
    obtain ⟨F, rfl⟩ : ∃ F', F = F' + 1 := ⟨F - 1, by omega⟩
    rw [rev_c] at hq hl
    have h3 := hq.2.1.1
    have hl0 : W0.length ≤ (W0 ++ r.reverse).length := by rw [List.length_append]; omega
    rw [ln1] at hl h3
    obtain ⟨s1, q1, q2, q3⟩ := m_qdrops hq (by omega) (by omega)
    obtain ⟨s', p1, p2, p3⟩ := ih F (cs ++ [v]) o s1 q2 ((q3.1 65 115 (by omega) (by omega) (by omega)).trans hb) ((q3.1 65 5 (by omega) (by omega) (by omega)).trans h5) (by rw [ln1]; omega) (by rw [List.length_cons] at hF; omega)
    refine ⟨s', ?_, by rw [List.append_assoc] at p2; exact p2, q3.tr p3⟩
    generalize (W0 ++ r.reverse).length = L at *
    rw [show ((L + 1 : Nat) : Int) = (L : Int) + 1 by omega] at h3
    rw [← p1, f_X10_qSums_L53]
    simp (disch := omega) only [h3, hb, h5, q1, n_i8, n_i16, n_0, n_31, n_add, n_sub, n_mul, n_neg, n_div, n_rem, n_le_t, n_le_f, n_lt_t, n_lt_f, n_eq_t, n_eq_f, n_cl, n_gd, n_gdt, n_nz, Int.reduceToNat, Int.reduceAdd, Int.reduceSub, Int.reduceMul, Int.reduceNeg, Int.reduceLT, Int.reduceLE, Int.reduceEq, Int.reduceDiv, Int.reduceMod, Nat.reduceAdd, Nat.reduceMul, ↓reduceIte, u_eq, u_no, u_nk, u_ek, u_2, u_3, j_1, j_3, j_eq, j_no, j_nk, ltd, bnd]
theorem m_q162_L {W0 : List Int} (hT : ¬ tp W0 = 3 ∧ ¬ tp W0 = 4) (x1 : Int32) : ∀ (r : List Int) (F : Nat) (cs : List Int) (o : Int) (s : ST), QS cs (W0 ++ r.reverse) o s → (cs.length : Int) + ((W0 ++ r.reverse).length : Int) ≤ 1650 → (∀ v ∈ r, v = 3 ∨ v = 4) → r.length < F → ∃ s', f_X10_qGoesOn_L162 f_X10_qGoesOn_j185 F x1 s = f_X10_qGoesOn_j185 x1 s' ∧ QS (cs ++ r) W0 o s' ∧ QWf s s' := by
  intro r
  induction r with
  | nil =>
    intro F cs o s hq hl hr hF
    obtain ⟨F, rfl⟩ : ∃ F', F = F' + 1 := ⟨F - 1, by omega⟩
    rw [List.reverse_nil, List.append_nil] at hq hl
    refine ⟨s, ?_, by rw [List.append_nil]; exact hq, QWf.rf s⟩
    have a3 := m_qison hq (by omega) (q := 3) (by omega) (by omega)
    have a4 := m_qison hq (by omega) (q := 4) (by omega) (by omega)
    rw [decide_eq_false hT.1] at a3
    rw [decide_eq_false hT.2] at a4
    simp (disch := omega) only [f_X10_qGoesOn_L162, a3, a4, bI_f, n_i8, n_i16, n_0, n_31, n_add, n_sub, n_mul, n_neg, n_div, n_rem, n_le_t, n_le_f, n_lt_t, n_lt_f, n_eq_t, n_eq_f, n_cl, n_gd, n_gdt, n_nz, Int.reduceToNat, Int.reduceAdd, Int.reduceSub, Int.reduceMul, Int.reduceNeg, Int.reduceLT, Int.reduceLE, Int.reduceEq, Int.reduceDiv, Int.reduceMod, Nat.reduceAdd, Nat.reduceMul, ↓reduceIte, u_eq, u_no, u_nk, u_ek, u_2, u_3, j_1, j_3, j_eq, j_no, j_nk, ltd, bnd]
  | cons v r ih =>
    intro F cs o s hq hl hr hF
    obtain ⟨F, rfl⟩ : ∃ F', F = F' + 1 := ⟨F - 1, by omega⟩
    rw [rev_c] at hq hl
    have a3 := m_qison hq (by omega) (q := 3) (by omega) (by omega)
    have a4 := m_qison hq (by omega) (q := 4) (by omega) (by omega)
    rw [tp_c] at a3 a4
    rw [ln1] at hl
    have hvb := hr v List.mem_cons_self
    obtain ⟨s1, q1, q2, q3⟩ := m_qdrops hq (by omega) (by omega)
    obtain ⟨s', p1, p2, p3⟩ := ih F (cs ++ [v]) o s1 q2 (by rw [ln1]; omega) (fun u hu => hr u (List.mem_cons_of_mem _ hu)) (by rw [List.length_cons] at hF; omega)
    refine ⟨s', ?_, by rw [List.append_assoc] at p2; exact p2, q3.tr p3⟩
    rw [← p1, f_X10_qGoesOn_L162]
    rcases hvb with e | e
    · rw [decide_eq_true e] at a3
      simp (disch := omega) only [f_X10_qGoesOn_j178, a3, q1, bI_t, n_i8, n_i16, n_0, n_31, n_add, n_sub, n_mul, n_neg, n_div, n_rem, n_le_t, n_le_f, n_lt_t, n_lt_f, n_eq_t, n_eq_f, n_cl, n_gd, n_gdt, n_nz, Int.reduceToNat, Int.reduceAdd, Int.reduceSub, Int.reduceMul, Int.reduceNeg, Int.reduceLT, Int.reduceLE, Int.reduceEq, Int.reduceDiv, Int.reduceMod, Nat.reduceAdd, Nat.reduceMul, ↓reduceIte, u_eq, u_no, u_nk, u_ek, u_2, u_3, j_1, j_3, j_eq, j_no, j_nk, ltd, bnd]
    · rw [decide_eq_true e] at a4
      rw [decide_eq_false (by omega)] at a3
      simp (disch := omega) only [f_X10_qGoesOn_j178, a3, a4, q1, bI_t, bI_f, n_i8, n_i16, n_0, n_31, n_add, n_sub, n_mul, n_neg, n_div, n_rem, n_le_t, n_le_f, n_lt_t, n_lt_f, n_eq_t, n_eq_f, n_cl, n_gd, n_gdt, n_nz, Int.reduceToNat, Int.reduceAdd, Int.reduceSub, Int.reduceMul, Int.reduceNeg, Int.reduceLT, Int.reduceLE, Int.reduceEq, Int.reduceDiv, Int.reduceMod, Nat.reduceAdd, Nat.reduceMul, ↓reduceIte, u_eq, u_no, u_nk, u_ek, u_2, u_3, j_1, j_3, j_eq, j_no, j_nk, ltd, bnd]
theorem m_q247_L {W0 : List Int} (hT : ¬ (1 ≤ tp W0 ∧ tp W0 ≤ 4)) (x1 : Int32) : ∀ (r : List Int) (F : Nat) (cs : List Int) (o : Int) (s : ST), QS cs (W0 ++ r.reverse) o s → (cs.length : Int) + ((W0 ++ r.reverse).length : Int) ≤ 1650 → (∀ v ∈ r, 1 ≤ v ∧ v ≤ 4) → r.length < F → ∃ s', f_X10_qGoesOn_L247 f_X10_qGoesOn_j286 F x1 s = f_X10_qGoesOn_j286 x1 s' ∧ QS (cs ++ r) W0 o s' ∧ QWf s s' := by
  intro r
  induction r with
  | nil =>
    intro F cs o s hq hl hr hF
    obtain ⟨F, rfl⟩ : ∃ F', F = F' + 1 := ⟨F - 1, by omega⟩
    rw [List.reverse_nil, List.append_nil] at hq hl
    refine ⟨s, ?_, by rw [List.append_nil]; exact hq, QWf.rf s⟩
    have a1 := m_qison hq (by omega) (q := 1) (by omega) (by omega)
    have a2 := m_qison hq (by omega) (q := 2) (by omega) (by omega)
    have a3 := m_qison hq (by omega) (q := 3) (by omega) (by omega)
    have a4 := m_qison hq (by omega) (q := 4) (by omega) (by omega)
    rw [decide_eq_false (by omega)] at a1 a2 a3 a4
    simp (disch := omega) only [f_X10_qGoesOn_L247, a1, a2, a3, a4, bI_f, n_i8, n_i16, n_0, n_31, n_add, n_sub, n_mul, n_neg, n_div, n_rem, n_le_t, n_le_f, n_lt_t, n_lt_f, n_eq_t, n_eq_f, n_cl, n_gd, n_gdt, n_nz, Int.reduceToNat, Int.reduceAdd, Int.reduceSub, Int.reduceMul, Int.reduceNeg, Int.reduceLT, Int.reduceLE, Int.reduceEq, Int.reduceDiv, Int.reduceMod, Nat.reduceAdd, Nat.reduceMul, ↓reduceIte, u_eq, u_no, u_nk, u_ek, u_2, u_3, j_1, j_3, j_eq, j_no, j_nk, ltd, bnd]
  | cons v r ih =>
    intro F cs o s hq hl hr hF
    obtain ⟨F, rfl⟩ : ∃ F', F = F' + 1 := ⟨F - 1, by omega⟩
    rw [rev_c] at hq hl
    have a1 := m_qison hq (by omega) (q := 1) (by omega) (by omega)
    have a2 := m_qison hq (by omega) (q := 2) (by omega) (by omega)
    have a3 := m_qison hq (by omega) (q := 3) (by omega) (by omega)
    have a4 := m_qison hq (by omega) (q := 4) (by omega) (by omega)
    rw [tp_c] at a1 a2 a3 a4
    rw [ln1] at hl
    have hvb := hr v List.mem_cons_self
    obtain ⟨s1, q1, q2, q3⟩ := m_qdrops hq (by omega) (by omega)
    obtain ⟨s', p1, p2, p3⟩ := ih F (cs ++ [v]) o s1 q2 (by rw [ln1]; omega) (fun u hu => hr u (List.mem_cons_of_mem _ hu)) (by rw [List.length_cons] at hF; omega)
    refine ⟨s', ?_, by rw [List.append_assoc] at p2; exact p2, q3.tr p3⟩
    rw [← p1, f_X10_qGoesOn_L247]
    have hv : v = 1 ∨ v = 2 ∨ v = 3 ∨ v = 4 := by omega
    rcases hv with rfl | rfl | rfl | rfl
    · rw [decide_eq_true rfl] at a1
      rw [decide_eq_false (by omega)] at a3 a4
      simp (disch := omega) only [f_X10_qGoesOn_j279, a1, a3, a4, q1, bI_t, bI_f, n_i8, n_i16, n_0, n_31, n_add, n_sub, n_mul, n_neg, n_div, n_rem, n_le_t, n_le_f, n_lt_t, n_lt_f, n_eq_t, n_eq_f, n_cl, n_gd, n_gdt, n_nz, Int.reduceToNat, Int.reduceAdd, Int.reduceSub, Int.reduceMul, Int.reduceNeg, Int.reduceLT, Int.reduceLE, Int.reduceEq, Int.reduceDiv, Int.reduceMod, Nat.reduceAdd, Nat.reduceMul, ↓reduceIte, u_eq, u_no, u_nk, u_ek, u_2, u_3, j_1, j_3, j_eq, j_no, j_nk, ltd, bnd]
    · rw [decide_eq_true rfl] at a2
      rw [decide_eq_false (by omega)] at a1 a3 a4
      simp (disch := omega) only [f_X10_qGoesOn_j279, a1, a2, a3, a4, q1, bI_t, bI_f, n_i8, n_i16, n_0, n_31, n_add, n_sub, n_mul, n_neg, n_div, n_rem, n_le_t, n_le_f, n_lt_t, n_lt_f, n_eq_t, n_eq_f, n_cl, n_gd, n_gdt, n_nz, Int.reduceToNat, Int.reduceAdd, Int.reduceSub, Int.reduceMul, Int.reduceNeg, Int.reduceLT, Int.reduceLE, Int.reduceEq, Int.reduceDiv, Int.reduceMod, Nat.reduceAdd, Nat.reduceMul, ↓reduceIte, u_eq, u_no, u_nk, u_ek, u_2, u_3, j_1, j_3, j_eq, j_no, j_nk, ltd, bnd]
    · rw [decide_eq_true rfl] at a3
      simp (disch := omega) only [f_X10_qGoesOn_j279, a3, q1, bI_t, bI_f, n_i8, n_i16, n_0, n_31, n_add, n_sub, n_mul, n_neg, n_div, n_rem, n_le_t, n_le_f, n_lt_t, n_lt_f, n_eq_t, n_eq_f, n_cl, n_gd, n_gdt, n_nz, Int.reduceToNat, Int.reduceAdd, Int.reduceSub, Int.reduceMul, Int.reduceNeg, Int.reduceLT, Int.reduceLE, Int.reduceEq, Int.reduceDiv, Int.reduceMod, Nat.reduceAdd, Nat.reduceMul, ↓reduceIte, u_eq, u_no, u_nk, u_ek, u_2, u_3, j_1, j_3, j_eq, j_no, j_nk, ltd, bnd]
    · rw [decide_eq_true rfl] at a4
      rw [decide_eq_false (by omega)] at a3
      simp (disch := omega) only [f_X10_qGoesOn_j279, a3, a4, q1, bI_t, bI_f, n_i8, n_i16, n_0, n_31, n_add, n_sub, n_mul, n_neg, n_div, n_rem, n_le_t, n_le_f, n_lt_t, n_lt_f, n_eq_t, n_eq_f, n_cl, n_gd, n_gdt, n_nz, Int.reduceToNat, Int.reduceAdd, Int.reduceSub, Int.reduceMul, Int.reduceNeg, Int.reduceLT, Int.reduceLE, Int.reduceEq, Int.reduceDiv, Int.reduceMod, Nat.reduceAdd, Nat.reduceMul, ↓reduceIte, u_eq, u_no, u_nk, u_ek, u_2, u_3, j_1, j_3, j_eq, j_no, j_nk, ltd, bnd]
