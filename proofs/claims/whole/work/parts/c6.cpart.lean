/-! L3: parts and truths of the class's composer -/
variable {T : Int → Int} {n : Int} {m : Bool} {f : Nat}
theorem c_spush (hf : FQ f) {c : Cur} {cs : List Int} {s : ST} (hc : CC T n c s) (h : CS m f cs s) (hl : (cs.length : Int) ≤ c.1) {ch : Int} (hv : sv ch = 3) (hs : isSg T n c ch = true) : (nx T n c = nxS T n c) ∧ c.1 < (nxS T n c).1 ∧ (nxS T n c).1 ≤ n := by
  have hn := hc.nb
  exact ⟨nx_S hv hs, sg_b hs hn.1 hn.2.1⟩
/-- min, max: behind the word -/
theorem c_pair (hf : FQ f) {rs : Int32 → ST → Option ST} {o : Int} (o0 : 0 ≤ o) (o6 : o ≤ 6) {up : Option (Cur → PR)} (h6 : o = 6 ↔ up = none) (hu : ∀ p, up = some p → IM T n m f (rs (Int32.ofInt (o + 1))) (sumP T n p) ∧ SB n (sumP T n p)) {z : Int} (z1 : 1 ≤ z) (z2 : z ≤ 12) {c : Cur} {cs : List Int} {s : ST} (hc : CC T n c s) (hs : CS m f cs s) (hl : (cs.length : Int) ≤ c.1) (hW : isW T n c = true) : ∃ s', f_X1_pair rs (Int32.ofInt o) (Int32.ofInt (-z)) s = some s' ∧ OUT T n m f cs (pairB T n up z (nxW T n c)) s s' := by
  have hn := hc.nb
  have etc : Int32.ofInt (-z) = Int32.ofInt (toC z) := by
    unfold toC
    rw [if_neg (by omega), if_neg (by omega), if_neg (by omega), if_neg (by omega)]
  obtain ⟨s1, q1, q2, q3, q4⟩ := c_stepS hf hc hs
  rw [nx_W hW] at q2
  have hwb := wd_b hW hn.1 hn.2.1
  have a1 := c_isS q2 (ch := 40) (by omega) (by omega) (by decide)
  unfold pairB
  cases e1 : isSg T n (nxW T n c) 40 with
  | false =>
    rw [e1] at a1
    obtain ⟨s2, r1, r2, r3⟩ := c_ffS hf q2 q3 (by omega)
    refine ⟨s2, ?_, q4.tr r3, RQ.er r2⟩
    simp (disch := omega) only [f_X1_pair, q1, a1, r1, bI_f, n_i8, n_i16, n_0, n_31, n_add, n_sub, n_mul, n_neg, n_div, n_rem, n_le_t, n_le_f, n_lt_t, n_lt_f, n_eq_t, n_eq_f, n_cl, n_gd, n_gdt, n_nz, Int.reduceToNat, Int.reduceAdd, Int.reduceSub, Int.reduceMul, Int.reduceNeg, Int.reduceLT, Int.reduceLE, Int.reduceEq, Int.reduceDiv, Int.reduceMod, Nat.reduceAdd, Nat.reduceMul, ↓reduceIte, bnd]
  | true =>
    rw [e1] at a1
    simp only [↓reduceIte]
    have hsb := sg_b e1 (by omega) hwb.2
    obtain ⟨b1, b2⟩ := c_opens hf q2 q3 (by omega) o0 o6
    cases up with
    | none =>
      obtain ⟨s2, r1, r2, r3⟩ := b2 (h6.mpr rfl)
      refine ⟨s2, ?_, q4.tr r3, RQ.er r2⟩
      simp (disch := omega) only [f_X1_pair, q1, a1, r1, bI_t, n_i8, n_i16, n_0, n_31, n_add, n_sub, n_mul, n_neg, n_div, n_rem, n_le_t, n_le_f, n_lt_t, n_lt_f, n_eq_t, n_eq_f, n_cl, n_gd, n_gdt, n_nz, Int.reduceToNat, Int.reduceAdd, Int.reduceSub, Int.reduceMul, Int.reduceNeg, Int.reduceLT, Int.reduceLE, Int.reduceEq, Int.reduceDiv, Int.reduceMod, Nat.reduceAdd, Nat.reduceMul, ↓reduceIte, bnd]
    | some p =>
      have ho : o < 6 := by
        by_cases x : o = 6
        · have := h6.mp x
          cases this
        · omega
      obtain ⟨hI, hB⟩ := hu p rfl
      obtain ⟨s2, r1, r2, r3, r4⟩ := b1 ho
      rw [nx_S (by decide) e1] at r2
      have e0 : f_X1_pair rs (Int32.ofInt o) (Int32.ofInt (-z)) s = (rs (Int32.ofInt (o + 1)) s2).bind (fun q6 => (f_X5_takeSign (Int32.ofInt 44) q6).bind (fun q7 => (rs (Int32.ofInt (o + 1)) q7).bind (fun q8 => (f_X5_takeSign (Int32.ofInt 41) q8).bind (fun q9 => f_X1_put (Int32.ofInt (-z)) q9)))) := by
        simp (disch := omega) only [f_X1_pair, q1, a1, r1, bI_t, n_i8, n_i16, n_0, n_31, n_add, n_sub, n_mul, n_neg, n_div, n_rem, n_le_t, n_le_f, n_lt_t, n_lt_f, n_eq_t, n_eq_f, n_cl, n_gd, n_gdt, n_nz, Int.reduceToNat, Int.reduceAdd, Int.reduceSub, Int.reduceMul, Int.reduceNeg, Int.reduceLT, Int.reduceLE, Int.reduceEq, Int.reduceDiv, Int.reduceMod, Nat.reduceAdd, Nat.reduceMul, ↓reduceIte, bnd, Option.bind_fun_some]
      have dead : ∀ (k' q : Int) (s3 : ST), CD k' q s3 → DS f s3 → ∃ s', ((rs (Int32.ofInt (o + 1)) s3).bind (fun q8 => (f_X5_takeSign (Int32.ofInt 41) q8).bind (fun q9 => f_X1_put (Int32.ofInt (-z)) q9))) = some s' ∧ (CD k' q s' ∧ DS f s') ∧ CPf f s3 s' := by
        intro k' q s3 d1 d2
        obtain ⟨s4, x1, x2, x3⟩ := hI.2 k' q s3 d1 d2
        obtain ⟨s5, y1, y2, y3⟩ := c_putE hf x2.1 x2.2 (Int32.ofInt (-z))
        exact ⟨s5, by rw [x1, bnd, c_tSD x2.1, bnd, y1], y2, x3.tr y3⟩
      rw [e0]
      suffices hh : ∃ s', (rs (Int32.ofInt (o + 1)) s2).bind (fun q6 => (f_X5_takeSign (Int32.ofInt 44) q6).bind (fun q7 => (rs (Int32.ofInt (o + 1)) q7).bind (fun q8 => (f_X5_takeSign (Int32.ofInt 41) q8).bind (fun q9 => f_X1_put (Int32.ofInt (-z)) q9)))) = some s' ∧ OUT T n m f cs (sq (sumP T n p (nxS T n (nxW T n c))) (fun l c => if isSg T n c 44 = true then sq (sumP T n p (nxS T n c)) (fun l2 c2 => clS T n 41 (l ++ l2 ++ [z]) c2) else .error (1, frm T n c))) s2 s' by
        obtain ⟨s', v1, v2⟩ := hh
        exact ⟨s', v1, v2.tr (q4.tr r4)⟩
      refine IM.sq hI hB r2 r3 (by omega) (fun l c2 s3 g1 g2 g3 g4 g5 g6 => ?_) (fun k' q s3 g1 g2 g3 => ?_)
      · have hl3 : ((cs ++ l).length : Int) ≤ c2.1 - 1 := by rw [List.length_append]; omega
        obtain ⟨s4, w1, w2, w3, w4⟩ := c_clS hf (ch := 44) (by omega) (by omega) (by decide) g2 g3 (by omega)
        rw [w1, bnd]
        cases e2 : isSg T n c2 44 with
        | false =>
          obtain ⟨u1, u2⟩ := w4 e2
          obtain ⟨s', v1, v2, v3⟩ := dead _ _ s4 u1 u2
          refine ⟨s', v1, w2.tr v3, ?_⟩
          rw [if_neg (by decide)]
          exact v2
        | true =>
          obtain ⟨u1, u2⟩ := w3 e2
          have hsb2 := sg_b e2 (by omega) g6
          rw [if_pos rfl]
          suffices hh : ∃ s', ((rs (Int32.ofInt (o + 1)) s4).bind (fun q8 => (f_X5_takeSign (Int32.ofInt 41) q8).bind (fun q9 => f_X1_put (Int32.ofInt (-z)) q9))) = some s' ∧ OUT T n m f (cs ++ l) (sq (sumP T n p (nxS T n c2)) (fun l2 c2 => clS T n 41 (l2 ++ [z]) c2)) s4 s' by
            obtain ⟨s', v1, v2, v3⟩ := hh
            refine ⟨s', v1, w2.tr v2, ?_⟩
            cases e3 : sumP T n p (nxS T n c2) with
            | error x => rw [e3] at v3; exact v3
            | ok a =>
              rw [e3] at v3
              have v3 : RQ (clS T n 41 (a.1 ++ [z]) a.2) (fun b => CC T n b.2 s' ∧ CS m f (cs ++ l ++ b.1) s') (fun k p => CD k p s' ∧ DS f s') := v3
              show RQ (clS T n 41 (l ++ a.1 ++ [z]) a.2) _ _
              unfold clS at v3 ⊢
              cases e4 : isSg T n a.2 41 with
              | false => rw [e4] at v3; exact v3
              | true =>
                rw [e4] at v3
                have v3 : CC T n (nxS T n a.2) s' ∧ CS m f (cs ++ l ++ (a.1 ++ [z])) s' := v3
                refine RQ.ok ⟨v3.1, ?_⟩
                show CS m f (cs ++ (l ++ a.1 ++ [z])) s'
                rw [show cs ++ (l ++ a.1 ++ [z]) = cs ++ l ++ (a.1 ++ [z]) by rw [List.append_assoc, List.append_assoc]]
                exact v3.2
          refine IM.sq hI hB u1 u2 (by omega) (fun l2 c3 s5 k1 k2 k3 k4 k5 k6 => ?_) (fun k' q s5 k1 k2 k3 => ?_)
          · have hl5 : ((cs ++ l ++ l2).length : Int) ≤ c3.1 - 1 := by rw [List.length_append]; omega
            obtain ⟨s6, j1, j2, j3, j4⟩ := c_clS hf (ch := 41) (by omega) (by omega) (by decide) k2 k3 (by omega)
            rw [j1, bnd]
            unfold clS
            cases e5 : isSg T n c3 41 with
            | false =>
              obtain ⟨i1, i2⟩ := j4 e5
              obtain ⟨s7, y1, y2, y3⟩ := c_putE hf i1 i2 (Int32.ofInt (-z))
              exact ⟨s7, y1, j2.tr y3, y2⟩
            | true =>
              obtain ⟨i1, i2⟩ := j3 e5
              obtain ⟨s7, y1, y2, y3, y4⟩ := c_putC hf i1 i2 (by omega) z
              rw [etc]
              refine ⟨s7, y1, j2.tr y4, RQ.ok ⟨y2, ?_⟩⟩
              show CS m f (cs ++ l ++ (l2 ++ [z])) s7
              rw [← List.append_assoc]
              exact y3
          · obtain ⟨s7, y1, y2, y3⟩ := c_putE hf k2 k3 (Int32.ofInt (-z))
            exact ⟨s7, by rw [c_tSD k2, bnd, y1], y2, y3⟩
      · obtain ⟨s', v1, v2, v3⟩ := dead k' q s3 g2 g3
        exact ⟨s', by rw [c_tSD g2, bnd]; exact v1, v2, v3⟩
theorem c_isF {c : Cur} {cs : List Int} {s : ST} (hs : CS m f cs s) {w : Int} (w0 : -1 ≤ w) (w1 : w ≤ 38) : f_X1_isFact (Int32.ofInt w) s = some (bI (isF m w), s) := by
  have h2 := hs.2.1
  unfold isF
  cases m with
  | true =>
    rw [if_pos rfl]
    by_cases e1 : w = 7
    · rw [decide_eq_true (Or.inr (Or.inl e1))]
      simp (disch := omega) only [f_X1_isFact, f_X1_isFact_j37, h2, bI_t, n_i8, n_i16, n_0, n_31, n_add, n_sub, n_mul, n_neg, n_div, n_rem, n_le_t, n_le_f, n_lt_t, n_lt_f, n_eq_t, n_eq_f, n_cl, n_gd, n_gdt, n_nz, Int.reduceToNat, Int.reduceAdd, Int.reduceSub, Int.reduceMul, Int.reduceNeg, Int.reduceLT, Int.reduceLE, Int.reduceEq, Int.reduceDiv, Int.reduceMod, Nat.reduceAdd, Nat.reduceMul, ↓reduceIte, bnd]
    by_cases e2 : w = 6
    · rw [decide_eq_true (Or.inr (Or.inr e2))]
      simp (disch := omega) only [f_X1_isFact, f_X1_isFact_j37, h2, bI_t, n_i8, n_i16, n_0, n_31, n_add, n_sub, n_mul, n_neg, n_div, n_rem, n_le_t, n_le_f, n_lt_t, n_lt_f, n_eq_t, n_eq_f, n_cl, n_gd, n_gdt, n_nz, Int.reduceToNat, Int.reduceAdd, Int.reduceSub, Int.reduceMul, Int.reduceNeg, Int.reduceLT, Int.reduceLE, Int.reduceEq, Int.reduceDiv, Int.reduceMod, Nat.reduceAdd, Nat.reduceMul, ↓reduceIte, bnd]
    by_cases e3 : w < 21
    · rw [decide_eq_false (by omega)]
      simp (disch := omega) only [f_X1_isFact, f_X1_isFact_j37, h2, bI_t, bI_f, n_i8, n_i16, n_0, n_31, n_add, n_sub, n_mul, n_neg, n_div, n_rem, n_le_t, n_le_f, n_lt_t, n_lt_f, n_eq_t, n_eq_f, n_cl, n_gd, n_gdt, n_nz, Int.reduceToNat, Int.reduceAdd, Int.reduceSub, Int.reduceMul, Int.reduceNeg, Int.reduceLT, Int.reduceLE, Int.reduceEq, Int.reduceDiv, Int.reduceMod, Nat.reduceAdd, Nat.reduceMul, ↓reduceIte, bnd]
    by_cases e4 : w ≤ 26
    · rw [decide_eq_true (by omega)]
      simp (disch := omega) only [f_X1_isFact, f_X1_isFact_j37, h2, bI_t, n_i8, n_i16, n_0, n_31, n_add, n_sub, n_mul, n_neg, n_div, n_rem, n_le_t, n_le_f, n_lt_t, n_lt_f, n_eq_t, n_eq_f, n_cl, n_gd, n_gdt, n_nz, Int.reduceToNat, Int.reduceAdd, Int.reduceSub, Int.reduceMul, Int.reduceNeg, Int.reduceLT, Int.reduceLE, Int.reduceEq, Int.reduceDiv, Int.reduceMod, Nat.reduceAdd, Nat.reduceMul, ↓reduceIte, bnd]
    · rw [decide_eq_false (by omega)]
      simp (disch := omega) only [f_X1_isFact, f_X1_isFact_j37, h2, bI_t, bI_f, n_i8, n_i16, n_0, n_31, n_add, n_sub, n_mul, n_neg, n_div, n_rem, n_le_t, n_le_f, n_lt_t, n_lt_f, n_eq_t, n_eq_f, n_cl, n_gd, n_gdt, n_nz, Int.reduceToNat, Int.reduceAdd, Int.reduceSub, Int.reduceMul, Int.reduceNeg, Int.reduceLT, Int.reduceLE, Int.reduceEq, Int.reduceDiv, Int.reduceMod, Nat.reduceAdd, Nat.reduceMul, ↓reduceIte, bnd]
  | false =>
    rw [if_neg (by decide)]
    by_cases e3 : w < 18
    · rw [decide_eq_false (by omega)]
      simp (disch := omega) only [f_X1_isFact, h2, bI_f, n_i8, n_i16, n_0, n_31, n_add, n_sub, n_mul, n_neg, n_div, n_rem, n_le_t, n_le_f, n_lt_t, n_lt_f, n_eq_t, n_eq_f, n_cl, n_gd, n_gdt, n_nz, Int.reduceToNat, Int.reduceAdd, Int.reduceSub, Int.reduceMul, Int.reduceNeg, Int.reduceLT, Int.reduceLE, Int.reduceEq, Int.reduceDiv, Int.reduceMod, Nat.reduceAdd, Nat.reduceMul, ↓reduceIte, bnd]
    by_cases e4 : w ≤ 21
    · rw [decide_eq_true (by omega)]
      simp (disch := omega) only [f_X1_isFact, h2, bI_f, bI_t, n_i8, n_i16, n_0, n_31, n_add, n_sub, n_mul, n_neg, n_div, n_rem, n_le_t, n_le_f, n_lt_t, n_lt_f, n_eq_t, n_eq_f, n_cl, n_gd, n_gdt, n_nz, Int.reduceToNat, Int.reduceAdd, Int.reduceSub, Int.reduceMul, Int.reduceNeg, Int.reduceLT, Int.reduceLE, Int.reduceEq, Int.reduceDiv, Int.reduceMod, Nat.reduceAdd, Nat.reduceMul, ↓reduceIte, bnd]
    · rw [decide_eq_false (by omega)]
      simp (disch := omega) only [f_X1_isFact, h2, bI_f, n_i8, n_i16, n_0, n_31, n_add, n_sub, n_mul, n_neg, n_div, n_rem, n_le_t, n_le_f, n_lt_t, n_lt_f, n_eq_t, n_eq_f, n_cl, n_gd, n_gdt, n_nz, Int.reduceToNat, Int.reduceAdd, Int.reduceSub, Int.reduceMul, Int.reduceNeg, Int.reduceLT, Int.reduceLE, Int.reduceEq, Int.reduceDiv, Int.reduceMod, Nat.reduceAdd, Nat.reduceMul, ↓reduceIte, bnd]
theorem fk_toC {w : Int} (h : isF m w = true) : toC (40 + fk w) = -100 - w := by
  have hw : (18 ≤ w ∧ w ≤ 26) ∨ w = 7 ∨ w = 6 := by
    unfold isF at h
    cases m with
    | true =>
      rw [if_pos rfl] at h
      have := of_decide_eq_true h
      omega
    | false =>
      rw [if_neg (by decide)] at h
      have := of_decide_eq_true h
      omega
  have : w = 18 ∨ w = 19 ∨ w = 20 ∨ w = 21 ∨ w = 22 ∨ w = 23 ∨ w = 24 ∨ w = 25 ∨ w = 26 ∨ w = 7 ∨ w = 6 := by omega
  rcases this with rfl | rfl | rfl | rfl | rfl | rfl | rfl | rfl | rfl | rfl | rfl <;> decide
theorem n_num {v : Int} (h : 0 ≤ v) : Int32.ofInt v = Int32.ofInt (toC (1000 + v)) := by
  unfold toC
  rw [if_pos (by omega)]
  congr 1
  omega
theorem c_part (hf : FQ f) {rs rp : Int32 → ST → Option ST} {o : Int} (o0 : 0 ≤ o) (o6 : o ≤ 6) {up : Option (Cur → PR)} (h6 : o = 6 ↔ up = none) (hu : ∀ p, up = some p → (IM T n m f (rp (Int32.ofInt (o + 1))) p ∧ SB n p) ∧ IM T n m f (rs (Int32.ofInt (o + 1))) (sumP T n p)) : IM T n m f (f_X1_part rs (f_X1_pair rs) rp (Int32.ofInt o)) (partB T n m up) := by
  have ho : ∀ p, up = some p → o < 6 := by
    intro p hp
    by_cases x : o = 6
    · rw [h6.mp x] at hp; cases hp
    · omega
  refine ⟨fun c cs s hc hs hl => ?_, fun k q s hc hs => ?_⟩
  · have hn := hc.nb
    have hsort := hc.2.2.2.2.1
    have hsb := srt_b T n c
    have h52 := hs.2.1
    unfold partB
    cases eN : nmB T n c with
    | true =>
      rw [if_pos rfl]
      have e2 := srt_2.mpr eN
      rw [e2] at hsort
      obtain ⟨v, s1, q1, q2, q3⟩ := c_tN hc (lo := 0) (hi := 9999) (by omega) (by omega) (by omega) (by omega)
      have e0 : f_X1_part rs (f_X1_pair rs) rp (Int32.ofInt o) s = f_X1_put v s1 := by
        simp (disch := omega) only [f_X1_part, hsort, q1, n_i8, n_i16, n_0, n_31, n_add, n_sub, n_mul, n_neg, n_div, n_rem, n_le_t, n_le_f, n_lt_t, n_lt_f, n_eq_t, n_eq_f, n_cl, n_gd, n_gdt, n_nz, Int.reduceToNat, Int.reduceAdd, Int.reduceSub, Int.reduceMul, Int.reduceNeg, Int.reduceLT, Int.reduceLE, Int.reduceEq, Int.reduceDiv, Int.reduceMod, Nat.reduceAdd, Nat.reduceMul, ↓reduceIte, bnd, Option.bind_fun_some]
      rw [e0]
      cases eS : numS T n c 0 9999 with
      | error x =>
        rw [eS] at q3
        obtain ⟨u1, u2⟩ := (q3 : v = Int32.ofInt 0 ∧ CD x.1 x.2 s1)
        obtain ⟨s2, y1, y2, y3⟩ := c_putE hf u2 (DS_fr hf (hs.ds (by omega)) q2) v
        exact ⟨s2, y1, (q2.cp f).tr y3, y2⟩
      | ok a =>
        rw [eS] at q3
        obtain ⟨u1, u2⟩ := (q3 : v = Int32.ofInt a.1 ∧ CC T n a.2 s1)
        have hE := nmE_b eN hn.2.1
        have hfb := frm_b (T := T) hn.1 hn.2.1
        have ha0 : 0 ≤ a.1 := by
          unfold numS at eS
          rw [if_pos eN] at eS
          split at eS
          · split at eS
            · cases eS
              rename_i x4 _
              exact (nmV_b eN hn.2.1 x4).1
            · cases eS
          · cases eS
        obtain ⟨s2, y1, y2, y3, y4⟩ := c_putC hf u2 (CS_fr hf hs q2) (by omega) (1000 + a.1)
        rw [← n_num ha0] at y1
        exact ⟨s2, by rw [u1]; exact y1, (q2.cp f).tr y4, RQ.ok ⟨y2, y3⟩⟩
    | false =>
      rw [if_neg (by decide)]
      have e2 : ¬ srt T n c = 2 := fun x => by rw [srt_2.mp x] at eN; cases eN
      have a40 := c_isS hc (ch := 40) (by omega) (by omega) (by decide)
      cases e40 : isSg T n c 40 with
      | true =>
        rw [if_pos rfl]
        rw [e40] at a40
        have hsg := sg_b e40 hn.1 hn.2.1
        obtain ⟨b1, b2⟩ := c_opens hf hc hs (by omega) o0 o6
        cases up with
        | none =>
          obtain ⟨s2, r1, r2, r3⟩ := b2 (h6.mpr rfl)
          refine ⟨s2, ?_, r3, RQ.er r2⟩
          simp (disch := omega) only [f_X1_part, hsort, a40, r1, bI_t, n_i8, n_i16, n_0, n_31, n_add, n_sub, n_mul, n_neg, n_div, n_rem, n_le_t, n_le_f, n_lt_t, n_lt_f, n_eq_t, n_eq_f, n_cl, n_gd, n_gdt, n_nz, Int.reduceToNat, Int.reduceAdd, Int.reduceSub, Int.reduceMul, Int.reduceNeg, Int.reduceLT, Int.reduceLE, Int.reduceEq, Int.reduceDiv, Int.reduceMod, Nat.reduceAdd, Nat.reduceMul, ↓reduceIte, bnd]
        | some p =>
          obtain ⟨⟨-, hB⟩, hI⟩ := hu p rfl
          obtain ⟨s2, r1, r2, r3, r4⟩ := b1 (ho p rfl)
          rw [nx_S (by decide) e40] at r2
          have e0 : f_X1_part rs (f_X1_pair rs) rp (Int32.ofInt o) s = (rs (Int32.ofInt (o + 1)) s2).bind (fun q19 => f_X5_takeSign (Int32.ofInt 41) q19) := by
            simp (disch := omega) only [f_X1_part, hsort, a40, r1, bI_t, n_i8, n_i16, n_0, n_31, n_add, n_sub, n_mul, n_neg, n_div, n_rem, n_le_t, n_le_f, n_lt_t, n_lt_f, n_eq_t, n_eq_f, n_cl, n_gd, n_gdt, n_nz, Int.reduceToNat, Int.reduceAdd, Int.reduceSub, Int.reduceMul, Int.reduceNeg, Int.reduceLT, Int.reduceLE, Int.reduceEq, Int.reduceDiv, Int.reduceMod, Nat.reduceAdd, Nat.reduceMul, ↓reduceIte, bnd, Option.bind_fun_some]
          rw [e0]
          suffices hh : ∃ s', (rs (Int32.ofInt (o + 1)) s2).bind (fun q19 => f_X5_takeSign (Int32.ofInt 41) q19) = some s' ∧ OUT T n m f cs (sq (sumP T n p (nxS T n c)) (fun l c => clS T n 41 l c)) s2 s' by
            obtain ⟨s', v1, v2⟩ := hh
            exact ⟨s', v1, v2.tr r4⟩
          refine IM.sq hI (sumP_b hB) r2 r3 (by omega) (fun l2 c3 s5 k1 k2 k3 k4 k5 k6 => ?_) (fun k' q s5 k1 k2 k3 => ⟨s5, c_tSD k2 _, ⟨k2, k3⟩, CPf.rf f s5⟩)
          obtain ⟨s6, j1, j2, j3, j4⟩ := c_clS hf (ch := 41) (by omega) (by omega) (by decide) k2 k3 (by rw [List.length_append]; omega)
          refine ⟨s6, j1, j2, ?_⟩
          unfold clS
          cases e5 : isSg T n c3 41 with
          | false => exact j4 e5
          | true => exact j3 e5
      | false =>
        rw [if_neg (by decide)]
        rw [e40] at a40
        have a31 : f_X5_isWord (Int32.ofInt 31) s = _ := c_isW hc (k := 31) (by omega)
        have a32 : f_X5_isWord (Int32.ofInt 32) s = _ := c_isW hc (k := 32) (by omega)
        have a20 : f_X5_isWord (Int32.ofInt 20) s = _ := c_isW hc (k := 20) (by omega)
        cases e31 : isWL T n c (WDl 31) with
        | true =>
          rw [if_pos rfl]
          rw [e31] at a31
          obtain ⟨s', v1, v2⟩ := c_pair hf (rs := rs) o0 o6 h6 (fun p hp => ⟨(hu p hp).2, sumP_b (hu p hp).1.2⟩) (z := 5) (by omega) (by omega) hc hs hl (isWL_W e31)
          refine ⟨s', ?_, v2⟩
          rw [← v1]
          simp (disch := omega) only [f_X1_part, hsort, a40, a31, bI_t, bI_f, n_i8, n_i16, n_0, n_31, n_add, n_sub, n_mul, n_neg, n_div, n_rem, n_le_t, n_le_f, n_lt_t, n_lt_f, n_eq_t, n_eq_f, n_cl, n_gd, n_gdt, n_nz, Int.reduceToNat, Int.reduceAdd, Int.reduceSub, Int.reduceMul, Int.reduceNeg, Int.reduceLT, Int.reduceLE, Int.reduceEq, Int.reduceDiv, Int.reduceMod, Nat.reduceAdd, Nat.reduceMul, ↓reduceIte, bnd, Option.bind_fun_some]
        | false =>
          rw [if_neg (by decide)]
          rw [e31] at a31
          cases e32 : isWL T n c (WDl 32) with
          | true =>
            rw [if_pos rfl]
            rw [e32] at a32
            obtain ⟨s', v1, v2⟩ := c_pair hf (rs := rs) o0 o6 h6 (fun p hp => ⟨(hu p hp).2, sumP_b (hu p hp).1.2⟩) (z := 6) (by omega) (by omega) hc hs hl (isWL_W e32)
            refine ⟨s', ?_, v2⟩
            rw [← v1]
            simp (disch := omega) only [f_X1_part, hsort, a40, a31, a32, bI_t, bI_f, n_i8, n_i16, n_0, n_31, n_add, n_sub, n_mul, n_neg, n_div, n_rem, n_le_t, n_le_f, n_lt_t, n_lt_f, n_eq_t, n_eq_f, n_cl, n_gd, n_gdt, n_nz, Int.reduceToNat, Int.reduceAdd, Int.reduceSub, Int.reduceMul, Int.reduceNeg, Int.reduceLT, Int.reduceLE, Int.reduceEq, Int.reduceDiv, Int.reduceMod, Nat.reduceAdd, Nat.reduceMul, ↓reduceIte, bnd, Option.bind_fun_some]
          | false =>
            rw [if_neg (by decide)]
            rw [e32] at a32
            by_cases eo : m = true ∧ isWL T n c (WDl 20) = true
            · rw [if_pos eo]
              obtain ⟨em, e20⟩ := eo
              rw [e20] at a20
              rw [em] at h52
              have hwb := wd_b (isWL_W e20) hn.1 hn.2.1
              obtain ⟨b1, b2⟩ := c_opens hf hc hs (by omega) o0 o6
              cases up with
              | none =>
                obtain ⟨s2, r1, r2, r3⟩ := b2 (h6.mpr rfl)
                refine ⟨s2, ?_, r3, RQ.er r2⟩
                simp (disch := omega) only [f_X1_part, hsort, h52, a40, a31, a32, a20, r1, bI_t, bI_f, n_i8, n_i16, n_0, n_31, n_add, n_sub, n_mul, n_neg, n_div, n_rem, n_le_t, n_le_f, n_lt_t, n_lt_f, n_eq_t, n_eq_f, n_cl, n_gd, n_gdt, n_nz, Int.reduceToNat, Int.reduceAdd, Int.reduceSub, Int.reduceMul, Int.reduceNeg, Int.reduceLT, Int.reduceLE, Int.reduceEq, Int.reduceDiv, Int.reduceMod, Nat.reduceAdd, Nat.reduceMul, ↓reduceIte, bnd]
              | some p =>
                obtain ⟨⟨hI, hB⟩, -⟩ := hu p rfl
                obtain ⟨s2, r1, r2, r3, r4⟩ := b1 (ho p rfl)
                rw [nx_W (isWL_W e20)] at r2
                have e0 : f_X1_part rs (f_X1_pair rs) rp (Int32.ofInt o) s = (rp (Int32.ofInt (o + 1)) s2).bind (fun q13 => f_X1_put (Int32.ofInt (-13)) q13) := by
                  simp (disch := omega) only [f_X1_part, hsort, h52, a40, a31, a32, a20, r1, bI_t, bI_f, n_i8, n_i16, n_0, n_31, n_add, n_sub, n_mul, n_neg, n_div, n_rem, n_le_t, n_le_f, n_lt_t, n_lt_f, n_eq_t, n_eq_f, n_cl, n_gd, n_gdt, n_nz, Int.reduceToNat, Int.reduceAdd, Int.reduceSub, Int.reduceMul, Int.reduceNeg, Int.reduceLT, Int.reduceLE, Int.reduceEq, Int.reduceDiv, Int.reduceMod, Nat.reduceAdd, Nat.reduceMul, ↓reduceIte, bnd, Option.bind_fun_some]
                rw [e0]
                suffices hh : ∃ s', (rp (Int32.ofInt (o + 1)) s2).bind (fun q13 => f_X1_put (Int32.ofInt (-13)) q13) = some s' ∧ OUT T n m f cs (sq (p (nxW T n c)) (fun l c => .ok (l ++ [60], c))) s2 s' by
                  obtain ⟨s', v1, v2⟩ := hh
                  exact ⟨s', v1, v2.tr r4⟩
                refine IM.sq hI hB r2 r3 (by omega) (fun l2 c3 s5 k1 k2 k3 k4 k5 k6 => ?_) (fun k' q s5 k1 k2 k3 => c_putE hf k2 k3 _)
                obtain ⟨s6, y1, y2, y3, y4⟩ := c_putC hf k2 k3 (by rw [List.length_append]; omega) 60
                refine ⟨s6, y1, y4, RQ.ok ⟨y2, ?_⟩⟩
                show CS m f (cs ++ (l2 ++ [60])) s6
                rw [← List.append_assoc]
                exact y3
            · rw [if_neg eo]
              have e0 : f_X1_part rs (f_X1_pair rs) rp (Int32.ofInt o) s = f_X1_part_j155 rs (f_X1_pair rs) rp s := by
                cases m with
                | false => simp (disch := omega) only [f_X1_part, hsort, h52, a40, a31, a32, bI_f, n_i8, n_i16, n_0, n_31, n_add, n_sub, n_mul, n_neg, n_div, n_rem, n_le_t, n_le_f, n_lt_t, n_lt_f, n_eq_t, n_eq_f, n_cl, n_gd, n_gdt, n_nz, Int.reduceToNat, Int.reduceAdd, Int.reduceSub, Int.reduceMul, Int.reduceNeg, Int.reduceLT, Int.reduceLE, Int.reduceEq, Int.reduceDiv, Int.reduceMod, Nat.reduceAdd, Nat.reduceMul, ↓reduceIte, bnd]
                | true =>
                  have e20 : isWL T n c (WDl 20) = false := by
                    cases x : isWL T n c (WDl 20) with
                    | false => rfl
                    | true => exact absurd ⟨rfl, x⟩ eo
                  rw [e20] at a20
                  simp (disch := omega) only [f_X1_part, hsort, h52, a40, a31, a32, a20, bI_f, bI_t, n_i8, n_i16, n_0, n_31, n_add, n_sub, n_mul, n_neg, n_div, n_rem, n_le_t, n_le_f, n_lt_t, n_lt_f, n_eq_t, n_eq_f, n_cl, n_gd, n_gdt, n_nz, Int.reduceToNat, Int.reduceAdd, Int.reduceSub, Int.reduceMul, Int.reduceNeg, Int.reduceLT, Int.reduceLE, Int.reduceEq, Int.reduceDiv, Int.reduceMod, Nat.reduceAdd, Nat.reduceMul, ↓reduceIte, bnd]
              rw [e0]
              have hwix := wix_b T n c
              have hF := c_isF (c := c) hs hwix.1 hwix.2
              by_cases eW : isW T n c = true ∧ isF m (wix T n c) = true
              · rw [if_pos eW]
                obtain ⟨e1, e3⟩ := eW
                have es := srt_1.mpr e1
                have h4 := hc.2.2.2.2.2.1 es
                rw [es] at hsort
                rw [e3] at hF
                have hfb := frm_b (T := T) hn.1 hn.2.1
                have hwb := wd_b e1 hn.1 hn.2.1
                obtain ⟨s1, y1, y2, y3, y4⟩ := c_putC hf hc hs (by omega) (40 + fk (wix T n c))
                rw [fk_toC e3] at y1
                obtain ⟨s2, q1, q2, q3, q4⟩ := c_stepS hf y2 y3
                rw [nx_W e1] at q2
                refine ⟨s2, ?_, y4.tr q4, RQ.ok ⟨q2, q3⟩⟩
                simp (disch := omega) only [f_X1_part_j155, hsort, h4, hF, y1, q1, bI_t, n_i8, n_i16, n_0, n_31, n_add, n_sub, n_mul, n_neg, n_div, n_rem, n_le_t, n_le_f, n_lt_t, n_lt_f, n_eq_t, n_eq_f, n_cl, n_gd, n_gdt, n_nz, Int.reduceToNat, Int.reduceAdd, Int.reduceSub, Int.reduceMul, Int.reduceNeg, Int.reduceLT, Int.reduceLE, Int.reduceEq, Int.reduceDiv, Int.reduceMod, Nat.reduceAdd, Nat.reduceMul, ↓reduceIte, bnd]
              · rw [if_neg eW]
                obtain ⟨s1, r1, r2, r3⟩ := c_ffS hf hc hs (by omega)
                refine ⟨s1, ?_, r3, RQ.er r2⟩
                have ej : f_X1_part_j204 rs (f_X1_pair rs) rp s = some s1 := by
                  simp (disch := omega) only [f_X1_part_j204, r1, bnd]
                rw [← ej]
                by_cases es : srt T n c = 1
                · have h4 := hc.2.2.2.2.2.1 es
                  rw [es] at hsort
                  have e3 : isF m (wix T n c) = false := by
                    cases x : isF m (wix T n c) with
                    | false => rfl
                    | true => exact absurd ⟨srt_1.mp es, x⟩ eW
                  rw [e3] at hF
                  simp (disch := omega) only [f_X1_part_j155, hsort, h4, hF, bI_f, n_i8, n_i16, n_0, n_31, n_add, n_sub, n_mul, n_neg, n_div, n_rem, n_le_t, n_le_f, n_lt_t, n_lt_f, n_eq_t, n_eq_f, n_cl, n_gd, n_gdt, n_nz, Int.reduceToNat, Int.reduceAdd, Int.reduceSub, Int.reduceMul, Int.reduceNeg, Int.reduceLT, Int.reduceLE, Int.reduceEq, Int.reduceDiv, Int.reduceMod, Nat.reduceAdd, Nat.reduceMul, ↓reduceIte, bnd]
                · simp (disch := omega) only [f_X1_part_j155, hsort, n_i8, n_i16, n_0, n_31, n_add, n_sub, n_mul, n_neg, n_div, n_rem, n_le_t, n_le_f, n_lt_t, n_lt_f, n_eq_t, n_eq_f, n_cl, n_gd, n_gdt, n_nz, Int.reduceToNat, Int.reduceAdd, Int.reduceSub, Int.reduceMul, Int.reduceNeg, Int.reduceLT, Int.reduceLE, Int.reduceEq, Int.reduceDiv, Int.reduceMod, Nat.reduceAdd, Nat.reduceMul, ↓reduceIte, bnd]
  · refine ⟨s, ?_, ⟨hc, hs⟩, CPf.rf f s⟩
    have hsort := hc.2.2.1
    have d1 := c_isSD hc (Int32.ofInt 40)
    have d2 := c_isWD hc (Int32.ofInt 31)
    have d3 := c_isWD hc (Int32.ofInt 32)
    have d4 := c_isWD hc (Int32.ofInt 20)
    have d5 := c_ffD hc
    have ej : f_X1_part_j155 rs (f_X1_pair rs) rp s = some s := by
      simp (disch := omega) only [f_X1_part_j155, f_X1_part_j204, hsort, d5, n_i8, n_i16, n_0, n_31, n_add, n_sub, n_mul, n_neg, n_div, n_rem, n_le_t, n_le_f, n_lt_t, n_lt_f, n_eq_t, n_eq_f, n_cl, n_gd, n_gdt, n_nz, Int.reduceToNat, Int.reduceAdd, Int.reduceSub, Int.reduceMul, Int.reduceNeg, Int.reduceLT, Int.reduceLE, Int.reduceEq, Int.reduceDiv, Int.reduceMod, Nat.reduceAdd, Nat.reduceMul, ↓reduceIte, bnd]
    by_cases e : s.1 5 2 = 0
    · have e0 : (s.1 5 2 = Int32.ofInt 0) = True := eq_true e
      simp (disch := omega) only [f_X1_part, hsort, d1, d2, d3, e0, ej, n_i8, n_i16, n_0, n_31, n_add, n_sub, n_mul, n_neg, n_div, n_rem, n_le_t, n_le_f, n_lt_t, n_lt_f, n_eq_t, n_eq_f, n_cl, n_gd, n_gdt, n_nz, Int.reduceToNat, Int.reduceAdd, Int.reduceSub, Int.reduceMul, Int.reduceNeg, Int.reduceLT, Int.reduceLE, Int.reduceEq, Int.reduceDiv, Int.reduceMod, Nat.reduceAdd, Nat.reduceMul, ↓reduceIte, bnd]
    · have e0 : (s.1 5 2 = Int32.ofInt 0) = False := eq_false e
      simp (disch := omega) only [f_X1_part, hsort, d1, d2, d3, d4, e0, ej, n_i8, n_i16, n_0, n_31, n_add, n_sub, n_mul, n_neg, n_div, n_rem, n_le_t, n_le_f, n_lt_t, n_lt_f, n_eq_t, n_eq_f, n_cl, n_gd, n_gdt, n_nz, Int.reduceToNat, Int.reduceAdd, Int.reduceSub, Int.reduceMul, Int.reduceNeg, Int.reduceLT, Int.reduceLE, Int.reduceEq, Int.reduceDiv, Int.reduceMod, Nat.reduceAdd, Nat.reduceMul, ↓reduceIte, bnd]
theorem c_parts (hf : FQ f) (j : Nat) : ∀ (d : Nat) (o : Int), o + d = 6 → 0 ≤ o → IM T n m f (t2_part (d + j + 1) (Int32.ofInt o)) (partD T n m d)
  | 0, o, hd, o0 => c_part (T := T) (n := n) (m := m) hf (rs := f_X1_sum (f_X1_product (t2_part (0 + j)))) (rp := t2_part (0 + j)) (o := o) (by omega) (by omega) (up := none) ⟨fun _ => rfl, fun _ => by omega⟩ (fun p hp => by cases hp)
  | d + 1, o, hd, o0 => by
    have ih := c_parts hf j d (o + 1) (by omega) (by omega)
    have hb := partD_b (T := T) (n := n) (m := m) d
    rw [show d + 1 + j + 1 = (d + j + 1) + 1 by omega]
    exact c_part (T := T) (n := n) (m := m) hf (rs := f_X1_sum (f_X1_product (t2_part (d + j + 1)))) (rp := t2_part (d + j + 1)) (o := o) (by omega) (by omega) (up := some (partD T n m d)) ⟨fun x => by omega, fun x => by cases x⟩ (fun p hp => by cases hp; exact ⟨⟨ih, hb⟩, c_sum hf (c_prod hf ih hb) (prodD_b hb)⟩)
theorem c_sumT (hf : FQ f) {d : Nat} {o : Int} (hd : o + d = 6) (o0 : 0 ≤ o) : IM T n m f (t_X1_sum (Int32.ofInt o)) (sumT T n m d) := by
  have ih := c_parts (T := T) (n := n) (m := m) hf (11 - d) d o hd o0
  rw [show d + (11 - d) + 1 = 12 by omega] at ih
  have hb := partD_b (T := T) (n := n) (m := m) d
  exact c_sum hf (c_prod hf ih hb) (prodD_b hb)
theorem c_cmpD {k q : Int} {s : ST} (h : CD k q s) : f_X1_comparing s = some (Int32.ofInt (-9), s) := by
  have d1 := c_isSD h (Int32.ofInt 60)
  have d2 := c_isSD h (Int32.ofInt 62)
  have d3 := c_isSD h (Int32.ofInt 61)
  have d4 := c_ffD h
  simp (disch := omega) only [f_X1_comparing, d1, d2, d3, d4, n_i8, n_i16, n_0, n_31, n_add, n_sub, n_mul, n_neg, n_div, n_rem, n_le_t, n_le_f, n_lt_t, n_lt_f, n_eq_t, n_eq_f, n_cl, n_gd, n_gdt, n_nz, Int.reduceToNat, Int.reduceAdd, Int.reduceSub, Int.reduceMul, Int.reduceNeg, Int.reduceLT, Int.reduceLE, Int.reduceEq, Int.reduceDiv, Int.reduceMod, Nat.reduceAdd, Nat.reduceMul, ↓reduceIte, bnd]
theorem c_truth (hf : FQ f) {rt rr : Int32 → ST → Option ST} {o : Int} (o0 : 0 ≤ o) (o6 : o ≤ 6) {sm : Cur → PR} (hI : IM T n m f (t_X1_sum (Int32.ofInt o)) sm) (hB : SB n sm) {up : Option (Cur → PR)} (h6 : o = 6 ↔ up = none) (hu : ∀ p, up = some p → (IM T n m f (rr (Int32.ofInt (o + 1))) p ∧ SB n p) ∧ IM T n m f (rt (Int32.ofInt (o + 1))) (testP T n p)) : IM T n m f (f_X1_truth rt rr (Int32.ofInt o)) (truthB T n sm up) := by
  have ho : ∀ p, up = some p → o < 6 := by
    intro p hp
    by_cases x : o = 6
    · rw [h6.mp x] at hp; cases hp
    · omega
  have dead : ∀ (k' q : Int) (s3 : ST), CD k' q s3 → DS f s3 → ∃ s', (f_X1_comparing s3).bind (fun q8 => (f_X5_step q8.2).bind (fun q9 => (t_X1_sum (Int32.ofInt o) q9).bind (fun q10 => f_X1_put q8.1 q10))) = some s' ∧ (CD k' q s' ∧ DS f s') ∧ CPf f s3 s' := by
    intro k' q s3 d1 d2
    obtain ⟨s4, x1, x2, x3⟩ := hI.2 k' q s3 d1 d2
    obtain ⟨s5, y1, y2, y3⟩ := c_putE hf x2.1 x2.2 (Int32.ofInt (-9))
    refine ⟨s5, ?_, y2, x3.tr y3⟩
    rw [c_cmpD d1, bnd]
    show (f_X5_step s3).bind (fun q9 => (t_X1_sum (Int32.ofInt o) q9).bind (fun q10 => f_X1_put (Int32.ofInt (-9)) q10)) = some s5
    rw [c_stepD d1, bnd, x1, bnd, y1]
  refine ⟨fun c cs s hc hs hl => ?_, fun k q s hc hs => ?_⟩
  · have hn := hc.nb
    have a29 : f_X5_isWord (Int32.ofInt 29) s = _ := c_isW hc (k := 29) (by omega)
    have a30 : f_X5_isWord (Int32.ofInt 30) s = _ := c_isW hc (k := 30) (by omega)
    have a91 := c_isS hc (ch := 91) (by omega) (by omega) (by decide)
    unfold truthB
    cases e29 : isWL T n c (WDl 29) with
    | true =>
      rw [if_pos rfl]
      rw [e29] at a29
      have hwb := wd_b (isWL_W e29) hn.1 hn.2.1
      obtain ⟨b1, b2⟩ := c_opens hf hc hs (by omega) o0 o6
      cases up with
      | none =>
        obtain ⟨s2, r1, r2, r3⟩ := b2 (h6.mpr rfl)
        refine ⟨s2, ?_, r3, RQ.er r2⟩
        simp (disch := omega) only [f_X1_truth, a29, r1, bI_t, n_i8, n_i16, n_0, n_31, n_add, n_sub, n_mul, n_neg, n_div, n_rem, n_le_t, n_le_f, n_lt_t, n_lt_f, n_eq_t, n_eq_f, n_cl, n_gd, n_gdt, n_nz, Int.reduceToNat, Int.reduceAdd, Int.reduceSub, Int.reduceMul, Int.reduceNeg, Int.reduceLT, Int.reduceLE, Int.reduceEq, Int.reduceDiv, Int.reduceMod, Nat.reduceAdd, Nat.reduceMul, ↓reduceIte, bnd]
      | some p =>
        obtain ⟨⟨hIp, hBp⟩, -⟩ := hu p rfl
        obtain ⟨s2, r1, r2, r3, r4⟩ := b1 (ho p rfl)
        rw [nx_W (isWL_W e29)] at r2
        have e0 : f_X1_truth rt rr (Int32.ofInt o) s = (rr (Int32.ofInt (o + 1)) s2).bind (fun q20 => f_X1_put (Int32.ofInt (-12)) q20) := by
          simp (disch := omega) only [f_X1_truth, a29, r1, bI_t, n_i8, n_i16, n_0, n_31, n_add, n_sub, n_mul, n_neg, n_div, n_rem, n_le_t, n_le_f, n_lt_t, n_lt_f, n_eq_t, n_eq_f, n_cl, n_gd, n_gdt, n_nz, Int.reduceToNat, Int.reduceAdd, Int.reduceSub, Int.reduceMul, Int.reduceNeg, Int.reduceLT, Int.reduceLE, Int.reduceEq, Int.reduceDiv, Int.reduceMod, Nat.reduceAdd, Nat.reduceMul, ↓reduceIte, bnd, Option.bind_fun_some]
        rw [e0]
        suffices hh : ∃ s', (rr (Int32.ofInt (o + 1)) s2).bind (fun q20 => f_X1_put (Int32.ofInt (-12)) q20) = some s' ∧ OUT T n m f cs (sq (p (nxW T n c)) (fun l c => .ok (l ++ [12], c))) s2 s' by
          obtain ⟨s', v1, v2⟩ := hh
          exact ⟨s', v1, v2.tr r4⟩
        refine IM.sq hIp hBp r2 r3 (by omega) (fun l2 c3 s5 k1 k2 k3 k4 k5 k6 => ?_) (fun k' q s5 k1 k2 k3 => c_putE hf k2 k3 _)
        obtain ⟨s6, y1, y2, y3, y4⟩ := c_putC hf k2 k3 (by rw [List.length_append]; omega) 12
        refine ⟨s6, y1, y4, RQ.ok ⟨y2, ?_⟩⟩
        show CS m f (cs ++ (l2 ++ [12])) s6
        rw [← List.append_assoc]
        exact y3
    | false =>
      rw [if_neg (by decide)]
      rw [e29] at a29
      cases e91 : isSg T n c 91 with
      | true =>
        rw [if_pos rfl]
        rw [e91] at a91
        have hsg := sg_b e91 hn.1 hn.2.1
        obtain ⟨b1, b2⟩ := c_opens hf hc hs (by omega) o0 o6
        cases up with
        | none =>
          obtain ⟨s2, r1, r2, r3⟩ := b2 (h6.mpr rfl)
          refine ⟨s2, ?_, r3, RQ.er r2⟩
          simp (disch := omega) only [f_X1_truth, a29, a91, r1, bI_t, bI_f, n_i8, n_i16, n_0, n_31, n_add, n_sub, n_mul, n_neg, n_div, n_rem, n_le_t, n_le_f, n_lt_t, n_lt_f, n_eq_t, n_eq_f, n_cl, n_gd, n_gdt, n_nz, Int.reduceToNat, Int.reduceAdd, Int.reduceSub, Int.reduceMul, Int.reduceNeg, Int.reduceLT, Int.reduceLE, Int.reduceEq, Int.reduceDiv, Int.reduceMod, Nat.reduceAdd, Nat.reduceMul, ↓reduceIte, bnd]
        | some p =>
          obtain ⟨⟨-, hBp⟩, hIp⟩ := hu p rfl
          obtain ⟨s2, r1, r2, r3, r4⟩ := b1 (ho p rfl)
          rw [nx_S (by decide) e91] at r2
          have e0 : f_X1_truth rt rr (Int32.ofInt o) s = (rt (Int32.ofInt (o + 1)) s2).bind (fun q19 => f_X5_takeSign (Int32.ofInt 93) q19) := by
            simp (disch := omega) only [f_X1_truth, a29, a91, r1, bI_t, bI_f, n_i8, n_i16, n_0, n_31, n_add, n_sub, n_mul, n_neg, n_div, n_rem, n_le_t, n_le_f, n_lt_t, n_lt_f, n_eq_t, n_eq_f, n_cl, n_gd, n_gdt, n_nz, Int.reduceToNat, Int.reduceAdd, Int.reduceSub, Int.reduceMul, Int.reduceNeg, Int.reduceLT, Int.reduceLE, Int.reduceEq, Int.reduceDiv, Int.reduceMod, Nat.reduceAdd, Nat.reduceMul, ↓reduceIte, bnd, Option.bind_fun_some]
          rw [e0]
          suffices hh : ∃ s', (rt (Int32.ofInt (o + 1)) s2).bind (fun q19 => f_X5_takeSign (Int32.ofInt 93) q19) = some s' ∧ OUT T n m f cs (sq (testP T n p (nxS T n c)) (fun l c => clS T n 93 l c)) s2 s' by
            obtain ⟨s', v1, v2⟩ := hh
            exact ⟨s', v1, v2.tr r4⟩
          refine IM.sq hIp (testP_b hBp) r2 r3 (by omega) (fun l2 c3 s5 k1 k2 k3 k4 k5 k6 => ?_) (fun k' q s5 k1 k2 k3 => ⟨s5, c_tSD k2 _, ⟨k2, k3⟩, CPf.rf f s5⟩)
          obtain ⟨s6, j1, j2, j3, j4⟩ := c_clS hf (ch := 93) (by omega) (by omega) (by decide) k2 k3 (by rw [List.length_append]; omega)
          refine ⟨s6, j1, j2, ?_⟩
          unfold clS
          cases e5 : isSg T n c3 93 with
          | false => exact j4 e5
          | true => exact j3 e5
      | false =>
        rw [if_neg (by decide)]
        rw [e91] at a91
        cases e30 : isWL T n c (WDl 30) with
        | true =>
          rw [if_pos rfl]
          rw [e30] at a30
          have hfb := frm_b (T := T) hn.1 hn.2.1
          have hwb := wd_b (isWL_W e30) hn.1 hn.2.1
          obtain ⟨s1, y1, y2, y3, y4⟩ := c_putC hf hc hs (by omega) 13
          have y1 : f_X1_put (Int32.ofInt 1) s = some s1 := y1
          obtain ⟨s2, q1, q2, q3, q4⟩ := c_stepS hf y2 y3
          rw [nx_W (isWL_W e30)] at q2
          refine ⟨s2, ?_, y4.tr q4, RQ.ok ⟨q2, q3⟩⟩
          simp (disch := omega) only [f_X1_truth, a29, a91, a30, y1, q1, bI_t, bI_f, n_i8, n_i16, n_0, n_31, n_add, n_sub, n_mul, n_neg, n_div, n_rem, n_le_t, n_le_f, n_lt_t, n_lt_f, n_eq_t, n_eq_f, n_cl, n_gd, n_gdt, n_nz, Int.reduceToNat, Int.reduceAdd, Int.reduceSub, Int.reduceMul, Int.reduceNeg, Int.reduceLT, Int.reduceLE, Int.reduceEq, Int.reduceDiv, Int.reduceMod, Nat.reduceAdd, Nat.reduceMul, ↓reduceIte, bnd]
        | false =>
          rw [if_neg (by decide)]
          rw [e30] at a30
          have e0 : f_X1_truth rt rr (Int32.ofInt o) s = (t_X1_sum (Int32.ofInt o) s).bind (fun q7 => (f_X1_comparing q7).bind (fun q8 => (f_X5_step q8.2).bind (fun q9 => (t_X1_sum (Int32.ofInt o) q9).bind (fun q10 => f_X1_put q8.1 q10)))) := by
            simp (disch := omega) only [f_X1_truth, a29, a91, a30, bI_f, n_i8, n_i16, n_0, n_31, n_add, n_sub, n_mul, n_neg, n_div, n_rem, n_le_t, n_le_f, n_lt_t, n_lt_f, n_eq_t, n_eq_f, n_cl, n_gd, n_gdt, n_nz, Int.reduceToNat, Int.reduceAdd, Int.reduceSub, Int.reduceMul, Int.reduceNeg, Int.reduceLT, Int.reduceLE, Int.reduceEq, Int.reduceDiv, Int.reduceMod, Nat.reduceAdd, Nat.reduceMul, ↓reduceIte, bnd, Option.bind_fun_some]
          rw [e0]
          refine IM.sq hI hB hc hs hl (fun l c2 s2 g1 g2 g3 g4 g5 g6 => ?_) (fun k' q s3 g1 g2 g3 => dead k' q s3 g2 g3)
          have a60 := c_isS g2 (ch := 60) (by omega) (by omega) (by decide)
          have a62 := c_isS g2 (ch := 62) (by omega) (by omega) (by decide)
          have a61 := c_isS g2 (ch := 61) (by omega) (by omega) (by decide)
          have go : ∀ z ch : Int, 7 ≤ z → z ≤ 9 → sv ch = 3 → isSg T n c2 ch = true → f_X1_comparing s2 = some (Int32.ofInt (-z), s2) → ∃ s', (f_X1_comparing s2).bind (fun q8 => (f_X5_step q8.2).bind (fun q9 => (t_X1_sum (Int32.ofInt o) q9).bind (fun q10 => f_X1_put q8.1 q10))) = some s' ∧ OUT T n m f cs (sq (sm (nxS T n c2)) (fun l2 c2 => .ok (l ++ l2 ++ [z], c2))) s2 s' := by
            intro z ch z1 z2 hv hsg hcm
            have hsb := sg_b hsg (by omega) g6
            obtain ⟨s3, q1, q2, q3, q4⟩ := c_stepS hf g2 g3
            rw [nx_S hv hsg] at q2
            rw [hcm, bnd]
            show ∃ s', (f_X5_step s2).bind (fun q9 => (t_X1_sum (Int32.ofInt o) q9).bind (fun q10 => f_X1_put (Int32.ofInt (-z)) q10)) = some s' ∧ _
            rw [q1, bnd]
            have etc : Int32.ofInt (-z) = Int32.ofInt (toC z) := by
              unfold toC
              rw [if_neg (by omega), if_neg (by omega), if_neg (by omega), if_neg (by omega)]
            suffices hh : ∃ s', (t_X1_sum (Int32.ofInt o) s3).bind (fun q10 => f_X1_put (Int32.ofInt (-z)) q10) = some s' ∧ OUT T n m f (cs ++ l) (sq (sm (nxS T n c2)) (fun l2 c2 => .ok (l2 ++ [z], c2))) s3 s' by
              obtain ⟨s', v1, v2, v3⟩ := hh
              refine ⟨s', v1, q4.tr v2, ?_⟩
              cases e3 : sm (nxS T n c2) with
              | error x => rw [e3] at v3; exact v3
              | ok a =>
                rw [e3] at v3
                have v3 : CC T n a.2 s' ∧ CS m f (cs ++ l ++ (a.1 ++ [z])) s' := v3
                refine RQ.ok ⟨v3.1, ?_⟩
                show CS m f (cs ++ (l ++ a.1 ++ [z])) s'
                rw [show cs ++ (l ++ a.1 ++ [z]) = cs ++ l ++ (a.1 ++ [z]) by rw [List.append_assoc, List.append_assoc]]
                exact v3.2
            refine IM.sq hI hB q2 q3 (by rw [List.length_append]; omega) (fun l2 c3 s5 k1 k2 k3 k4 k5 k6 => ?_) (fun k' q s5 k1 k2 k3 => c_putE hf k2 k3 _)
            obtain ⟨s6, y1, y2, y3, y4⟩ := c_putC hf k2 k3 (by rw [List.length_append, List.length_append]; omega) z
            rw [etc]
            refine ⟨s6, y1, y4, RQ.ok ⟨y2, ?_⟩⟩
            show CS m f (cs ++ l ++ (l2 ++ [z])) s6
            rw [← List.append_assoc]
            exact y3
          unfold cmpB
          cases e60 : isSg T n c2 60 with
          | true =>
            rw [if_pos rfl]
            rw [e60] at a60
            exact go 7 60 (by omega) (by omega) (by decide) e60 (by simp (disch := omega) only [f_X1_comparing, a60, bI_t, n_i8, n_i16, n_0, n_31, n_add, n_sub, n_mul, n_neg, n_div, n_rem, n_le_t, n_le_f, n_lt_t, n_lt_f, n_eq_t, n_eq_f, n_cl, n_gd, n_gdt, n_nz, Int.reduceToNat, Int.reduceAdd, Int.reduceSub, Int.reduceMul, Int.reduceNeg, Int.reduceLT, Int.reduceLE, Int.reduceEq, Int.reduceDiv, Int.reduceMod, Nat.reduceAdd, Nat.reduceMul, ↓reduceIte, bnd])
          | false =>
            rw [if_neg (by decide)]
            rw [e60] at a60
            cases e62 : isSg T n c2 62 with
            | true =>
              rw [if_pos rfl]
              rw [e62] at a62
              exact go 8 62 (by omega) (by omega) (by decide) e62 (by simp (disch := omega) only [f_X1_comparing, a60, a62, bI_t, bI_f, n_i8, n_i16, n_0, n_31, n_add, n_sub, n_mul, n_neg, n_div, n_rem, n_le_t, n_le_f, n_lt_t, n_lt_f, n_eq_t, n_eq_f, n_cl, n_gd, n_gdt, n_nz, Int.reduceToNat, Int.reduceAdd, Int.reduceSub, Int.reduceMul, Int.reduceNeg, Int.reduceLT, Int.reduceLE, Int.reduceEq, Int.reduceDiv, Int.reduceMod, Nat.reduceAdd, Nat.reduceMul, ↓reduceIte, bnd])
            | false =>
              rw [if_neg (by decide)]
              rw [e62] at a62
              cases e61 : isSg T n c2 61 with
              | true =>
                rw [if_pos rfl]
                rw [e61] at a61
                exact go 9 61 (by omega) (by omega) (by decide) e61 (by simp (disch := omega) only [f_X1_comparing, a60, a62, a61, bI_t, bI_f, n_i8, n_i16, n_0, n_31, n_add, n_sub, n_mul, n_neg, n_div, n_rem, n_le_t, n_le_f, n_lt_t, n_lt_f, n_eq_t, n_eq_f, n_cl, n_gd, n_gdt, n_nz, Int.reduceToNat, Int.reduceAdd, Int.reduceSub, Int.reduceMul, Int.reduceNeg, Int.reduceLT, Int.reduceLE, Int.reduceEq, Int.reduceDiv, Int.reduceMod, Nat.reduceAdd, Nat.reduceMul, ↓reduceIte, bnd])
              | false =>
                rw [if_neg (by decide)]
                rw [e61] at a61
                obtain ⟨s3, r1, r2, r3⟩ := c_ffS hf g2 g3 (by rw [List.length_append]; omega)
                obtain ⟨s4, x1, x2, x3⟩ := hI.2 _ _ s3 r2.1 r2.2
                obtain ⟨s5, y1, y2, y3⟩ := c_putE hf x2.1 x2.2 (Int32.ofInt (-9))
                refine ⟨s5, ?_, (r3.tr x3).tr y3, RQ.er y2⟩
                have ec : f_X1_comparing s2 = some (Int32.ofInt (-9), s3) := by
                  simp (disch := omega) only [f_X1_comparing, a60, a62, a61, r1, bI_f, n_i8, n_i16, n_0, n_31, n_add, n_sub, n_mul, n_neg, n_div, n_rem, n_le_t, n_le_f, n_lt_t, n_lt_f, n_eq_t, n_eq_f, n_cl, n_gd, n_gdt, n_nz, Int.reduceToNat, Int.reduceAdd, Int.reduceSub, Int.reduceMul, Int.reduceNeg, Int.reduceLT, Int.reduceLE, Int.reduceEq, Int.reduceDiv, Int.reduceMod, Nat.reduceAdd, Nat.reduceMul, ↓reduceIte, bnd]
                rw [ec, bnd]
                show (f_X5_step s3).bind (fun q9 => (t_X1_sum (Int32.ofInt o) q9).bind (fun q10 => f_X1_put (Int32.ofInt (-9)) q10)) = some s5
                rw [c_stepD r2.1, bnd, x1, bnd, y1]
  · have d1 := c_isWD hc (Int32.ofInt 29)
    have d2 := c_isSD hc (Int32.ofInt 91)
    have d3 := c_isWD hc (Int32.ofInt 30)
    obtain ⟨s1, x1, x2, x3⟩ := hI.2 k q s hc hs
    obtain ⟨s', v1, v2, v3⟩ := dead k q s1 x2.1 x2.2
    refine ⟨s', ?_, v2, x3.tr v3⟩
    rw [← v1]
    simp (disch := omega) only [f_X1_truth, d1, d2, d3, x1, n_i8, n_i16, n_0, n_31, n_add, n_sub, n_mul, n_neg, n_div, n_rem, n_le_t, n_le_f, n_lt_t, n_lt_f, n_eq_t, n_eq_f, n_cl, n_gd, n_gdt, n_nz, Int.reduceToNat, Int.reduceAdd, Int.reduceSub, Int.reduceMul, Int.reduceNeg, Int.reduceLT, Int.reduceLE, Int.reduceEq, Int.reduceDiv, Int.reduceMod, Nat.reduceAdd, Nat.reduceMul, ↓reduceIte, bnd, Option.bind_fun_some]
theorem c_truths (hf : FQ f) (j : Nat) : ∀ (d : Nat) (o : Int), o + d = 6 → 0 ≤ o → IM T n true f (t2_truth (d + j + 1) (Int32.ofInt o)) (truthD T n d)
  | 0, o, hd, o0 => c_truth (T := T) (n := n) (m := true) hf (rt := f_X1_test (f_X1_both (t2_truth (0 + j)))) (rr := t2_truth (0 + j)) (o := o) (by omega) (by omega) (c_sumT hf hd o0) (sumT_b 0) (up := none) ⟨fun _ => rfl, fun _ => by omega⟩ (fun p hp => by cases hp)
  | d + 1, o, hd, o0 => by
    have ih := c_truths hf j d (o + 1) (by omega) (by omega)
    have hb := truthD_b (T := T) (n := n) d
    rw [show d + 1 + j + 1 = (d + j + 1) + 1 by omega]
    exact c_truth (T := T) (n := n) (m := true) hf (rt := f_X1_test (f_X1_both (t2_truth (d + j + 1)))) (rr := t2_truth (d + j + 1)) (o := o) (by omega) (by omega) (c_sumT hf hd o0) (sumT_b (d + 1)) (up := some (truthD T n d)) ⟨fun x => by omega, fun x => by cases x⟩ (fun p hp => by cases hp; exact ⟨⟨ih, hb⟩, c_or hf (c_and hf ih hb) (andD_b hb)⟩)
theorem c_testT (hf : FQ f) : IM T n true f (t_X1_test (Int32.ofInt 0)) (testT T n 6) := by
  have ih := c_truths (T := T) (n := n) hf 5 6 0 (by omega) (by omega)
  have hb := truthD_b (T := T) (n := n) 6
  exact c_or hf (c_and hf ih hb) (andD_b hb)
