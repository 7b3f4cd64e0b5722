/-! L3: the reference reads SUMS as the grammar says, to the end -/
variable {K : Int32 → ST → Option ST} {x1 : Int32} {T : Int → Int} {n : Int} {m : Bool}
theorem PaR.mk {b : Int} {cs W : List Int} {o : Int} {s s' : ST} {Z : Option ST} {F2 : Nat} {a : List Int × Cur} (h1 : Z = (f_X10_qEndsPart s').bind (G1 K x1 F2)) (f2 : fu n a.2 F2) (h2 : MZ T n m b a.2 (cs ++ a.1) W o s') (h3 : RQf s s') : PaR T n m K x1 b cs W o Z s (.ok a) := by
  have hn := h2.nb
  have hsz := h2.2.2.2.2
  exact ⟨fuel, fuel, F2, G1 K x1 F2, s', h1, fun t ht => G1_g ht, ⟨fu_f hn.1 hn.2.2, f2, by unfold fuel; omega⟩, h2, h3⟩
theorem PaR.tr {b : Int} {cs W : List Int} {o : Int} {Z : Option ST} {s t : ST} {r : PR} (hf : RQf s t) (h : PaR T n m K x1 b cs W o Z t r) : PaR T n m K x1 b cs W o Z s r := RQ.mp h (fun a' _ x => by
  obtain ⟨A, B, C, X, s3, y1, y2, y3, y4, y5⟩ := x
  exact ⟨A, B, C, X, s3, y1, y2, y3, y4, hf.tr y5⟩) (fun k q x => BDr.tr hf x)
theorem nx2 {c : Cur} {F : Nat} (h : fu n c F) (cn : c.1 ≤ n) : ∃ F', F = F' + 1 + 1 := ⟨F - 2, by unfold fu at h; omega⟩
theorem nm_W {c : Cur} (h : nmB T n c = true) : isW T n c = false ∧ (∀ ch : Int, (ch < 48 ∨ 57 < ch) → isSg T n c ch = false) := by
  unfold nmB at h
  rw [Bool.and_eq_true, Bool.and_eq_true, decide_eq_true_iff] at h
  have hd : 48 ≤ T (frm T n c) ∧ T (frm T n c) ≤ 57 := of_decide_eq_true h.1.2
  constructor
  · unfold isW
    rw [show isL (T (frm T n c)) = false from decide_eq_false (by omega), Bool.and_false, Bool.false_and]
  · intro ch hch
    unfold isSg
    rw [decide_eq_false (show ¬ T (frm T n c) = ch by omega), Bool.and_false]
theorem W_sg {c : Cur} (h : isW T n c = true) : ∀ ch : Int, (ch < 97 ∨ 122 < ch) → isSg T n c ch = false := by
  unfold isW at h
  rw [Bool.and_eq_true, Bool.and_eq_true, decide_eq_true_iff] at h
  have hd : 97 ≤ T (frm T n c) ∧ T (frm T n c) ≤ 122 := of_decide_eq_true h.1.2
  intro ch hch
  unfold isSg
  rw [decide_eq_false (show ¬ T (frm T n c) = ch by omega), Bool.and_false]
theorem isWL_f {c : Cur} {l : List Int} (h : isW T n c = false) : isWL T n c l = false := by unfold isWL; rw [h, Bool.false_and]
theorem R_close {b : Int} {c : Cur} {cs W M lm l : List Int} {o br : Int} {s : ST} {F3 F2 : Nat} (h : MZ T n m b c (cs ++ lm) ((W ++ [br]) ++ M.reverse) (o + 1) s) (hl : l = lm ++ M) (hM : ∀ v ∈ M, 1 ≤ v ∧ v ≤ 4) (hb : b ≤ (W.length : Int)) (hbr : br = 20 ∨ br = 23 ∨ br = 24) (o0 : 0 ≤ o) (hno : nop T n c) (f3 : fu n c F3) (f2 : fu n c F2) : PaR T n m K x1 b cs W o (GM K x1 F3 F2 s) s (clS T n 41 (l ++ (if br = 20 then [] else if br = 23 then [5] else [6])) c) := by
  have hn := h.nb
  have hsz := h.2.2.2.2
  obtain ⟨F3, rfl⟩ := fuN f3 hn.2.1
  obtain ⟨F2, rfl⟩ := fuN f2 hn.2.1
  unfold clS
  cases e : isSg T n c 41 with
  | false =>
    obtain ⟨s', q1, q2, q3⟩ := G_bad (K := K) (x1 := x1) (F3 := F3) (F2 := F2) h hM hb hno (Or.inl ⟨hbr, e⟩)
    exact ⟨s', q1, q2, q3⟩
  | true =>
    have hsb := sg_b e hn.1 hn.2.1
    obtain ⟨s', q1, q2, q3⟩ := G_close (K := K) (x1 := x1) (F3 := F3) (F2 := F2 + 1) h hM hb hbr (by omega) e
    rw [show o + 1 - 1 = o by omega] at q2
    refine ⟨fuel, F3, F2 + 1, fun q => GM K x1 F3 (F2 + 1) q, s', q1, fun t _ => rfl, ⟨fu_m f3 hsb.1, fu_w f2 (by show c.1 ≤ (nxS T n c).1; omega), ?_⟩, ?_, q3⟩
    · have : (((W ++ [br]) ++ M.reverse).length : Int) = W.length + 1 + M.length := by rw [List.length_append, ln1, List.length_reverse]; omega
      unfold fuel
      omega
    · show MZ T n m b (nxS T n c) (cs ++ (l ++ _)) W o s'
      rw [hl, ← List.append_assoc cs, ← List.append_assoc cs]
      exact q2
theorem R_partB {d : Nat} {up : Option (Cur → PR)} (h6 : d = 0 ↔ up = none) (hu : ∀ p, up = some p → PaOK T n m K x1 (d - 1) p ∧ SB n p ∧ SuOK T n m K x1 (d - 1) (sumP T n p)) : PaOK T n m K x1 d (partB T n m up) := by
  intro F1 F2 b c cs W o s ho h f1 f2
  have hn := h.nb
  have hsz := h.2.2.2.2
  have hbW := h.2.2.2.1.2.2.2
  obtain ⟨F1, rfl⟩ := nx2 f1 hn.2.1
  obtain ⟨F2, rfl⟩ := fuN f2 hn.2.1
  have ho6 := h.2.2.1.2.2.1.2
  unfold partB
  cases eN : nmB T n c with
  | true =>
    rw [if_pos rfl]
    obtain ⟨nW, nS⟩ := nm_W eN
    have hE := (P_end (K := K) (x1 := x1) (F1 := F1) (F2 := F2) h (nS 40 (by omega)) (isWL_f nW) (isWL_f nW) (fun x => by rw [isWL_f nW] at x; cases x.2)).2 (fun x => by rw [nW] at x; cases x.1)
    have hE2 := (P_end (K := K) (x1 := x1) (F1 := F1) (F2 := F2 + 1) h (nS 40 (by omega)) (isWL_f nW) (isWL_f nW) (fun x => by rw [isWL_f nW] at x; cases x.2)).2 (fun x => by rw [nW] at x; cases x.1)
    cases eS : numS T n c 0 9999 with
    | error x => rw [eS] at hE; exact hE
    | ok a =>
      rw [eS] at hE2
      obtain ⟨s', q1, q2, q3⟩ := hE2
      have hc2 := q2.2.2.2.2
      rw [ln1] at hc2
      refine PaR.mk (a := ([1000 + a.1], a.2)) q1 (fu_w f2 ?_) q2 q3
      show c.1 ≤ a.2.1
      unfold numS at eS
      have hfb := frm_b (T := T) hn.1 hn.2.1
      rw [if_pos eN] at eS
      have hEn := nmE_b eN hn.2.1
      split at eS
      · split at eS
        · cases eS
          show c.1 ≤ nmE T n c
          omega
        · cases eS
      · cases eS
  | false =>
    rw [if_neg (by decide)]
    cases e40 : isSg T n c 40 with
    | true =>
      rw [if_pos rfl]
      have hsb := sg_b e40 hn.1 hn.2.1
      obtain ⟨P1, -⟩ := P_open (K := K) (x1 := x1) (F1 := F1 + 1) (F2 := F2 + 1) h e40
      obtain ⟨-, P2⟩ := P_open (K := K) (x1 := x1) (F1 := F1) (F2 := F2) h e40
      cases up with
      | none => exact P2 (by have := h6.mpr rfl; omega)
      | some p =>
        have hd : ¬ d = 0 := fun x => by have := h6.mp x; cases this
        obtain ⟨-, -, hS⟩ := hu p rfl
        obtain ⟨s1, q1, q2, q3⟩ := P1 (by omega)
        rw [q1]
        show PaR T n m K x1 b cs W o _ s (sq (sumP T n p (nxS T n c)) (fun l c => clS T n 41 l c))
        have hX : CX b (W ++ [20]) := Or.inr ⟨by rw [ln1]; omega, by rw [tp_c]; omega, by rw [tp_c]; omega⟩
        have hs := hS (F1 + 1) (F2 + 1) b (nxS T n c) cs (W ++ [20]) (o + 1) s1 (by omega) q2 (fu_m f1 hsb.1) (fu_w f2 (by omega)) hX
        cases e : sumP T n p (nxS T n c) with
        | error x => rw [e] at hs; exact BDr.tr q3 hs
        | ok a =>
          rw [e] at hs
          obtain ⟨F3', F2', s2, lm, M, w1, ⟨w2, w3⟩, w4, w5, w6, w7, w8⟩ := hs
          rw [w1]
          have hR := R_close (K := K) (x1 := x1) (br := 20) (o := o) (l := a.1) w4 w5 w6 hbW (Or.inl rfl) ho6.1 w7 w2 w3
          rw [if_pos rfl, List.append_nil] at hR
          exact PaR.tr (q3.tr w8) hR
    | false =>
      rw [if_neg (by decide)]
      have pair : ∀ (z k : Int), (z = 21 ∧ k = 5 ∧ isWL T n c (WDl 31) = true) ∨ (z = 22 ∧ k = 6 ∧ isWL T n c (WDl 32) = true) → PaR T n m K x1 b cs W o (PM K x1 (F1 + 1 + 1) (F2 + 1) s) s (pairB T n up k (nxW T n c)) := by
        intro z k hz
        have hW : isW T n c = true := by
          rcases hz with hz | hz
          · exact isWL_W hz.2.2
          · exact isWL_W hz.2.2
        have hz' : (z = 21 ∧ isWL T n c (WDl 31) = true) ∨ (z = 22 ∧ isWL T n c (WDl 32) = true) := by
          rcases hz with hz | hz
          · exact Or.inl ⟨hz.1, hz.2.2⟩
          · exact Or.inr ⟨hz.1, hz.2.2⟩
        have hwb := wd_b hW hn.1 hn.2.1
        obtain ⟨P1, -, -⟩ := P_pair (K := K) (x1 := x1) (F1 := F1 + 1) (F2 := F2 + 1) h hz'
        obtain ⟨-, P2, P3⟩ := P_pair (K := K) (x1 := x1) (F1 := F1) (F2 := F2) h hz'
        unfold pairB
        cases e1 : isSg T n (nxW T n c) 40 with
        | false => rw [if_neg (by decide)]; exact P3 e1
        | true =>
          rw [if_pos rfl]
          have hsb := sg_b e1 (by omega) hwb.2
          cases up with
          | none => exact P2 e1 (by have := h6.mpr rfl; omega)
          | some p =>
            have hd : ¬ d = 0 := fun x => by have := h6.mp x; cases this
            obtain ⟨-, hB, hS⟩ := hu p rfl
            have hSB := sumP_b (T := T) hB
            obtain ⟨s1, q1, q2, q3⟩ := P1 e1 (by omega)
            rw [q1]
            show PaR T n m K x1 b cs W o _ s (sq (sumP T n p (nxS T n (nxW T n c))) (fun l c => if isSg T n c 44 = true then sq (sumP T n p (nxS T n c)) (fun l2 c2 => clS T n 41 (l ++ l2 ++ [k]) c2) else .error (1, frm T n c)))
            have hX : CX b (W ++ [z]) := Or.inr ⟨by rw [ln1]; omega, by rw [tp_c]; omega, by rw [tp_c]; omega⟩
            have hs := hS (F1 + 1) (F2 + 1) b (nxS T n (nxW T n c)) cs (W ++ [z]) (o + 1) s1 (by omega) q2 (fu_m f1 (by omega)) (fu_w f2 (by omega)) hX
            have hr := hSB (nxS T n (nxW T n c)) (by omega) hsb.2
            cases e : sumP T n p (nxS T n (nxW T n c)) with
            | error x => rw [e] at hs; exact BDr.tr q3 hs
            | ok a =>
              rw [e] at hs hr
              obtain ⟨r1, r2, r3⟩ := (hr : (nxS T n (nxW T n c)).1 + a.1.length ≤ a.2.1 ∧ (nxS T n (nxW T n c)).1 < a.2.1 ∧ a.2.1 ≤ n)
              obtain ⟨F3', F2', s2, lm, M, w1, ⟨w2, w3⟩, w4, w5, w6, w7, w8⟩ := hs
              rw [w1]
              obtain ⟨F3', rfl⟩ := fuN w2 r3
              obtain ⟨F2', rfl⟩ := fuN w3 r3
              show PaR T n m K x1 b cs W o _ s (if isSg T n a.2 44 = true then sq (sumP T n p (nxS T n a.2)) (fun l2 c2 => clS T n 41 (a.1 ++ l2 ++ [k]) c2) else .error (1, frm T n a.2))
              cases e44 : isSg T n a.2 44 with
              | false =>
                rw [if_neg (by decide)]
                obtain ⟨s3, v1, v2, v3⟩ := G_bad (K := K) (x1 := x1) (F3 := F3') (F2 := F2') w4 w6 hbW w7 (Or.inr ⟨by omega, e44⟩)
                exact ⟨s3, v1, v2, v3.1, (q3.tr w8).tr v3.2⟩
              | true =>
                rw [if_pos rfl]
                have hsb2 := sg_b e44 (by omega) r3
                obtain ⟨s3, v1, v2, v3⟩ := G_comma (K := K) (x1 := x1) (F3 := F3') (F2 := F2') w4 w6 hbW (by omega) e44
                rw [v1]
                have hX2 : CX b (W ++ [z + 2]) := Or.inr ⟨by rw [ln1]; omega, by rw [tp_c]; omega, by rw [tp_c]; omega⟩
                have hs2 := hS fuel F2' b (nxS T n a.2) (cs ++ lm ++ M) (W ++ [z + 2]) (o + 1) s3 (by omega) v2 (fu_f (by omega) hn.2.2) (fu_m w3 hsb2.1) hX2
                cases e2 : sumP T n p (nxS T n a.2) with
                | error x => rw [e2] at hs2; exact BDr.tr ((q3.tr w8).tr v3) hs2
                | ok a2 =>
                  rw [e2] at hs2
                  obtain ⟨F3c, F2c, s4, lm2, M2, u1, ⟨u2, u3⟩, u4, u5, u6, u7, u8⟩ := hs2
                  rw [u1]
                  have u4' : MZ T n m b a2.2 (cs ++ (lm ++ M ++ lm2)) ((W ++ [z + 2]) ++ M2.reverse) (o + 1) s4 := by
                    rw [show cs ++ (lm ++ M ++ lm2) = cs ++ lm ++ M ++ lm2 by rw [List.append_assoc, List.append_assoc, List.append_assoc]]
                    exact u4
                  have hR := R_close (K := K) (x1 := x1) (br := z + 2) (o := o) (l := a.1 ++ a2.1) u4' (by rw [w5, u5, ← List.append_assoc]) u6 hbW (by omega) ho6.1 u7 u2 u3
                  have ek : (if z + 2 = 20 then ([] : List Int) else if z + 2 = 23 then [5] else [6]) = [k] := by
                    rcases hz with ⟨rfl, rfl, -⟩ | ⟨rfl, rfl, -⟩
                    · rfl
                    · rfl
                  rw [ek] at hR
                  exact PaR.tr (((q3.tr w8).tr v3).tr u8) hR
      cases e31 : isWL T n c (WDl 31) with
      | true => rw [if_pos rfl]; exact pair 21 5 (Or.inl ⟨rfl, rfl, e31⟩)
      | false =>
        rw [if_neg (by decide)]
        cases e32 : isWL T n c (WDl 32) with
        | true => rw [if_pos rfl]; exact pair 22 6 (Or.inr ⟨rfl, rfl, e32⟩)
        | false =>
          rw [if_neg (by decide)]
          by_cases e20 : m = true ∧ isWL T n c (WDl 20) = true
          · rw [if_pos e20]
            have hwb := wd_b (isWL_W e20.2) hn.1 hn.2.1
            obtain ⟨P1, -⟩ := P_off (K := K) (x1 := x1) (F1 := F1 + 1) (F2 := F2 + 1) h e20
            obtain ⟨-, P2⟩ := P_off (K := K) (x1 := x1) (F1 := F1) (F2 := F2) h e20
            cases up with
            | none => exact P2 (by have := h6.mpr rfl; omega)
            | some p =>
              have hd : ¬ d = 0 := fun x => by have := h6.mp x; cases this
              obtain ⟨hp, hB, -⟩ := hu p rfl
              obtain ⟨s1, q1, q2, q3⟩ := P1 (by omega)
              rw [q1]
              show PaR T n m K x1 b cs W o _ s (sq (p (nxW T n c)) (fun l c => .ok (l ++ [60], c)))
              have hs := hp (F1 + 1) (F2 + 1) b (nxW T n c) cs (W ++ [60]) (o + 1) s1 (by omega) q2 (fu_m f1 hwb.1) (fu_w f2 (by omega))
              cases e : p (nxW T n c) with
              | error x => rw [e] at hs; exact BDr.tr q3 hs
              | ok a =>
                rw [e] at hs
                obtain ⟨F4, F3', F2', X, s2, w1, w2, ⟨w3, w4, w5⟩, w6, w7⟩ := hs
                rw [w1]
                rw [ln1] at w5
                obtain ⟨F4, rfl⟩ : ∃ F, F4 = F + 1 := ⟨F4 - 1, by omega⟩
                obtain ⟨s3, v1, v2, v3⟩ := E_pop (F := F4) w6 hbW ho6.1
                rw [v1]
                refine ⟨F4, F3', F2', X, s3, rfl, w2, ⟨w3, w4, by omega⟩, ?_, (q3.tr w7).tr v3⟩
                show MZ T n m b a.2 (cs ++ (a.1 ++ [60])) W o s3
                rw [← List.append_assoc]
                exact v2
          · rw [if_neg e20]
            obtain ⟨E1, -⟩ := P_end (K := K) (x1 := x1) (F1 := F1) (F2 := F2 + 1) h e40 e31 e32 e20
            obtain ⟨-, E2⟩ := P_end (K := K) (x1 := x1) (F1 := F1) (F2 := F2) h e40 e31 e32 e20
            by_cases eF : isW T n c = true ∧ isF m (wix T n c) = true
            · rw [if_pos eF]
              have hwb := wd_b eF.1 hn.1 hn.2.1
              obtain ⟨s', q1, q2, q3⟩ := E1 eF
              exact PaR.mk (a := ([40 + fk (wix T n c)], nxW T n c)) q1 (fu_w f2 (by show c.1 ≤ (nxW T n c).1; omega)) q2 q3
            · rw [if_neg eF]
              have hE := E2 eF
              unfold numS at hE
              rw [eN, if_neg (by decide)] at hE
              exact hE
theorem R_part : ∀ d : Nat, PaOK T n m K x1 d (partD T n m d)
  | 0 => R_partB (up := none) ⟨fun _ => rfl, fun _ => rfl⟩ (fun p hp => by cases hp)
  | d + 1 => R_partB (up := some (partD T n m d)) ⟨fun x => by omega, fun x => by cases x⟩ (fun p hp => by
    cases hp
    have hb := partD_b (T := T) (n := n) (m := m) d
    exact ⟨R_part d, hb, R_sum (R_prod (R_part d) hb) (prodD_b hb)⟩)
theorem R_sumT (d : Nat) : SuOK T n m K x1 d (sumT T n m d) := R_sum (R_prod (R_part d) (partD_b d)) (prodD_b (partD_b d))
/-- the reference reads a SUM -/
theorem m_qSums {b : Int} {c : Cur} {cs W : List Int} {o : Int} {s : ST} (h : MZ T n m b c cs W o s) {d : Nat} (hd : o + (d : Int) = 6) (hT : tp W = -1 ∨ (10 ≤ tp W ∧ tp W ≤ 25)) : ∃ s', f_X10_qSums s = some s' ∧ RQf s s' ∧ RQ (sumT T n m d c) (fun a => MZ T n m b a.2 (cs ++ a.1) W o s') (fun k q => RB k q s' ∧ QN s') := by
  have hn := h.nb
  have hsz := h.2.2.2.2
  have h115 := h.2.2.2.1.2.1
  have h113 := h.2.2.1.2.1.1
  have hf1 : RQf s (uI s 65 115 (Int32.ofInt (W.length : Int))) := ⟨fun o k x y z => by (simp only [ua, ja, u_2, u_3, j_1, j_3]; (repeat' split) <;> first | rfl | (exfalso; omega)), rfl⟩
  have hf1' : ∀ o k : Nat, ¬ (o = 65 ∧ k = 115) → (uI s 65 115 (Int32.ofInt (W.length : Int))).1 o k = s.1 o k := fun o k x => by (simp only [ua, ja, u_2, u_3, j_1, j_3]; (repeat' split) <;> first | rfl | (exfalso; omega))
  have hM1 : MZ T n m (W.length : Int) c cs W o (uI s 65 115 (Int32.ofInt (W.length : Int))) := by
    obtain ⟨g1, g2, g3, ⟨g4, g5, g6, g7⟩, g8⟩ := h
    refine ⟨RC_fr g1 (hf1' 65 2 (by omega)) (hf1' 65 3 (by omega)) (hf1' 65 4 (by omega)) (hf1' 65 5 (by omega)) (hf1' 65 6 (by omega)) (fun k => hf1' 66 k (by omega)), WDS_fr g2 (fun o k ho => hf1' o k (by omega)), ?_, ⟨(hf1' 65 59 (by omega)).trans g4, u_eq _ _ _ _, by omega, Int.le_refl _⟩, g8⟩
    exact ⟨⟨(hf1' 65 111 (by omega)).trans g3.1.1, fun i hi => (hf1' 146 i (by omega)).trans (g3.1.2 i hi)⟩, ⟨(hf1' 65 113 (by omega)).trans g3.2.1.1, fun i hi => (hf1' 147 i (by omega)).trans (g3.2.1.2 i hi)⟩, ⟨(hf1' 65 114 (by omega)).trans g3.2.2.1.1, g3.2.2.1.2⟩, g3.2.2.2⟩
  have hX : CX (W.length : Int) W := Or.inl ⟨rfl, hT⟩
  obtain ⟨F, hF⟩ : ∃ F, fuel = F + 1 := ⟨99999, rfl⟩
  have hFv : F = 99999 := by unfold fuel at hF; omega
  have e0 : f_X10_qSums s = PM (f_X10_qSums_L53 f_X10_qSums_j78 fuel) (Int32.ofInt b) fuel F (uI s 65 115 (Int32.ofInt (W.length : Int))) := by
    have hb1 := hM1.1.b.1
    rw [← r15_1 hb1, ← hF]
    simp (disch := omega) only [f_X10_qSums, h113, h115, ltd]
  have hS := R_sumT (K := f_X10_qSums_L53 f_X10_qSums_j78 fuel) (x1 := Int32.ofInt b) (T := T) (n := n) (m := m) d fuel F (W.length : Int) c cs W o _ hd hM1 (fu_f hn.1 hn.2.2) (by unfold fu; omega) hX
  rw [e0]
  have fin : ∀ (s2 : ST), RQf s s2 → RQf s (uI s2 65 115 (Int32.ofInt b)) := fun s2 hf => hf.tr ⟨fun o k x y z => by (simp only [ua, ja, u_2, u_3, j_1, j_3]; (repeat' split) <;> first | rfl | (exfalso; omega)), rfl⟩
  cases e : sumT T n m d c with
  | error x =>
    rw [e] at hS
    obtain ⟨s2, q1, q2, ⟨qN, qn0, qn1, qn⟩, q3⟩ := hS
    refine ⟨uI s2 65 115 (Int32.ofInt b), ?_, fin s2 (hf1.tr q3), RB_fr q2 (by rw [u_nk (by omega)]) (by rw [u_nk (by omega)]), qN, qn0, qn1, by rw [u_nk (by omega)]; exact qn⟩
    rw [q1, hF, f_X10_qSums_L53, if_neg q2.ne]
    unfold f_X10_qSums_j78
    rw [ltd]
  | ok a =>
    rw [e] at hS
    obtain ⟨F3, F2, s2, lm, M, w1, ⟨w2, w3⟩, w4, w5, w6, w7, w8⟩ := hS
    have hn2 := w4.nb
    obtain ⟨F3, rfl⟩ := fuN w2 hn2.2.1
    obtain ⟨F2, rfl⟩ := fuN w3 hn2.2.1
    obtain ⟨s3, v1, v2, v3⟩ := G_end (K := f_X10_qSums_L53 f_X10_qSums_j78 fuel) (x1 := Int32.ofInt b) (F3 := F3) (F2 := F2) w4 w6 rfl hX w7
    have hsz3 := v2.2.2.2.2
    have hlenr : ((W ++ M.reverse).length : Int) = W.length + M.length := by rw [List.length_append, List.length_reverse]; omega
    obtain ⟨s4, u1, u2, u3⟩ := m_q53_L (W0 := W) (b := (W.length : Int)) (by omega) rfl (Int32.ofInt b) M fuel (cs ++ lm) o s3 v2.2.2.1 v2.2.2.2.1.2.1 v2.1.b.1 (by omega) (by unfold fuel; omega)
    have hM4 : MZ T n m (W.length : Int) a.2 (cs ++ lm ++ M) W o s4 := v2.w u3 u2 (Int.le_refl _) (by rw [List.length_append]; omega)
    have hf5 : ∀ o k : Nat, ¬ (o = 65 ∧ k = 115) → (uI s4 65 115 (Int32.ofInt b)).1 o k = s4.1 o k := fun o k x => by (simp only [ua, ja, u_2, u_3, j_1, j_3]; (repeat' split) <;> first | rfl | (exfalso; omega))
    refine ⟨uI s4 65 115 (Int32.ofInt b), ?_, fin s4 (((hf1.tr w8).tr v3).tr u3.q), ?_⟩
    · rw [w1, v1, u1]
      unfold f_X10_qSums_j78
      rw [ltd]
    · show MZ T n m b a.2 (cs ++ a.1) W o _
      rw [w5, ← List.append_assoc]
      obtain ⟨g1, g2, g3, ⟨g4, g5, g6, g7⟩, g8⟩ := hM4
      have hb := h.2.2.2.1
      refine ⟨RC_fr g1 (hf5 65 2 (by omega)) (hf5 65 3 (by omega)) (hf5 65 4 (by omega)) (hf5 65 5 (by omega)) (hf5 65 6 (by omega)) (fun k => hf5 66 k (by omega)), WDS_fr g2 (fun o k ho => hf5 o k (by omega)), ?_, ⟨(hf5 65 59 (by omega)).trans g4, u_eq _ _ _ _, hb.2.2.1, hb.2.2.2⟩, g8⟩
      exact ⟨⟨(hf5 65 111 (by omega)).trans g3.1.1, fun i hi => (hf5 146 i (by omega)).trans (g3.1.2 i hi)⟩, ⟨(hf5 65 113 (by omega)).trans g3.2.1.1, fun i hi => (hf5 147 i (by omega)).trans (g3.2.1.2 i hi)⟩, ⟨(hf5 65 114 (by omega)).trans g3.2.2.1.1, g3.2.2.1.2⟩, g3.2.2.2⟩
