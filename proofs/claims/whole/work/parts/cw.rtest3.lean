/-! L3: the reference reads TESTS as the grammar says, to the end -/
section OKT
variable (T : Int → Int) (n : Int) (K : ST → Option ST)
def BTr (Z : Option ST) (s : ST) (k q : Int) : Prop := ∃ s', Z = K s' ∧ RB k q s' ∧ RQf s s'
def TrR (cs W : List Int) (o : Int) (Z : Option ST) (s : ST) (r : PR) : Prop := RQ r (fun a => ∃ (F4 F3 F2 : Nat) (X : ST → Option ST) (s' : ST), Z = (f_X10_qDropsNots_L0 F4 s').bind X ∧ (∀ t : ST, t.1 65 5 = Int32.ofInt 0 → X t = GMt K F3 F2 t) ∧ (fu n a.2 F3 ∧ fu n a.2 F2 ∧ (W.length : Int) < (F4 : Int)) ∧ MZ T n true 0 a.2 (cs ++ a.1) W o s' ∧ RQf s s') (fun k q => BTr K Z s k q)
def AnR (cs W : List Int) (o : Int) (Z : Option ST) (s : ST) (r : PR) : Prop := RQ r (fun a => ∃ (F3 F2 : Nat) (s' : ST) (lm M : List Int), Z = GMt K F3 F2 s' ∧ (fu n a.2 F3 ∧ fu n a.2 F2) ∧ MZ T n true 0 a.2 (cs ++ lm) (W ++ M.reverse) o s' ∧ a.1 = lm ++ M ∧ (∀ v ∈ M, v = 10) ∧ isWL T n a.2 (WDl 28) = false ∧ RQf s s') (fun k q => BTr K Z s k q)
def OrR (cs W : List Int) (o : Int) (Z : Option ST) (s : ST) (r : PR) : Prop := RQ r (fun a => ∃ (F3 F2 : Nat) (s' : ST) (lm M : List Int), Z = GMt K F3 F2 s' ∧ (fu n a.2 F3 ∧ fu n a.2 F2) ∧ MZ T n true 0 a.2 (cs ++ lm) (W ++ M.reverse) o s' ∧ a.1 = lm ++ M ∧ (∀ v ∈ M, v = 10 ∨ v = 11) ∧ (isWL T n a.2 (WDl 28) = false ∧ isWL T n a.2 (WDl 27) = false) ∧ RQf s s') (fun k q => BTr K Z s k q)
def TrOK (d : Nat) (p : Cur → PR) : Prop := ∀ (F2 : Nat) (c : Cur) (cs W : List Int) (o : Int) (s : ST), o + (d : Int) = 6 → MZ T n true 0 c cs W o s → fu n c F2 → (tp W = -1 ∨ (10 ≤ tp W ∧ tp W ≤ 25)) → TrR T n K cs W o (TM K F2 s) s (p c)
def AnOK (d : Nat) (p : Cur → PR) : Prop := ∀ (F2 : Nat) (c : Cur) (cs W : List Int) (o : Int) (s : ST), o + (d : Int) = 6 → MZ T n true 0 c cs W o s → fu n c F2 → (tp W = -1 ∨ tp W = 11 ∨ tp W = 25) → AnR T n K cs W o (TM K F2 s) s (p c)
def OrOK (d : Nat) (p : Cur → PR) : Prop := ∀ (F2 : Nat) (c : Cur) (cs W : List Int) (o : Int) (s : ST), o + (d : Int) = 6 → MZ T n true 0 c cs W o s → fu n c F2 → (tp W = -1 ∨ tp W = 25) → OrR T n K cs W o (TM K F2 s) s (p c)
end OKT
variable {K : ST → Option ST} {T : Int → Int} {n : Int}
theorem BTr.tr {Z : Option ST} {s t : ST} {k q : Int} (hf : RQf s t) (h : BTr K Z t k q) : BTr K Z s k q := by
  obtain ⟨s', h1, h2, h3⟩ := h
  exact ⟨s', h1, h2, hf.tr h3⟩
theorem TrR.g {cs W : List Int} {o : Int} {Z : Option ST} {s : ST} {a : List Int × Cur} (h : TrR T n K cs W o Z s (.ok a)) (hT : ¬ tp W = 12) : ∃ (F3 F2 : Nat) (s' : ST), Z = GMt K F3 F2 s' ∧ (fu n a.2 F3 ∧ fu n a.2 F2) ∧ MZ T n true 0 a.2 (cs ++ a.1) W o s' ∧ RQf s s' := by
  obtain ⟨F4, F3, F2, X, s', h1, h2, ⟨h3, h4, h5⟩, h6, h7⟩ := h
  obtain ⟨F, rfl⟩ : ∃ F, F4 = F + 1 := ⟨F4 - 1, by omega⟩
  refine ⟨F3, F2, s', ?_, ⟨h3, h4⟩, h6, h7⟩
  rw [h1, N_stop h6 hT, bnd, h2 s' h6.1.b.1]
theorem TrR.mk {cs W : List Int} {o : Int} {s s' : ST} {Z : Option ST} {F2 : Nat} {a : List Int × Cur} (h1 : Z = (f_X10_qDropsNots s').bind (G1t K F2)) (f2 : fu n a.2 F2) (h2 : MZ T n true 0 a.2 (cs ++ a.1) W o s') (h3 : RQf s s') : TrR T n K cs W o Z s (.ok a) := by
  have hn := h2.nb
  have hsz := h2.2.2.2.2
  exact ⟨fuel, fuel, F2, G1t K F2, s', h1, fun t ht => G1t_g ht, ⟨fu_f hn.1 hn.2.2, f2, by unfold fuel; omega⟩, h2, h3⟩
theorem TrR.tr {cs W : List Int} {o : Int} {Z : Option ST} {s t : ST} {r : PR} (hf : RQf s t) (h : TrR T n K cs W o Z t r) : TrR T n K cs W o Z s r := RQ.mp h (fun a' _ x => by
  obtain ⟨A, B, C, X, s3, y1, y2, y3, y4, y5⟩ := x
  exact ⟨A, B, C, X, s3, y1, y2, y3, y4, hf.tr y5⟩) (fun k q x => BTr.tr hf x)
theorem wlN {c : Cur} {k : Int} (hk : n - c.1 ≤ k) (k0 : k = 0) (cn : c.1 ≤ n) {l : List Int} : isWL T n c l = false := by
  have hf : c.1 ≤ frm T n c := (sk_b (p := isBk) (T := T) (n := n) _ c.1 rfl).1
  refine isWL_f ?_
  unfold isW
  rw [decide_eq_false (show ¬ frm T n c < n by omega), Bool.false_and, Bool.false_and]
theorem R_anL {d : Nat} {p : Cur → PR} (hp : TrOK T n K d p) (hb : SB n p) {cs W : List Int} {o : Int} (ho : o + (d : Int) = 6) (hT : ¬ tp W = 10) : ∀ (k F3 F2 : Nat) (c : Cur) (lm M : List Int) (s : ST), n - c.1 ≤ (k : Int) → MZ T n true 0 c (cs ++ lm) (W ++ M.reverse) o s → (∀ v ∈ M, v = 10) → fu n c F3 → fu n c F2 → AnR T n K cs W o (GMt K F3 F2 s) s (andL T n p k (lm ++ M) c) := by
  intro k
  induction k with
  | zero =>
    intro F3 F2 c lm M s hk h hM f3 f2
    have hn := h.nb
    exact ⟨F3, F2, s, lm, M, rfl, ⟨f3, f2⟩, h, rfl, hM, wlN hk rfl hn.2.1, RQf.rf s⟩
  | succ k ih =>
    intro F3 F2 c lm M s hk h hM f3 f2
    have hn := h.nb
    obtain ⟨F3, rfl⟩ := fuN f3 hn.2.1
    unfold andL
    cases e1 : isWL T n c (WDl 28) with
    | false => exact ⟨F3 + 1, F2, s, lm, M, rfl, ⟨f3, f2⟩, h, rfl, hM, e1, RQf.rf s⟩
    | true =>
      rw [if_pos rfl]
      have hsb := wd_b (isWL_W e1) hn.1 hn.2.1
      obtain ⟨s1, q1, q2, q3⟩ := T_and (K := K) (F3 := F3) (F2 := F2) h hM hT e1
      rw [q1]
      have hP := hp F2 (nxW T n c) (cs ++ lm ++ M) (W ++ [10]) o s1 ho q2 (fu_w f2 (by omega)) (Or.inr (by rw [tp_c]; omega))
      have hr := hb (nxW T n c) (by omega) hsb.2
      cases e : p (nxW T n c) with
      | error x =>
        rw [e] at hP
        exact BTr.tr q3 hP
      | ok a =>
        rw [e] at hP hr
        obtain ⟨r1, r2, r3⟩ := (hr : (nxW T n c).1 + a.1.length ≤ a.2.1 ∧ (nxW T n c).1 < a.2.1 ∧ a.2.1 ≤ n)
        obtain ⟨F3', F2', s2, w1, ⟨w2, w3⟩, w4, w5⟩ := TrR.g hP (by rw [tp_c]; omega)
        rw [w1]
        have w4' : MZ T n true 0 a.2 (cs ++ (lm ++ M ++ a.1)) (W ++ ([10] : List Int).reverse) o s2 := by
          rw [List.reverse_singleton]
          rw [show cs ++ (lm ++ M ++ a.1) = cs ++ lm ++ M ++ a.1 by rw [List.append_assoc, List.append_assoc, List.append_assoc]]
          exact w4
        have hI := ih F3' F2' a.2 (lm ++ M ++ a.1) [10] s2 (by omega) w4' (fun v hv => List.mem_singleton.mp hv) w2 w3
        exact RQ.mp hI (fun a' _ x => by
          obtain ⟨A, B, s3, l3, M3, y1, y2, y3, y4, y5, y6, y7⟩ := x
          exact ⟨A, B, s3, l3, M3, y1, y2, y3, y4, y5, y6, (q3.tr w5).tr y7⟩) (fun k q x => BTr.tr (q3.tr w5) x)
theorem R_and {d : Nat} {p : Cur → PR} (hp : TrOK T n K d p) (hb : SB n p) : AnOK T n K d (andD T n p) := by
  intro F2 c cs W o s ho h f2 hT
  have hn := h.nb
  have hP := hp F2 c cs W o s ho h f2 (by omega)
  have hr := hb c hn.1 hn.2.1
  unfold andD
  cases e : p c with
  | error x => rw [e] at hP; exact hP
  | ok a =>
    rw [e] at hP hr
    obtain ⟨r1, r2, r3⟩ := (hr : c.1 + a.1.length ≤ a.2.1 ∧ c.1 < a.2.1 ∧ a.2.1 ≤ n)
    obtain ⟨F3', F2', s2, w1, ⟨w2, w3⟩, w4, w5⟩ := TrR.g hP (by omega)
    rw [w1]
    have w4' : MZ T n true 0 a.2 (cs ++ a.1) (W ++ ([] : List Int).reverse) o s2 := by rw [List.reverse_nil, List.append_nil]; exact w4
    have hI := R_anL hp hb ho (by omega) 1600 F3' F2' a.2 a.1 [] s2 (by omega) w4' (fun v hv => by cases hv) w2 w3
    rw [List.append_nil] at hI
    exact RQ.mp hI (fun a' _ x => by
      obtain ⟨A, B, s3, l3, M3, y1, y2, y3, y4, y5, y6, y7⟩ := x
      exact ⟨A, B, s3, l3, M3, y1, y2, y3, y4, y5, y6, w5.tr y7⟩) (fun k q x => BTr.tr w5 x)
theorem R_orL {d : Nat} {p : Cur → PR} (hp : AnOK T n K d p) (hb : SB n p) {cs W : List Int} {o : Int} (ho : o + (d : Int) = 6) (hT : tp W = -1 ∨ tp W = 25) : ∀ (k F3 F2 : Nat) (c : Cur) (lm M : List Int) (s : ST), n - c.1 ≤ (k : Int) → MZ T n true 0 c (cs ++ lm) (W ++ M.reverse) o s → (∀ v ∈ M, v = 10 ∨ v = 11) → isWL T n c (WDl 28) = false → fu n c F3 → fu n c F2 → OrR T n K cs W o (GMt K F3 F2 s) s (orL T n p k (lm ++ M) c) := by
  intro k
  induction k with
  | zero =>
    intro F3 F2 c lm M s hk h hM h28 f3 f2
    have hn := h.nb
    exact ⟨F3, F2, s, lm, M, rfl, ⟨f3, f2⟩, h, rfl, hM, ⟨h28, wlN hk rfl hn.2.1⟩, RQf.rf s⟩
  | succ k ih =>
    intro F3 F2 c lm M s hk h hM h28 f3 f2
    have hn := h.nb
    obtain ⟨F3, rfl⟩ := fuN f3 hn.2.1
    unfold orL
    cases e1 : isWL T n c (WDl 27) with
    | false => exact ⟨F3 + 1, F2, s, lm, M, rfl, ⟨f3, f2⟩, h, rfl, hM, ⟨h28, e1⟩, RQf.rf s⟩
    | true =>
      rw [if_pos rfl]
      have hsb := wd_b (isWL_W e1) hn.1 hn.2.1
      obtain ⟨s1, q1, q2, q3⟩ := T_or (K := K) (F3 := F3) (F2 := F2) h hM (by omega) (by omega) e1
      rw [q1]
      have hP := hp F2 (nxW T n c) (cs ++ lm ++ M) (W ++ [11]) o s1 ho q2 (fu_w f2 (by omega)) (Or.inr (Or.inl (by rw [tp_c])))
      have hr := hb (nxW T n c) (by omega) hsb.2
      cases e : p (nxW T n c) with
      | error x =>
        rw [e] at hP
        exact BTr.tr q3 hP
      | ok a =>
        rw [e] at hP hr
        obtain ⟨r1, r2, r3⟩ := (hr : (nxW T n c).1 + a.1.length ≤ a.2.1 ∧ (nxW T n c).1 < a.2.1 ∧ a.2.1 ≤ n)
        obtain ⟨F3', F2', s2, l2, M2, w1, ⟨w2, w3⟩, w4, w5, w6, w7, w8⟩ := hP
        rw [w1]
        have w4' : MZ T n true 0 a.2 (cs ++ (lm ++ M ++ l2)) (W ++ (M2 ++ [11]).reverse) o s2 := by
          rw [List.reverse_append, List.reverse_singleton, ← List.append_assoc W]
          rw [show cs ++ (lm ++ M ++ l2) = cs ++ lm ++ M ++ l2 by rw [List.append_assoc, List.append_assoc, List.append_assoc]]
          exact w4
        have hI := ih F3' F2' a.2 (lm ++ M ++ l2) (M2 ++ [11]) s2 (by omega) w4' (fun v hv => by
          rcases List.mem_append.mp hv with hv | hv
          · exact Or.inl (w6 v hv)
          · exact Or.inr (List.mem_singleton.mp hv)) w7 w2 w3
        have el : lm ++ M ++ l2 ++ (M2 ++ [11]) = lm ++ M ++ a.1 ++ [11] := by rw [w5, ← List.append_assoc, ← List.append_assoc]
        rw [el] at hI
        exact RQ.mp hI (fun a' _ x => by
          obtain ⟨A, B, s3, l3, M3, y1, y2, y3, y4, y5, y6, y7⟩ := x
          exact ⟨A, B, s3, l3, M3, y1, y2, y3, y4, y5, y6, (q3.tr w8).tr y7⟩) (fun k q x => BTr.tr (q3.tr w8) x)
theorem R_or {d : Nat} {p : Cur → PR} (hp : AnOK T n K d p) (hb : SB n p) : OrOK T n K d (orD T n p) := by
  intro F2 c cs W o s ho h f2 hT
  have hn := h.nb
  have hP := hp F2 c cs W o s ho h f2 (by omega)
  have hr := hb c hn.1 hn.2.1
  unfold orD
  cases e : p c with
  | error x => rw [e] at hP; exact hP
  | ok a =>
    rw [e] at hP hr
    obtain ⟨r1, r2, r3⟩ := (hr : c.1 + a.1.length ≤ a.2.1 ∧ c.1 < a.2.1 ∧ a.2.1 ≤ n)
    obtain ⟨F3', F2', s2, l2, M2, w1, ⟨w2, w3⟩, w4, w5, w6, w7, w8⟩ := hP
    rw [w1]
    have hI := R_orL hp hb ho hT 1600 F3' F2' a.2 l2 M2 s2 (by omega) w4 (fun v hv => Or.inl (w6 v hv)) w7 w2 w3
    rw [← w5] at hI
    exact RQ.mp hI (fun a' _ x => by
      obtain ⟨A, B, s3, l3, M3, y1, y2, y3, y4, y5, y6, y7⟩ := x
      exact ⟨A, B, s3, l3, M3, y1, y2, y3, y4, y5, y6, w8.tr y7⟩) (fun k q x => BTr.tr w8 x)
theorem GMt_0 {F3 F2 : Nat} {s s' : ST} (h : f_X10_qGoesOnTest_L0 f_X10_qGoesOnTest_j76 F3 s = some (Int32.ofInt 0, s')) : GMt K F3 (F2 + 1) s = K s' := by
  unfold GMt
  rw [h, bnd]
  exact rsT_0 F2 s'
theorem R_closeT {c : Cur} {cs W M lm l : List Int} {o : Int} {s : ST} {F3 F2 : Nat} (h : MZ T n true 0 c (cs ++ lm) ((W ++ [25]) ++ M.reverse) (o + 1) s) (hl : l = lm ++ M) (hM : ∀ v ∈ M, v = 10 ∨ v = 11) (o0 : 0 ≤ o) (hno : isWL T n c (WDl 28) = false ∧ isWL T n c (WDl 27) = false) (f3 : fu n c F3) (f2 : fu n c F2) : TrR T n K cs W o (GMt K F3 F2 s) s (clS T n 93 l c) := by
  have hn := h.nb
  have hsz := h.2.2.2.2
  obtain ⟨F3, rfl⟩ := fuN f3 hn.2.1
  obtain ⟨F2, rfl⟩ := fuN f2 hn.2.1
  unfold clS
  cases e : isSg T n c 93 with
  | false =>
    obtain ⟨s1, q1, q2, q3, -, q4⟩ := T_no (F3 := F3) h hno.1 hno.2 (Or.inl e)
    have q4 := q4 (by rw [any_r hM, any_25])
    obtain ⟨s2, p1, p2, p3⟩ := m_fail (k := 1) (p := frm T n c) q1.b.1 (by omega) (by omega)
    rw [p1, bnd] at q4
    exact ⟨s2, GMt_0 q4, p2, q3.tr p3.q⟩
  | true =>
    have hsb := sg_b e hn.1 hn.2.1
    obtain ⟨s', q1, q2, q3⟩ := T_close (K := K) (F3 := F3) (F2 := F2 + 1) h hM (by omega) e
    rw [show o + 1 - 1 = o by omega] at q2
    refine ⟨fuel, F3, F2 + 1, fun q => GMt K F3 (F2 + 1) q, s', q1, fun t _ => rfl, ⟨fu_m f3 hsb.1, fu_w f2 (by show c.1 ≤ (nxS T n c).1; omega), ?_⟩, ?_, q3⟩
    · have : (((W ++ [25]) ++ M.reverse).length : Int) = W.length + 1 + M.length := by rw [List.length_append, ln1, List.length_reverse]; omega
      unfold fuel
      omega
    · show MZ T n true 0 (nxS T n c) (cs ++ l) W o s'
      rw [hl, ← List.append_assoc cs]
      exact q2
theorem R_truthB {d : Nat} {up : Option (Cur → PR)} (h6 : d = 0 ↔ up = none) (hu : ∀ p, up = some p → TrOK T n K (d - 1) p ∧ SB n p ∧ OrOK T n K (d - 1) (testP T n p)) : TrOK T n K d (truthB T n (sumT T n true d) up) := by
  intro F2 c cs W o s ho h f2 hT
  have hn := h.nb
  have hsz := h.2.2.2.2
  obtain ⟨F2, rfl⟩ := nx2 f2 hn.2.1
  have ho6 := h.2.2.1.2.2.1.2
  unfold truthB
  cases e29 : isWL T n c (WDl 29) with
  | true =>
    rw [if_pos rfl]
    have hwb := wd_b (isWL_W e29) hn.1 hn.2.1
    obtain ⟨P1, -⟩ := Q_not (K := K) (F := F2 + 1) h e29
    obtain ⟨-, P2⟩ := Q_not (K := K) (F := F2) h e29
    cases up with
    | none => exact P2 (by have := h6.mpr rfl; omega)
    | some p =>
      have hd : ¬ d = 0 := fun x => by have := h6.mp x; cases this
      obtain ⟨hp, hB, -⟩ := hu p rfl
      obtain ⟨s1, q1, q2, q3⟩ := P1 (by omega)
      rw [q1]
      show TrR T n K cs W o _ s (sq (p (nxW T n c)) (fun l c => .ok (l ++ [12], c)))
      have hs := hp (F2 + 1) (nxW T n c) cs (W ++ [12]) (o + 1) s1 (by omega) q2 (fu_m f2 hwb.1) (Or.inr (by rw [tp_c]; omega))
      cases e : p (nxW T n c) with
      | error x => rw [e] at hs; exact BTr.tr q3 hs
      | ok a =>
        rw [e] at hs
        obtain ⟨F4, F3', F2', X, s2, w1, w2, ⟨w3, w4, w5⟩, w6, w7⟩ := hs
        rw [w1]
        rw [ln1] at w5
        obtain ⟨F4, rfl⟩ : ∃ F, F4 = F + 1 := ⟨F4 - 1, by omega⟩
        obtain ⟨s3, v1, v2, v3⟩ := N_pop (F := F4) w6 ho6.1
        rw [v1]
        refine ⟨F4, F3', F2', X, s3, rfl, w2, ⟨w3, w4, by omega⟩, ?_, (q3.tr w7).tr v3⟩
        show MZ T n true 0 a.2 (cs ++ (a.1 ++ [12])) W o s3
        rw [← List.append_assoc]
        exact v2
  | false =>
    rw [if_neg (show ¬ (false = true) from by decide)]
    cases e91 : isSg T n c 91 with
    | true =>
      rw [if_pos rfl]
      have hsb := sg_b e91 hn.1 hn.2.1
      obtain ⟨P1, -⟩ := Q_open (K := K) (F := F2 + 1) h e91
      obtain ⟨-, P2⟩ := Q_open (K := K) (F := F2) h e91
      cases up with
      | none => exact P2 (by have := h6.mpr rfl; omega)
      | some p =>
        have hd : ¬ d = 0 := fun x => by have := h6.mp x; cases this
        obtain ⟨-, -, hS⟩ := hu p rfl
        obtain ⟨s1, q1, q2, q3⟩ := P1 (by omega)
        rw [q1]
        show TrR T n K cs W o _ s (sq (testP T n p (nxS T n c)) (fun l c => clS T n 93 l c))
        have hs := hS (F2 + 1) (nxS T n c) cs (W ++ [25]) (o + 1) s1 (by omega) q2 (fu_m f2 hsb.1) (Or.inr (by rw [tp_c]))
        cases e : testP T n p (nxS T n c) with
        | error x => rw [e] at hs; exact BTr.tr q3 hs
        | ok a =>
          rw [e] at hs
          obtain ⟨F3', F2', s2, lm, M, w1, ⟨w2, w3⟩, w4, w5, w6, w7, w8⟩ := hs
          rw [w1]
          exact TrR.tr (q3.tr w8) (R_closeT (K := K) (o := o) (l := a.1) w4 w5 w6 ho6.1 w7 w2 w3)
    | false =>
      rw [if_neg (show ¬ (false = true) from by decide)]
      obtain ⟨s1, q1, q2⟩ := Q_fact (K := K) (F := F2 + 1) h e91 e29 ho hT
      show TrR T n K cs W o _ s (factS T n d c)
      cases e : factS T n d c with
      | error x =>
        rw [e] at q2
        exact ⟨s1, q2.1 F2 rfl, q2.2, q1⟩
      | ok a =>
        rw [e] at q2
        obtain ⟨p1, p2⟩ := (q2 : TM K (F2 + 1 + 1) s = (f_X10_qDropsNots s1).bind (G1t K (F2 + 1)) ∧ MZ T n true 0 a.2 (cs ++ a.1) W o s1)
        refine TrR.mk p1 ?_ p2 q1
        have hc : c.1 < a.2.1 := by
          have hr := truthB_b (T := T) (n := n) (sumT_b (T := T) (n := n) (m := true) d) (up := none) (fun p hp => by cases hp) c hn.1 hn.2.1
          unfold truthB at hr
          rw [e29, e91, if_neg (show ¬ (false = true) from by decide), if_neg (show ¬ (false = true) from by decide)] at hr
          have hr : SR n c c.1 (factS T n d c) := hr
          rw [e] at hr
          exact hr.2.1
        exact fu_m f2 hc
theorem R_truth : ∀ d : Nat, TrOK T n K d (truthD T n d)
  | 0 => R_truthB (up := none) ⟨fun _ => rfl, fun _ => rfl⟩ (fun p hp => by cases hp)
  | d + 1 => R_truthB (up := some (truthD T n d)) ⟨fun x => by omega, fun x => by cases x⟩ (fun p hp => by
    cases hp
    have hb := truthD_b (T := T) (n := n) d
    exact ⟨R_truth d, hb, R_or (R_and (R_truth d) hb) (andD_b hb)⟩)
theorem R_testT (d : Nat) : OrOK T n K d (testT T n d) := R_or (R_and (R_truth d) (truthD_b d)) (andD_b (truthD_b d))
/-- the reference reads a TEST -/
theorem m_qTest {c : Cur} {s : ST} (h : MZ T n true 0 c [] [] 0 s) : ∃ s', f_X10_qTest s = some s' ∧ RQf s s' ∧ RQ (testT T n 6 c) (fun a => MZ T n true 0 a.2 a.1 [] 0 s') (fun k q => RB k q s') := by
  have hn := h.nb
  have hS := R_testT (K := f_X10_qTest_L110 fuel) (T := T) (n := n) 6 fuel c [] [] 0 s (by omega) h (fu_f hn.1 hn.2.2) (Or.inl tp_n)
  have e0 : f_X10_qTest s = TM (f_X10_qTest_L110 fuel) fuel s := rfl
  rw [e0]
  obtain ⟨F, hF⟩ : ∃ F, fuel = F + 1 := ⟨99999, rfl⟩
  cases e : testT T n 6 c with
  | error x =>
    rw [e] at hS
    obtain ⟨s2, q1, q2, q3⟩ := hS
    refine ⟨s2, ?_, q3, q2⟩
    rw [q1, hF, f_X10_qTest_L110, if_neg q2.ne]
  | ok a =>
    rw [e] at hS
    obtain ⟨F3, F2, s2, lm, M, w1, ⟨w2, w3⟩, w4, w5, w6, w7, w8⟩ := hS
    rw [List.nil_append, List.nil_append] at w4
    have hn2 := w4.nb
    obtain ⟨F3, rfl⟩ := fuN w2 hn2.2.1
    obtain ⟨F2, rfl⟩ := fuN w3 hn2.2.1
    have hany : M.reverse.any (fun v => decide (v = 25)) = false := by
      have := any_r (W := []) w6
      rw [List.nil_append] at this
      exact this
    obtain ⟨s3, v1, v2, v3, v4, -⟩ := T_no (F3 := F3) w4 w7.1 w7.2 (Or.inr hany)
    have hsz := v2.2.2.2.2
    rw [List.length_reverse] at hsz
    obtain ⟨s4, u1, u2, u3⟩ := m_t110_L M fuel lm 0 s3 v2.2.2.1 v2.1.b.1 (by omega) (by unfold fuel; omega)
    refine ⟨s4, ?_, (w8.tr v3).tr u3.q, ?_⟩
    · rw [w1, GMt_0 (v4 hany), u1]
    · show MZ T n true 0 a.2 a.1 [] 0 s4
      rw [w5]
      exact v2.w u3 u2 (by show (0 : Int) ≤ 0; omega) (by rw [List.length_append]; show _ + ((0 : Nat) : Int) ≤ _; omega)
