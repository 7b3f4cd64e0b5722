/-! L3: SUMS and TESTS: the grammar, and the class's composer -/
abbrev PR : Type := Except (Int × Int) (List Int × Cur)
def sq (r : PR) (k : List Int → Cur → PR) : PR :=
  match r with
  | .ok a => k a.1 a.2
  | .error e => .error e
section GR
variable (T : Int → Int) (n : Int)
def prodL (p : Cur → PR) : Nat → List Int → Cur → PR
  | 0, l, c => .ok (l, c)
  | k + 1, l, c => if isSg T n c 42 = true then sq (p (nxS T n c)) (fun l2 c2 => prodL p k (l ++ l2 ++ [3]) c2) else if isSg T n c 47 = true then sq (p (nxS T n c)) (fun l2 c2 => prodL p k (l ++ l2 ++ [4]) c2) else .ok (l, c)
def prodD (p : Cur → PR) (c : Cur) : PR := sq (p c) (fun l c => prodL T n p 1600 l c)
def sumL (p : Cur → PR) : Nat → List Int → Cur → PR
  | 0, l, c => .ok (l, c)
  | k + 1, l, c => if isSg T n c 43 = true then sq (p (nxS T n c)) (fun l2 c2 => sumL p k (l ++ l2 ++ [1]) c2) else if isSg T n c 45 = true then sq (p (nxS T n c)) (fun l2 c2 => sumL p k (l ++ l2 ++ [2]) c2) else .ok (l, c)
def sumD (p : Cur → PR) (c : Cur) : PR := sq (p c) (fun l c => sumL T n p 1600 l c)
def clS (ch : Int) (l : List Int) (c : Cur) : PR := if isSg T n c ch = true then .ok (l, nxS T n c) else .error (1, frm T n c)
def sumP (p : Cur → PR) : Cur → PR := sumD T n (prodD T n p)
def pairB (up : Option (Cur → PR)) (k : Int) (c : Cur) : PR := if isSg T n c 40 = true then (match up with
    | none => .error (4, frm T n c)
    | some p => sq (sumP T n p (nxS T n c)) (fun l c => if isSg T n c 44 = true then sq (sumP T n p (nxS T n c)) (fun l2 c2 => clS T n 41 (l ++ l2 ++ [k]) c2) else .error (1, frm T n c))) else .error (1, frm T n c)
def isF (m : Bool) (w : Int) : Bool := if m = true then decide ((21 ≤ w ∧ w ≤ 26) ∨ w = 7 ∨ w = 6) else decide (18 ≤ w ∧ w ≤ 21)
def fk (w : Int) : Int := if w = 7 then 8 else if w = 6 then 9 else if w = 26 then 10 else w - 18
def partB (m : Bool) (up : Option (Cur → PR)) (c : Cur) : PR :=
  if nmB T n c = true then (match numS T n c 0 9999 with
    | .ok a => .ok ([1000 + a.1], a.2)
    | .error e => .error e)
  else if isSg T n c 40 = true then (match up with
    | none => .error (4, frm T n c)
    | some p => sq (sumP T n p (nxS T n c)) (fun l c => clS T n 41 l c))
  else if isWL T n c (WDl 31) = true then pairB T n up 5 (nxW T n c)
  else if isWL T n c (WDl 32) = true then pairB T n up 6 (nxW T n c)
  else if m = true ∧ isWL T n c (WDl 20) = true then (match up with
    | none => .error (4, frm T n c)
    | some p => sq (p (nxW T n c)) (fun l c => .ok (l ++ [60], c)))
  else if isW T n c = true ∧ isF m (wix T n c) = true then .ok ([40 + fk (wix T n c)], nxW T n c)
  else .error (1, frm T n c)
def partD (m : Bool) : Nat → Cur → PR
  | 0 => partB T n m none
  | d + 1 => partB T n m (some (partD m d))
def sumT (m : Bool) (d : Nat) : Cur → PR := sumP T n (partD T n m d)
def andL (p : Cur → PR) : Nat → List Int → Cur → PR
  | 0, l, c => .ok (l, c)
  | k + 1, l, c => if isWL T n c (WDl 28) = true then sq (p (nxW T n c)) (fun l2 c2 => andL p k (l ++ l2 ++ [10]) c2) else .ok (l, c)
def andD (p : Cur → PR) (c : Cur) : PR := sq (p c) (fun l c => andL T n p 1600 l c)
def orL (p : Cur → PR) : Nat → List Int → Cur → PR
  | 0, l, c => .ok (l, c)
  | k + 1, l, c => if isWL T n c (WDl 27) = true then sq (p (nxW T n c)) (fun l2 c2 => orL p k (l ++ l2 ++ [11]) c2) else .ok (l, c)
def orD (p : Cur → PR) (c : Cur) : PR := sq (p c) (fun l c => orL T n p 1600 l c)
def testP (p : Cur → PR) : Cur → PR := orD T n (andD T n p)
def cmpB (sm : Cur → PR) (l : List Int) (c : Cur) : PR := if isSg T n c 60 = true then sq (sm (nxS T n c)) (fun l2 c2 => .ok (l ++ l2 ++ [7], c2)) else if isSg T n c 62 = true then sq (sm (nxS T n c)) (fun l2 c2 => .ok (l ++ l2 ++ [8], c2)) else if isSg T n c 61 = true then sq (sm (nxS T n c)) (fun l2 c2 => .ok (l ++ l2 ++ [9], c2)) else .error (1, frm T n c)
def truthB (sm : Cur → PR) (up : Option (Cur → PR)) (c : Cur) : PR :=
  if isWL T n c (WDl 29) = true then (match up with
    | none => .error (4, frm T n c)
    | some p => sq (p (nxW T n c)) (fun l c => .ok (l ++ [12], c)))
  else if isSg T n c 91 = true then (match up with
    | none => .error (4, frm T n c)
    | some p => sq (testP T n p (nxS T n c)) (fun l c => clS T n 93 l c))
  else if isWL T n c (WDl 30) = true then .ok ([13], nxW T n c)
  else sq (sm c) (fun l c => cmpB T n sm l c)
def truthD : Nat → Cur → PR
  | 0 => truthB T n (sumT T n true 0) none
  | d + 1 => truthB T n (sumT T n true (d + 1)) (some (truthD d))
def testT (d : Nat) : Cur → PR := testP T n (truthD T n d)
/-! every code has its place on the tape -/
def SR (c : Cur) (a : Int) (r : PR) : Prop := RQ r (fun x => a + x.1.length ≤ x.2.1 ∧ c.1 < x.2.1 ∧ x.2.1 ≤ n) (fun _ _ => True)
def SB (p : Cur → PR) : Prop := ∀ c : Cur, 0 ≤ c.1 → c.1 ≤ n → SR n c c.1 (p c)
end GR
theorem SR.ok {n : Int} {c : Cur} {a : Int} {l : List Int} {c2 : Cur} (h1 : a + (l.length : Int) ≤ c2.1) (h2 : c.1 < c2.1) (h3 : c2.1 ≤ n) : SR n c a (.ok (l, c2)) := ⟨h1, h2, h3⟩
theorem sq_ok {a : List Int × Cur} {k : List Int → Cur → PR} : sq (.ok a) k = k a.1 a.2 := rfl
theorem sq_er {e : Int × Int} {k : List Int → Cur → PR} : sq (.error e) k = .error e := rfl
theorem SR.sq {n : Int} {c : Cur} {a : Int} {p : Cur → PR} (hp : SB n p) {c1 : Cur} (c0 : 0 ≤ c1.1) (cn : c1.1 ≤ n) {k : List Int → Cur → PR} (hk : ∀ l2 c2, c1.1 + (l2.length : Int) ≤ c2.1 → c1.1 < c2.1 → c2.1 ≤ n → SR n c a (k l2 c2)) : SR n c a (sq (p c1) k) := by
  have h := hp c1 c0 cn
  cases e : p c1 with
  | error x => exact trivial
  | ok x =>
    rw [e] at h
    obtain ⟨h1, h2, h3⟩ := (h : c1.1 + x.1.length ≤ x.2.1 ∧ c1.1 < x.2.1 ∧ x.2.1 ≤ n)
    exact hk x.1 x.2 h1 h2 h3
theorem sg_b {T : Int → Int} {n : Int} {c : Cur} {ch : Int} (h : isSg T n c ch = true) (c0 : 0 ≤ c.1) (cn : c.1 ≤ n) : c.1 < (nxS T n c).1 ∧ (nxS T n c).1 ≤ n := by
  unfold isSg at h
  rw [Bool.and_eq_true, decide_eq_true_iff] at h
  have := frm_b (T := T) c0 cn
  show c.1 < frm T n c + 1 ∧ frm T n c + 1 ≤ n
  omega
theorem wd_b {T : Int → Int} {n : Int} {c : Cur} (h : isW T n c = true) (c0 : 0 ≤ c.1) (cn : c.1 ≤ n) : c.1 < (nxW T n c).1 ∧ (nxW T n c).1 ≤ n := by
  have := nm_ty h cn
  have := frm_b (T := T) c0 cn
  show c.1 < sk isL T n (frm T n c) ∧ sk isL T n (frm T n c) ≤ n
  omega
theorem prodL_b {T : Int → Int} {n : Int} {p : Cur → PR} (hp : SB n p) (c : Cur) (a : Int) : ∀ (k : Nat) (l : List Int) (c1 : Cur), 0 ≤ c1.1 → c1.1 ≤ n → a + (l.length : Int) ≤ c1.1 → c.1 < c1.1 → SR n c a (prodL T n p k l c1)
  | 0, l, c1, c0, cn, hl, hc => ⟨hl, hc, cn⟩
  | k + 1, l, c1, c0, cn, hl, hc => by
    have hd : ∀ z : Int, isSg T n c1 42 = true ∨ isSg T n c1 47 = true → SR n c a (sq (p (nxS T n c1)) (fun l2 c2 => prodL T n p k (l ++ l2 ++ [z]) c2)) := by
      intro z hs
      have hb : c1.1 < (nxS T n c1).1 ∧ (nxS T n c1).1 ≤ n := by
        rcases hs with hs | hs
        · exact sg_b hs c0 cn
        · exact sg_b hs c0 cn
      refine SR.sq hp (by omega) hb.2 (fun l2 c2 h1 h2 h3 => prodL_b hp c a k _ c2 (by omega) h3 ?_ (by omega))
      rw [List.length_append, List.length_append, List.length_singleton]
      omega
    unfold prodL
    split
    · exact hd 3 (Or.inl (by assumption))
    · split
      · exact hd 4 (Or.inr (by assumption))
      · exact ⟨hl, hc, cn⟩
theorem sumL_b {T : Int → Int} {n : Int} {p : Cur → PR} (hp : SB n p) (c : Cur) (a : Int) : ∀ (k : Nat) (l : List Int) (c1 : Cur), 0 ≤ c1.1 → c1.1 ≤ n → a + (l.length : Int) ≤ c1.1 → c.1 < c1.1 → SR n c a (sumL T n p k l c1)
  | 0, l, c1, c0, cn, hl, hc => ⟨hl, hc, cn⟩
  | k + 1, l, c1, c0, cn, hl, hc => by
    have hd : ∀ z : Int, isSg T n c1 43 = true ∨ isSg T n c1 45 = true → SR n c a (sq (p (nxS T n c1)) (fun l2 c2 => sumL T n p k (l ++ l2 ++ [z]) c2)) := by
      intro z hs
      have hb : c1.1 < (nxS T n c1).1 ∧ (nxS T n c1).1 ≤ n := by
        rcases hs with hs | hs
        · exact sg_b hs c0 cn
        · exact sg_b hs c0 cn
      refine SR.sq hp (by omega) hb.2 (fun l2 c2 h1 h2 h3 => sumL_b hp c a k _ c2 (by omega) h3 ?_ (by omega))
      rw [List.length_append, List.length_append, List.length_singleton]
      omega
    unfold sumL
    split
    · exact hd 1 (Or.inl (by assumption))
    · split
      · exact hd 2 (Or.inr (by assumption))
      · exact ⟨hl, hc, cn⟩
theorem prodD_b {T : Int → Int} {n : Int} {p : Cur → PR} (hp : SB n p) : SB n (prodD T n p) := fun c c0 cn => SR.sq hp c0 cn (fun l2 c2 h1 h2 h3 => prodL_b hp c c.1 1600 l2 c2 (by omega) h3 h1 h2)
theorem sumD_b {T : Int → Int} {n : Int} {p : Cur → PR} (hp : SB n p) : SB n (sumD T n p) := fun c c0 cn => SR.sq hp c0 cn (fun l2 c2 h1 h2 h3 => sumL_b hp c c.1 1600 l2 c2 (by omega) h3 h1 h2)
theorem sumP_b {T : Int → Int} {n : Int} {p : Cur → PR} (hp : SB n p) : SB n (sumP T n p) := sumD_b (prodD_b hp)
theorem clS_b {T : Int → Int} {n : Int} {c : Cur} {a ch : Int} {l : List Int} {c1 : Cur} (c0 : 0 ≤ c1.1) (cn : c1.1 ≤ n) (hl : a + (l.length : Int) ≤ c1.1 + 1) (hc : c.1 < c1.1) : SR n c a (clS T n ch l c1) := by
  unfold clS
  split
  · rename_i h
    have := sg_b h c0 cn
    exact SR.ok (by omega) (by omega) this.2
  · exact trivial
theorem pairB_b {T : Int → Int} {n : Int} {c : Cur} {k : Int} {up : Option (Cur → PR)} (hu : ∀ p, up = some p → SB n p) {c1 : Cur} (c0 : 0 ≤ c.1) (h1 : c.1 < c1.1) (cn : c1.1 ≤ n) : SR n c c.1 (pairB T n up k c1) := by
  unfold pairB
  split
  · rename_i h
    have hs := sg_b h (by omega) cn
    cases up with
    | none => exact trivial
    | some p =>
      have hp := sumP_b (T := T) (hu p rfl)
      refine SR.sq hp (by omega) hs.2 (fun l2 c2 a1 a2 a3 => ?_)
      split
      · rename_i h2
        have hs2 := sg_b h2 (by omega) a3
        refine SR.sq hp (by omega) hs2.2 (fun l3 c3 b1 b2 b3 => clS_b (by omega) b3 ?_ (by omega))
        rw [List.length_append, List.length_append, List.length_singleton]
        omega
      · exact trivial
  · exact trivial
theorem partB_b {T : Int → Int} {n : Int} {m : Bool} {up : Option (Cur → PR)} (hu : ∀ p, up = some p → SB n p) : SB n (partB T n m up) := by
  intro c c0 cn
  have hf := frm_b (T := T) c0 cn
  unfold partB
  split
  · rename_i h
    have hE := nmE_b h cn
    unfold numS
    rw [if_pos h]
    by_cases x1 : nmE T n c - frm T n c ≤ 4
    · rw [if_pos x1]
      by_cases x2 : 0 ≤ nmV T n c ∧ nmV T n c ≤ 9999
      · rw [if_pos x2]
        have y1 : c.1 + 1 ≤ nmE T n c := by omega
        have y2 : c.1 < nmE T n c := by omega
        exact SR.ok (l := [1000 + nmV T n c]) (c2 := nxN T n c) y1 y2 hE.2.1
      · rw [if_neg x2]
        exact trivial
    · rw [if_neg x1]
      exact trivial
  · split
    · rename_i h
      have hs := sg_b h c0 cn
      cases up with
      | none => exact trivial
      | some p => exact SR.sq (sumP_b (hu p rfl)) (by omega) hs.2 (fun l2 c2 a1 a2 a3 => clS_b (by omega) a3 (by omega) (by omega))
    · split
      · rename_i h
        have hs := wd_b (isWL_W h) c0 cn
        exact pairB_b hu c0 hs.1 hs.2
      · split
        · rename_i h
          have hs := wd_b (isWL_W h) c0 cn
          exact pairB_b hu c0 hs.1 hs.2
        · split
          · rename_i h
            have hs := wd_b (isWL_W h.2) c0 cn
            cases up with
            | none => exact trivial
            | some p =>
              refine SR.sq (hu p rfl) (by omega) hs.2 (fun l2 c2 a1 a2 a3 => SR.ok ?_ (by omega) a3)
              show c.1 + ((l2 ++ [60]).length : Int) ≤ c2.1
              rw [List.length_append, List.length_singleton]
              omega
          · split
            · rename_i h
              have hs := wd_b h.1 c0 cn
              have y1 : c.1 + 1 ≤ (nxW T n c).1 := by omega
              exact SR.ok (l := [_]) y1 hs.1 hs.2
            · exact trivial
theorem partD_b {T : Int → Int} {n : Int} {m : Bool} : ∀ d : Nat, SB n (partD T n m d)
  | 0 => partB_b (fun p h => by cases h)
  | d + 1 => partB_b (fun p h => by cases h; exact partD_b d)
theorem sumT_b {T : Int → Int} {n : Int} {m : Bool} (d : Nat) : SB n (sumT T n m d) := sumP_b (partD_b d)
theorem andL_b {T : Int → Int} {n : Int} {p : Cur → PR} (hp : SB n p) (c : Cur) (a : Int) : ∀ (k : Nat) (l : List Int) (c1 : Cur), 0 ≤ c1.1 → c1.1 ≤ n → a + (l.length : Int) ≤ c1.1 → c.1 < c1.1 → SR n c a (andL T n p k l c1)
  | 0, l, c1, c0, cn, hl, hc => ⟨hl, hc, cn⟩
  | k + 1, l, c1, c0, cn, hl, hc => by
    unfold andL
    split
    · rename_i h
      have hb := wd_b (isWL_W h) c0 cn
      refine SR.sq hp (by omega) hb.2 (fun l2 c2 h1 h2 h3 => andL_b hp c a k _ c2 (by omega) h3 ?_ (by omega))
      rw [List.length_append, List.length_append, List.length_singleton]
      omega
    · exact ⟨hl, hc, cn⟩
theorem orL_b {T : Int → Int} {n : Int} {p : Cur → PR} (hp : SB n p) (c : Cur) (a : Int) : ∀ (k : Nat) (l : List Int) (c1 : Cur), 0 ≤ c1.1 → c1.1 ≤ n → a + (l.length : Int) ≤ c1.1 → c.1 < c1.1 → SR n c a (orL T n p k l c1)
  | 0, l, c1, c0, cn, hl, hc => ⟨hl, hc, cn⟩
  | k + 1, l, c1, c0, cn, hl, hc => by
    unfold orL
    split
    · rename_i h
      have hb := wd_b (isWL_W h) c0 cn
      refine SR.sq hp (by omega) hb.2 (fun l2 c2 h1 h2 h3 => orL_b hp c a k _ c2 (by omega) h3 ?_ (by omega))
      rw [List.length_append, List.length_append, List.length_singleton]
      omega
    · exact ⟨hl, hc, cn⟩
theorem andD_b {T : Int → Int} {n : Int} {p : Cur → PR} (hp : SB n p) : SB n (andD T n p) := fun c c0 cn => SR.sq hp c0 cn (fun l2 c2 h1 h2 h3 => andL_b hp c c.1 1600 l2 c2 (by omega) h3 h1 h2)
theorem orD_b {T : Int → Int} {n : Int} {p : Cur → PR} (hp : SB n p) : SB n (orD T n p) := fun c c0 cn => SR.sq hp c0 cn (fun l2 c2 h1 h2 h3 => orL_b hp c c.1 1600 l2 c2 (by omega) h3 h1 h2)
theorem testP_b {T : Int → Int} {n : Int} {p : Cur → PR} (hp : SB n p) : SB n (testP T n p) := orD_b (andD_b hp)
theorem truthB_b {T : Int → Int} {n : Int} {sm : Cur → PR} (hs : SB n sm) {up : Option (Cur → PR)} (hu : ∀ p, up = some p → SB n p) : SB n (truthB T n sm up) := by
  intro c c0 cn
  unfold truthB
  split
  · rename_i h
    have hb := wd_b (isWL_W h) c0 cn
    cases up with
    | none => exact trivial
    | some p =>
      refine SR.sq (hu p rfl) (by omega) hb.2 (fun l2 c2 a1 a2 a3 => SR.ok ?_ (by omega) a3)
      show c.1 + ((l2 ++ [12]).length : Int) ≤ c2.1
      rw [List.length_append, List.length_singleton]
      omega
  · split
    · rename_i h
      have hb := sg_b h c0 cn
      cases up with
      | none => exact trivial
      | some p => exact SR.sq (testP_b (hu p rfl)) (by omega) hb.2 (fun l2 c2 a1 a2 a3 => clS_b (by omega) a3 (by omega) (by omega))
    · split
      · rename_i h
        have hb := wd_b (isWL_W h) c0 cn
        have y1 : c.1 + 1 ≤ (nxW T n c).1 := by omega
        exact SR.ok (l := [_]) y1 hb.1 hb.2
      · refine SR.sq hs c0 cn (fun l c1 a1 a2 a3 => ?_)
        have hd : ∀ z ch : Int, isSg T n c1 ch = true → SR n c c.1 (sq (sm (nxS T n c1)) (fun l2 c2 => .ok (l ++ l2 ++ [z], c2))) := by
          intro z ch h
          have hb := sg_b h (by omega) a3
          refine SR.sq hs (by omega) hb.2 (fun l2 c2 b1 b2 b3 => SR.ok ?_ (by omega) b3)
          show c.1 + ((l ++ l2 ++ [z]).length : Int) ≤ c2.1
          rw [List.length_append, List.length_append, List.length_singleton]
          omega
        unfold cmpB
        split
        · exact hd 7 60 (by assumption)
        · split
          · exact hd 8 62 (by assumption)
          · split
            · exact hd 9 61 (by assumption)
            · exact trivial
theorem truthD_b {T : Int → Int} {n : Int} : ∀ d : Nat, SB n (truthD T n d)
  | 0 => truthB_b (sumT_b 0) (fun p h => by cases h)
  | d + 1 => truthB_b (sumT_b (d + 1)) (fun p h => by cases h; exact truthD_b d)
theorem testT_b {T : Int → Int} {n : Int} (d : Nat) : SB n (testT T n d) := testP_b (truthD_b d)
