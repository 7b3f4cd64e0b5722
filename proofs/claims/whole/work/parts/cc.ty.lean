/-! L3: what the grammar gives is well-formed -/
def cdP (m : Bool) (v : Int) : Prop := (1000 ≤ v ∧ v ≤ 10999) ∨ (1 ≤ v ∧ v ≤ 6) ∨ (m = false ∧ 40 ≤ v ∧ v ≤ 43) ∨ (m = true ∧ ((43 ≤ v ∧ v ≤ 50) ∨ v = 60 ∨ (7 ≤ v ∧ v ≤ 13)))
theorem tyL_app : ∀ (a b : List Int) (st : List Bool), tyL (a ++ b) st = (tyL a st).bind (tyL b)
  | [], b, st => by
    rw [List.nil_append]
    show tyL b st = (some st).bind (tyL b)
    rw [bnd]
  | x :: a, b, st => by
    show (ty1 x st).bind (tyL (a ++ b)) = ((ty1 x st).bind (tyL a)).bind (tyL b)
    cases e : ty1 x st with
    | none => rfl
    | some y =>
      rw [bnd, bnd]
      exact tyL_app a b y
theorem tyL_1 (x : Int) (st : List Bool) : tyL [x] st = ty1 x st := by
  show (ty1 x st).bind (tyL []) = ty1 x st
  cases ty1 x st with
  | none => rfl
  | some y => rfl
theorem ty_num {v : Int} (h1 : 1000 ≤ v) (h2 : v ≤ 10999) {st : List Bool} (hl : st.length < 60) : ty1 v st = some (false :: st) := by
  unfold ty1
  rw [if_pos h1, if_pos ⟨h2, hl⟩]
theorem ty_fct {v : Int} (h1 : 40 ≤ v) (h2 : v ≤ 50) {st : List Bool} (hl : st.length < 60) : ty1 v st = some (false :: st) := by
  unfold ty1
  rw [if_neg (by omega), if_neg (by omega), if_pos h1, if_pos ⟨h2, hl⟩]
theorem ty_all {st : List Bool} (hl : st.length < 60) : ty1 13 st = some (true :: st) := by
  unfold ty1
  rw [if_neg (by omega), if_neg (by omega), if_neg (by omega), if_pos rfl, if_pos hl]
theorem ty_op {v : Int} (h1 : 1 ≤ v) (h2 : v ≤ 6) (st : List Bool) : ty1 v (false :: false :: st) = some (false :: st) := by
  unfold ty1
  rw [if_neg (by omega), if_neg (by omega), if_neg (by omega), if_neg (by omega), if_neg (by omega), if_pos ⟨h1, h2⟩]
theorem ty_cmp {v : Int} (h1 : 7 ≤ v) (h2 : v ≤ 9) (st : List Bool) : ty1 v (false :: false :: st) = some (true :: st) := by
  unfold ty1
  rw [if_neg (by omega), if_neg (by omega), if_neg (by omega), if_neg (by omega), if_neg (by omega), if_neg (by omega), if_pos ⟨h1, h2⟩]
theorem ty_and {v : Int} (h1 : 10 ≤ v) (h2 : v ≤ 11) (st : List Bool) : ty1 v (true :: true :: st) = some (true :: st) := by
  unfold ty1
  rw [if_neg (by omega), if_neg (by omega), if_neg (by omega), if_neg (by omega), if_neg (by omega), if_neg (by omega), if_neg (by omega), if_pos ⟨h1, h2⟩]
theorem ty_not (st : List Bool) : ty1 12 (true :: st) = some (true :: st) := by
  unfold ty1
  rw [if_neg (by omega), if_neg (by omega), if_neg (by omega), if_neg (by omega), if_pos rfl]
theorem ty_off (st : List Bool) : ty1 60 (false :: st) = some (false :: st) := by
  unfold ty1
  rw [if_neg (by omega), if_pos rfl]
theorem numS_v {T : Int → Int} {n : Int} {c : Cur} {lo hi : Int} {a : Int × Cur} (h : numS T n c lo hi = .ok a) : nmB T n c = true ∧ nmE T n c - frm T n c ≤ 4 ∧ (lo ≤ a.1 ∧ a.1 ≤ hi) ∧ a = (nmV T n c, nxN T n c) := by
  unfold numS at h
  by_cases e1 : nmB T n c = true
  · rw [if_pos e1] at h
    by_cases e2 : nmE T n c - frm T n c ≤ 4
    · rw [if_pos e2] at h
      by_cases e3 : lo ≤ nmV T n c ∧ nmV T n c ≤ hi
      · rw [if_pos e3] at h
        cases h
        exact ⟨e1, e2, e3, rfl⟩
      · rw [if_neg e3] at h
        cases h
    · rw [if_neg e2] at h
      cases h
  · rw [if_neg e1] at h
    cases h
def TW (m : Bool) (D : Nat) (t : Bool) (l : List Int) : Prop := (∀ st : List Bool, st.length + D ≤ 60 → tyL l st = some (t :: st)) ∧ ∀ v ∈ l, cdP m v
def TR (m : Bool) (D : Nat) (t : Bool) (r : PR) : Prop := RQ r (fun a => TW m D t a.1) (fun _ _ => True)
def TP_ (m : Bool) (D : Nat) (t : Bool) (p : Cur → PR) : Prop := ∀ c : Cur, TR m D t (p c)
theorem TW.w {m : Bool} {D D' : Nat} {t : Bool} {l : List Int} (h : TW m D t l) (hd : D ≤ D') : TW m D' t l := ⟨fun st hs => h.1 st (by omega), h.2⟩
theorem TR.w {m : Bool} {D D' : Nat} {t : Bool} {r : PR} (h : TR m D t r) (hd : D ≤ D') : TR m D' t r := RQ.mp h (fun _ _ x => TW.w x hd) (fun _ _ x => x)
theorem TR.sq {m : Bool} {D D' : Nat} {t t' : Bool} {r : PR} (h : TR m D t r) {k : List Int → Cur → PR} (hk : ∀ l c, TW m D t l → TR m D' t' (k l c)) : TR m D' t' (sq r k) := by
  cases r with
  | error x => exact trivial
  | ok a => exact hk a.1 a.2 h
/-- two, and what joins them -/
theorem TW.two {m : Bool} {D1 D2 D : Nat} {t t' : Bool} {l l2 : List Int} {z : Int} (h1 : TW m D1 t l) (h2 : TW m D2 t l2) (hz : ∀ st : List Bool, ty1 z (t :: t :: st) = some (t' :: st)) (hc : cdP m z) (e1 : D1 ≤ D) (e2 : D2 + 1 ≤ D) : TW m D t' (l ++ l2 ++ [z]) := by
  refine ⟨fun st hs => ?_, fun v hv => ?_⟩
  · rw [tyL_app, tyL_app, h1.1 st (by omega), bnd, h2.1 (t :: st) (by rw [List.length_cons]; omega), bnd, tyL_1]
    exact hz st
  · rcases List.mem_append.mp hv with hv | hv
    · rcases List.mem_append.mp hv with hv | hv
      · exact h1.2 v hv
      · exact h2.2 v hv
    · rw [List.mem_singleton.mp hv]; exact hc
theorem TW.one {m : Bool} {D1 : Nat} {t t' : Bool} {l : List Int} {z : Int} (h1 : TW m D1 t l) (hz : ∀ st : List Bool, ty1 z (t :: st) = some (t' :: st)) (hc : cdP m z) : TW m D1 t' (l ++ [z]) := by
  refine ⟨fun st hs => ?_, fun v hv => ?_⟩
  · rw [tyL_app, h1.1 st hs, bnd, tyL_1]
    exact hz st
  · rcases List.mem_append.mp hv with hv | hv
    · exact h1.2 v hv
    · rw [List.mem_singleton.mp hv]; exact hc
variable {T : Int → Int} {n : Int} {m : Bool}
theorem y_prL {D : Nat} {p : Cur → PR} (hp : TP_ m D false p) : ∀ (k : Nat) (l : List Int) (c : Cur), TW m (D + 1) false l → TR m (D + 1) false (prodL T n p k l c)
  | 0, l, c, h => h
  | k + 1, l, c, h => by
    unfold prodL
    split
    · exact TR.sq (hp _) (fun l2 c2 h2 => y_prL hp k _ c2 (TW.two h h2 (fun st => ty_op (by omega) (by omega) st) (Or.inr (Or.inl ⟨by omega, by omega⟩)) (by omega) (by omega)))
    · split
      · exact TR.sq (hp _) (fun l2 c2 h2 => y_prL hp k _ c2 (TW.two h h2 (fun st => ty_op (by omega) (by omega) st) (Or.inr (Or.inl ⟨by omega, by omega⟩)) (by omega) (by omega)))
      · exact h
theorem y_suL {D : Nat} {p : Cur → PR} (hp : TP_ m D false p) : ∀ (k : Nat) (l : List Int) (c : Cur), TW m (D + 1) false l → TR m (D + 1) false (sumL T n p k l c)
  | 0, l, c, h => h
  | k + 1, l, c, h => by
    unfold sumL
    split
    · exact TR.sq (hp _) (fun l2 c2 h2 => y_suL hp k _ c2 (TW.two h h2 (fun st => ty_op (by omega) (by omega) st) (Or.inr (Or.inl ⟨by omega, by omega⟩)) (by omega) (by omega)))
    · split
      · exact TR.sq (hp _) (fun l2 c2 h2 => y_suL hp k _ c2 (TW.two h h2 (fun st => ty_op (by omega) (by omega) st) (Or.inr (Or.inl ⟨by omega, by omega⟩)) (by omega) (by omega)))
      · exact h
theorem y_prod {D : Nat} {p : Cur → PR} (hp : TP_ m D false p) : TP_ m (D + 1) false (prodD T n p) := fun c => TR.sq (hp c) (fun l2 c2 h => y_prL hp 1600 l2 c2 (h.w (by omega)))
theorem y_sum {D : Nat} {p : Cur → PR} (hp : TP_ m D false p) : TP_ m (D + 1) false (sumD T n p) := fun c => TR.sq (hp c) (fun l2 c2 h => y_suL hp 1600 l2 c2 (h.w (by omega)))
theorem y_sumP {D : Nat} {p : Cur → PR} (hp : TP_ m D false p) : TP_ m (D + 2) false (sumP T n p) := y_sum (y_prod hp)
theorem y_clS {D : Nat} {t : Bool} {ch : Int} {l : List Int} {c : Cur} (h : TW m D t l) : TR m D t (clS T n ch l c) := by
  unfold clS
  split
  · exact h
  · exact trivial
theorem y_pair {D : Nat} {k : Int} (k1 : 5 ≤ k) (k2 : k ≤ 6) {up : Option (Cur → PR)} (hu : ∀ p, up = some p → TP_ m D false p) (c : Cur) : TR m (D + 3) false (pairB T n up k c) := by
  unfold pairB
  split
  · cases up with
    | none => exact trivial
    | some p =>
      have hs := y_sumP (T := T) (n := n) (hu p rfl)
      refine TR.sq (hs _) (fun l c h => ?_)
      split
      · exact TR.sq (hs _) (fun l2 c2 h2 => y_clS (TW.two h h2 (fun st => ty_op (by omega) (by omega) st) (Or.inr (Or.inl ⟨by omega, by omega⟩)) (by omega) (by omega)))
      · exact trivial
  · exact trivial
theorem y_part {D D' : Nat} (hD : 1 ≤ D') {up : Option (Cur → PR)} (hu : ∀ p, up = some p → TP_ m D false p ∧ D + 3 ≤ D') : TP_ m D' false (partB T n m up) := by
  intro c
  have hp : ∀ k : Int, 5 ≤ k → k ≤ 6 → ∀ c', TR m D' false (pairB T n up k c') := by
    intro k k1 k2 c'
    cases up with
    | none =>
      unfold pairB
      split <;> exact trivial
    | some p => exact TR.w (y_pair k1 k2 (fun q hq => by cases hq; exact (hu p rfl).1) c') (hu p rfl).2
  unfold partB
  split
  · cases eS : numS T n c 0 9999 with
    | error x => exact trivial
    | ok a =>
      have hv : 0 ≤ a.1 ∧ a.1 ≤ 9999 := (numS_v eS).2.2.1
      refine (show TW m D' false [1000 + a.1] from ⟨fun st hs => ?_, fun v hv' => ?_⟩)
      · rw [tyL_1]; exact ty_num (by omega) (by omega) (by omega)
      · rw [List.mem_singleton.mp hv']; exact Or.inl ⟨by omega, by omega⟩
  · split
    · cases up with
      | none => exact trivial
      | some p =>
        obtain ⟨h1, h2⟩ := hu p rfl
        exact TR.sq (y_sumP h1 _) (fun l c h => y_clS (h.w (by omega)))
    · split
      · exact hp 5 (by omega) (by omega) _
      · split
        · exact hp 6 (by omega) (by omega) _
        · split
          · rename_i hm
            cases up with
            | none => exact trivial
            | some p =>
              obtain ⟨h1, h2⟩ := hu p rfl
              exact TR.sq (h1 _) (fun l c h => (show TW m D' false (l ++ [60]) from (TW.one h ty_off (Or.inr (Or.inr (Or.inr ⟨hm.1, by omega⟩)))).w (by omega)))
          · split
            · rename_i hF
              obtain ⟨p1, -⟩ := qwv_f (T := T) (n := n) (m := m) (c := c)
              obtain ⟨e1, e2, e3, e4, e5⟩ := p1 hF
              rw [e1] at e2 e3 e4 e5
              refine (show TW m D' false [40 + fk (wix T n c)] from ⟨fun st hs => ?_, fun v hv' => ?_⟩)
              · rw [tyL_1]; exact ty_fct (by omega) (by omega) (by omega)
              · rw [List.mem_singleton.mp hv']
                cases m with
                | true => have := e4 rfl; exact Or.inr (Or.inr (Or.inr ⟨rfl, Or.inl ⟨by omega, by omega⟩⟩))
                | false => have := e5 rfl; exact Or.inr (Or.inr (Or.inl ⟨rfl, by omega, by omega⟩))
            · exact trivial
theorem y_parts : ∀ d : Nat, TP_ m (3 * d + 1) false (partD T n m d)
  | 0 => y_part (D := 0) (by omega) (fun p hp => by cases hp)
  | d + 1 => y_part (D := 3 * d + 1) (by omega) (fun p hp => by cases hp; exact ⟨y_parts d, by omega⟩)
theorem y_sumT (d : Nat) : TP_ m (3 * d + 3) false (sumT T n m d) := y_sumP (y_parts d)
theorem y_anL {D : Nat} {p : Cur → PR} (hp : TP_ true D true p) : ∀ (k : Nat) (l : List Int) (c : Cur), TW true (D + 1) true l → TR true (D + 1) true (andL T n p k l c)
  | 0, l, c, h => h
  | k + 1, l, c, h => by
    unfold andL
    split
    · exact TR.sq (hp _) (fun l2 c2 h2 => y_anL hp k _ c2 (TW.two h h2 (fun st => ty_and (by omega) (by omega) st) (Or.inr (Or.inr (Or.inr ⟨rfl, by omega⟩))) (by omega) (by omega)))
    · exact h
theorem y_orL {D : Nat} {p : Cur → PR} (hp : TP_ true D true p) : ∀ (k : Nat) (l : List Int) (c : Cur), TW true (D + 1) true l → TR true (D + 1) true (orL T n p k l c)
  | 0, l, c, h => h
  | k + 1, l, c, h => by
    unfold orL
    split
    · exact TR.sq (hp _) (fun l2 c2 h2 => y_orL hp k _ c2 (TW.two h h2 (fun st => ty_and (by omega) (by omega) st) (Or.inr (Or.inr (Or.inr ⟨rfl, by omega⟩))) (by omega) (by omega)))
    · exact h
theorem y_testP {D : Nat} {p : Cur → PR} (hp : TP_ true D true p) : TP_ true (D + 2) true (testP T n p) := by
  have h1 : TP_ true (D + 1) true (andD T n p) := fun c => TR.sq (hp c) (fun l2 c2 h => y_anL hp 1600 l2 c2 (h.w (by omega)))
  exact fun c => TR.sq (h1 c) (fun l2 c2 h => y_orL h1 1600 l2 c2 (h.w (by omega)))
theorem y_truth {D D' Ds : Nat} {sm : Cur → PR} (hs : TP_ true Ds false sm) (h1 : Ds + 1 ≤ D') (h0 : 1 ≤ D') {up : Option (Cur → PR)} (hu : ∀ p, up = some p → TP_ true D true p ∧ D + 2 ≤ D') : TP_ true D' true (truthB T n sm up) := by
  intro c
  unfold truthB
  split
  · cases up with
    | none => exact trivial
    | some p =>
      obtain ⟨h3, h4⟩ := hu p rfl
      exact TR.sq (h3 _) (fun l c h => (show TW true D' true (l ++ [12]) from (TW.one h ty_not (Or.inr (Or.inr (Or.inr ⟨rfl, by omega⟩)))).w (by omega)))
  · split
    · cases up with
      | none => exact trivial
      | some p =>
        obtain ⟨h3, h4⟩ := hu p rfl
        exact TR.sq (y_testP h3 _) (fun l c h => y_clS (h.w (by omega)))
    · split
      · refine (show TW true D' true [13] from ⟨fun st hs => ?_, fun v hv' => ?_⟩)
        · rw [tyL_1]; exact ty_all (by omega)
        · rw [List.mem_singleton.mp hv']; exact Or.inr (Or.inr (Or.inr ⟨rfl, by omega⟩))
      · refine TR.sq (hs c) (fun l c1 h => ?_)
        have hd : ∀ z : Int, 7 ≤ z → z ≤ 9 → TR true D' true (sq (sm (nxS T n c1)) (fun l2 c2 => .ok (l ++ l2 ++ [z], c2))) := fun z z1 z2 => TR.sq (hs _) (fun l2 c2 h2 => (show TW true D' true (l ++ l2 ++ [z]) from TW.two h h2 (fun st => ty_cmp z1 z2 st) (Or.inr (Or.inr (Or.inr ⟨rfl, by omega⟩))) (by omega) (by omega)))
        unfold cmpB
        split
        · exact hd 7 (by omega) (by omega)
        · split
          · exact hd 8 (by omega) (by omega)
          · split
            · exact hd 9 (by omega) (by omega)
            · exact trivial
theorem y_truths : ∀ d : Nat, TP_ true (3 * d + 4) true (truthD T n d)
  | 0 => y_truth (D := 0) (y_sumT 0) (by omega) (by omega) (fun p hp => by cases hp)
  | d + 1 => y_truth (D := 3 * d + 4) (y_sumT (d + 1)) (by omega) (by omega) (fun p hp => by cases hp; exact ⟨y_truths d, by omega⟩)
theorem y_testT (d : Nat) : TP_ true (3 * d + 6) true (testT T n d) := y_testP (y_truths d)
