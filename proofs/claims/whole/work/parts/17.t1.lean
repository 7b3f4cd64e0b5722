def f_X10_columnOf (p0 : Int32) (s : ST) : Option (Int32 × ST) := gd (ib ((Int32.ofInt 2) + ((Int32.ofInt 2) * p0)) 225) (some ((s.1 112 ((Int32.ofInt 2) + ((Int32.ofInt 2) * p0)).toNatClampNeg), s))
set_option maxHeartbeats 2000000 in
set_option maxRecDepth 20000 in
theorem e_X10_columnOf {l : Launch} {d : Nat} (hd : 1 ≤ d) (p0 : Int32) (s : ST) (r : Int32 × ST) (hf : f_X10_columnOf p0 s = some r) : Cl l d mi_X10_columnOf [.ref 65, .int p0] (hp s) (some (.int r.1), hp r.2) := by
  refine Ev.entry (by decide +kernel) rfl rfl ?_
  show Ev l d mi_X10_columnOf 0 [some (.ref 65), some (.int p0)] [] (hp s) 0 0 _
  unfold f_X10_columnOf at hf
  obtain ⟨c1, hf⟩ := gd_some hf
  refine Ev.blk (pc' := 10) [(.aload_n 0, 0, 0, 0), (.getfield 154, 0, 10, 62), (.iconst 2, 0, 0, 0), (.iconst 2, 0, 0, 0), (.iload_n 1, 0, 0, 0), (.imul, 0, 0, 0), (.iadd, 0, 0, 0), (.iaload, 0, 0, 0)] (by decide +kernel) ⟨kf_10_154, trivial⟩ rfl (And.intro (kc rfl rfl) (Exists.intro 112 (And.intro rfl (And.intro (kc rfl rfl) (And.intro (ib_ok c1) (?_))))))
  show Ev l d mi_X10_columnOf 10 [some (.ref 65), some (.int p0)] [.int (s.1 112 ((Int32.ofInt 2) + ((Int32.ofInt 2) * p0)).toNatClampNeg)] (hp s) 0 0 _
  cases hf
  exact Ev.iret .int rfl rfl (by decide +kernel) (Nat.le_refl _) (Nat.le_refl _)
def f_X10_isTaken (p0 : Int32) (s : ST) : Option (Int32 × ST) := (f_X10_columnOf p0 s).bind (fun q1 => (if q1.1 = (Int32.ofInt (-1)) then some ((Int32.ofInt 1), q1.2) else some ((Int32.ofInt 0), q1.2)))
set_option maxHeartbeats 2000000 in
set_option maxRecDepth 20000 in
theorem e_X10_isTaken {l : Launch} {d : Nat} (hd : 2 ≤ d) (p0 : Int32) (s : ST) (r : Int32 × ST) (hf : f_X10_isTaken p0 s = some r) : Cl l d mi_X10_isTaken [.ref 65, .int p0] (hp s) (some (.int r.1), hp r.2) := by
  refine Ev.entry (by decide +kernel) rfl rfl ?_
  show Ev l d mi_X10_isTaken 0 [some (.ref 65), some (.int p0)] [] (hp s) 0 0 _
  unfold f_X10_isTaken at hf
  refine Ev.blk (pc' := 2) [(.aload_n 0, 0, 0, 0), (.iload_n 1, 0, 0, 0)] (by decide +kernel) trivial rfl (?_)
  show Ev l d mi_X10_isTaken 2 [some (.ref 65), some (.int p0)] [.int p0, .ref 65] (hp s) 0 0 _
  obtain ⟨q1, hq1, hf⟩ := bd_some hf
  refine Ev.callV (o := 65) (M' := mi_X10_columnOf) (d' := d - 1) (As := [.int p0]) (rest := []) (r' := (some (.int q1.1), hp q1.2)) (e_X10_columnOf (d := d - 1) (by omega) p0 s _ hq1) (by omega) wm_X10_columnOf wi_X10_columnOf wv_X10_columnOf km_10_439 (kc rfl rfl) (Nat.le_of_ble_eq_true rfl) rfl rfl rfl (Nat.le_of_ble_eq_true rfl) ⟨Nat.le_of_ble_eq_true rfl, Nat.le_of_ble_eq_true rfl⟩ (by decide +kernel) ?_
  show Ev l d mi_X10_isTaken 5 [some (.ref 65), some (.int p0)] [.int q1.1] (hp q1.2) 0 0 _
  refine Ev.blk (pc' := 6) [(.iconst (-1), 0, 0, 0)] (by decide +kernel) trivial rfl (?_)
  show Ev l d mi_X10_isTaken 6 [some (.ref 65), some (.int p0)] [.int (Int32.ofInt (-1)), .int q1.1] (hp q1.2) 0 0 _
  refine Ev.icmp_ne (off := 7) (tgt := 13) (by decide +kernel) (by decide) (fun b2 => ?_) (fun b2 => ?_)
  · have hf := (if_neg b2).symm.trans hf
    refine Ev.blk (pc' := 14) [(.iconst 0, 0, 0, 0)] (by decide +kernel) trivial rfl (?_)
    show Ev l d mi_X10_isTaken 14 [some (.ref 65), some (.int p0)] [.int (Int32.ofInt 0)] (hp q1.2) 0 0 _
    cases hf
    exact Ev.iret .boolean rfl rfl (by decide +kernel) (Nat.le_refl _) (Nat.le_refl _)
  · have hf := (if_pos b2).symm.trans hf
    refine Ev.blk (pc' := 10) [(.iconst 1, 0, 0, 0)] (by decide +kernel) trivial rfl (?_)
    show Ev l d mi_X10_isTaken 10 [some (.ref 65), some (.int p0)] [.int (Int32.ofInt 1)] (hp q1.2) 0 0 _
    refine Ev.goto (off := 4) (tgt := 14) (by decide +kernel) (by decide) ?_
    cases hf
    exact Ev.iret .boolean rfl rfl (by decide +kernel) (Nat.le_refl _) (Nat.le_refl _)
def f_X10_manMany (s : ST) : Option (Int32 × ST) := gd (ib (Int32.ofInt 4) 6) (some ((s.1 101 (Int32.ofInt 4).toNatClampNeg), s))
set_option maxHeartbeats 2000000 in
set_option maxRecDepth 20000 in
theorem e_X10_manMany {l : Launch} {d : Nat} (hd : 1 ≤ d) (s : ST) (r : Int32 × ST) (hf : f_X10_manMany s = some r) : Cl l d mi_X10_manMany [.ref 65] (hp s) (some (.int r.1), hp r.2) := by
  refine Ev.entry (by decide +kernel) rfl rfl ?_
  show Ev l d mi_X10_manMany 0 [some (.ref 65)] [] (hp s) 0 0 _
  unfold f_X10_manMany at hf
  obtain ⟨c1, hf⟩ := gd_some hf
  refine Ev.blk (pc' := 6) [(.aload_n 0, 0, 0, 0), (.getfield 120, 0, 10, 45), (.iconst 4, 0, 0, 0), (.iaload, 0, 0, 0)] (by decide +kernel) ⟨kf_10_120, trivial⟩ rfl (And.intro (kc rfl rfl) (Exists.intro 101 (And.intro rfl (And.intro (kc rfl rfl) (And.intro (ib_ok c1) (?_))))))
  show Ev l d mi_X10_manMany 6 [some (.ref 65)] [.int (s.1 101 (Int32.ofInt 4).toNatClampNeg)] (hp s) 0 0 _
  cases hf
  exact Ev.iret .int rfl rfl (by decide +kernel) (Nat.le_refl _) (Nat.le_refl _)
def f_X10_rowOf (p0 : Int32) (s : ST) : Option (Int32 × ST) := gd (ib (((Int32.ofInt 2) + ((Int32.ofInt 2) * p0)) + (Int32.ofInt 1)) 225) (some ((s.1 112 (((Int32.ofInt 2) + ((Int32.ofInt 2) * p0)) + (Int32.ofInt 1)).toNatClampNeg), s))
set_option maxHeartbeats 2000000 in
set_option maxRecDepth 20000 in
theorem e_X10_rowOf {l : Launch} {d : Nat} (hd : 1 ≤ d) (p0 : Int32) (s : ST) (r : Int32 × ST) (hf : f_X10_rowOf p0 s = some r) : Cl l d mi_X10_rowOf [.ref 65, .int p0] (hp s) (some (.int r.1), hp r.2) := by
  refine Ev.entry (by decide +kernel) rfl rfl ?_
  show Ev l d mi_X10_rowOf 0 [some (.ref 65), some (.int p0)] [] (hp s) 0 0 _
  unfold f_X10_rowOf at hf
  obtain ⟨c1, hf⟩ := gd_some hf
  refine Ev.blk (pc' := 12) [(.aload_n 0, 0, 0, 0), (.getfield 154, 0, 10, 62), (.iconst 2, 0, 0, 0), (.iconst 2, 0, 0, 0), (.iload_n 1, 0, 0, 0), (.imul, 0, 0, 0), (.iadd, 0, 0, 0), (.iconst 1, 0, 0, 0), (.iadd, 0, 0, 0), (.iaload, 0, 0, 0)] (by decide +kernel) ⟨kf_10_154, trivial⟩ rfl (And.intro (kc rfl rfl) (Exists.intro 112 (And.intro rfl (And.intro (kc rfl rfl) (And.intro (ib_ok c1) (?_))))))
  show Ev l d mi_X10_rowOf 12 [some (.ref 65), some (.int p0)] [.int (s.1 112 (((Int32.ofInt 2) + ((Int32.ofInt 2) * p0)) + (Int32.ofInt 1)).toNatClampNeg)] (hp s) 0 0 _
  cases hf
  exact Ev.iret .int rfl rfl (by decide +kernel) (Nat.le_refl _) (Nat.le_refl _)
def f_X10_manAt_L2 : Nat → Int32 → Int32 → Int32 → ST → Option (Int32 × ST)
  | 0, _, _, _, _ => none
  | n + 1, x1, x2, x3, s => (f_X10_manMany s).bind (fun q1 => (if q1.1 ≤ x3 then some ((Int32.ofInt (-1)), q1.2) else (f_X10_columnOf x3 q1.2).bind (fun q3 => (if q3.1 = x1 then (f_X10_rowOf x3 q3.2).bind (fun q5 => (if q5.1 = x2 then some (x3, q5.2) else (f_X10_manAt_L2 n) x1 x2 (x3 + Int32.ofInt 1) q5.2)) else (f_X10_manAt_L2 n) x1 x2 (x3 + Int32.ofInt 1) q3.2))))
set_option maxHeartbeats 2000000 in
set_option maxRecDepth 20000 in
theorem e_X10_manAt_L2 {l : Launch} {d : Nat} (hd : 2 ≤ d) : ∀ (n : Nat) (x1 : Int32) (x2 : Int32) (x3 : Int32) (s : ST) (r : Int32 × ST), f_X10_manAt_L2 n x1 x2 x3 s = some r → Ev l d mi_X10_manAt 2 [some (.ref 65), some (.int x1), some (.int x2), some (.int x3)] [] (hp s) 0 0 (some (.int r.1), hp r.2) := by
  intro n
  induction n with
  | zero =>
    intro x1 x2 x3 s r hf
    cases hf
  | succ n ih =>
    intro x1 x2 x3 s r hf
    unfold f_X10_manAt_L2 at hf
    refine Ev.blk (pc' := 4) [(.iload_n 3, 0, 0, 0), (.aload_n 0, 0, 0, 0)] (by decide +kernel) trivial rfl (?_)
    show Ev l d mi_X10_manAt 4 [some (.ref 65), some (.int x1), some (.int x2), some (.int x3)] [.ref 65, .int x3] (hp s) 0 0 _
    obtain ⟨q1, hq1, hf⟩ := bd_some hf
    refine Ev.callV (o := 65) (M' := mi_X10_manMany) (d' := d - 1) (As := []) (rest := [.int x3]) (r' := (some (.int q1.1), hp q1.2)) (e_X10_manMany (d := d - 1) (by omega) s _ hq1) (by omega) wm_X10_manMany wi_X10_manMany wv_X10_manMany km_10_433 (kc rfl rfl) (Nat.le_of_ble_eq_true rfl) rfl rfl rfl (Nat.le_of_ble_eq_true rfl) ⟨Nat.le_of_ble_eq_true rfl, Nat.le_of_ble_eq_true rfl⟩ (by decide +kernel) ?_
    show Ev l d mi_X10_manAt 7 [some (.ref 65), some (.int x1), some (.int x2), some (.int x3)] [.int q1.1, .int x3] (hp q1.2) 0 0 _
    refine Ev.icmp_ge (off := 29) (tgt := 36) (by decide +kernel) (by decide) (fun b2 => ?_) (fun b2 => ?_)
    · have hf := (if_pos b2).symm.trans hf
      refine Ev.blk (pc' := 37) [(.iconst (-1), 0, 0, 0)] (by decide +kernel) trivial rfl (?_)
      show Ev l d mi_X10_manAt 37 [some (.ref 65), some (.int x1), some (.int x2), some (.int x3)] [.int (Int32.ofInt (-1))] (hp q1.2) 0 0 _
      cases hf
      exact Ev.iret .int rfl rfl (by decide +kernel) (Nat.le_refl _) (Nat.le_refl _)
    · have hf := (if_neg b2).symm.trans hf
      refine Ev.blk (pc' := 12) [(.aload_n 0, 0, 0, 0), (.iload_n 3, 0, 0, 0)] (by decide +kernel) trivial rfl (?_)
      show Ev l d mi_X10_manAt 12 [some (.ref 65), some (.int x1), some (.int x2), some (.int x3)] [.int x3, .ref 65] (hp q1.2) 0 0 _
      obtain ⟨q3, hq3, hf⟩ := bd_some hf
      refine Ev.callV (o := 65) (M' := mi_X10_columnOf) (d' := d - 1) (As := [.int x3]) (rest := []) (r' := (some (.int q3.1), hp q3.2)) (e_X10_columnOf (d := d - 1) (by omega) x3 q1.2 _ hq3) (by omega) wm_X10_columnOf wi_X10_columnOf wv_X10_columnOf km_10_439 (kc rfl rfl) (Nat.le_of_ble_eq_true rfl) rfl rfl rfl (Nat.le_of_ble_eq_true rfl) ⟨Nat.le_of_ble_eq_true rfl, Nat.le_of_ble_eq_true rfl⟩ (by decide +kernel) ?_
      show Ev l d mi_X10_manAt 15 [some (.ref 65), some (.int x1), some (.int x2), some (.int x3)] [.int q3.1] (hp q3.2) 0 0 _
      refine Ev.blk (pc' := 16) [(.iload_n 1, 0, 0, 0)] (by decide +kernel) trivial rfl (?_)
      show Ev l d mi_X10_manAt 16 [some (.ref 65), some (.int x1), some (.int x2), some (.int x3)] [.int x1, .int q3.1] (hp q3.2) 0 0 _
      refine Ev.icmp_ne (off := 14) (tgt := 30) (by decide +kernel) (by decide) (fun b4 => ?_) (fun b4 => ?_)
      · have hf := (if_neg b4).symm.trans hf
        refine Ev.blk (pc' := 33) [(.iinc 3 1, 0, 0, 0)] (by decide +kernel) trivial rfl (And.intro (Nat.le_of_ble_eq_true rfl) (?_))
        show Ev l d mi_X10_manAt 33 [some (.ref 65), some (.int x1), some (.int x2), some (.int (x3 + Int32.ofInt 1))] [] (hp q3.2) 0 0 _
        refine Ev.goto (off := -31) (tgt := 2) (by decide +kernel) (by decide) ?_
        exact ih x1 x2 (x3 + Int32.ofInt 1) q3.2 _ hf
      · have hf := (if_pos b4).symm.trans hf
        refine Ev.blk (pc' := 21) [(.aload_n 0, 0, 0, 0), (.iload_n 3, 0, 0, 0)] (by decide +kernel) trivial rfl (?_)
        show Ev l d mi_X10_manAt 21 [some (.ref 65), some (.int x1), some (.int x2), some (.int x3)] [.int x3, .ref 65] (hp q3.2) 0 0 _
        obtain ⟨q5, hq5, hf⟩ := bd_some hf
        refine Ev.callV (o := 65) (M' := mi_X10_rowOf) (d' := d - 1) (As := [.int x3]) (rest := []) (r' := (some (.int q5.1), hp q5.2)) (e_X10_rowOf (d := d - 1) (by omega) x3 q3.2 _ hq5) (by omega) wm_X10_rowOf wi_X10_rowOf wv_X10_rowOf km_10_446 (kc rfl rfl) (Nat.le_of_ble_eq_true rfl) rfl rfl rfl (Nat.le_of_ble_eq_true rfl) ⟨Nat.le_of_ble_eq_true rfl, Nat.le_of_ble_eq_true rfl⟩ (by decide +kernel) ?_
        show Ev l d mi_X10_manAt 24 [some (.ref 65), some (.int x1), some (.int x2), some (.int x3)] [.int q5.1] (hp q5.2) 0 0 _
        refine Ev.blk (pc' := 25) [(.iload_n 2, 0, 0, 0)] (by decide +kernel) trivial rfl (?_)
        show Ev l d mi_X10_manAt 25 [some (.ref 65), some (.int x1), some (.int x2), some (.int x3)] [.int x2, .int q5.1] (hp q5.2) 0 0 _
        refine Ev.icmp_ne (off := 5) (tgt := 30) (by decide +kernel) (by decide) (fun b6 => ?_) (fun b6 => ?_)
        · have hf := (if_neg b6).symm.trans hf
          refine Ev.blk (pc' := 33) [(.iinc 3 1, 0, 0, 0)] (by decide +kernel) trivial rfl (And.intro (Nat.le_of_ble_eq_true rfl) (?_))
          show Ev l d mi_X10_manAt 33 [some (.ref 65), some (.int x1), some (.int x2), some (.int (x3 + Int32.ofInt 1))] [] (hp q5.2) 0 0 _
          refine Ev.goto (off := -31) (tgt := 2) (by decide +kernel) (by decide) ?_
          exact ih x1 x2 (x3 + Int32.ofInt 1) q5.2 _ hf
        · have hf := (if_pos b6).symm.trans hf
          refine Ev.blk (pc' := 29) [(.iload_n 3, 0, 0, 0)] (by decide +kernel) trivial rfl (?_)
          show Ev l d mi_X10_manAt 29 [some (.ref 65), some (.int x1), some (.int x2), some (.int x3)] [.int x3] (hp q5.2) 0 0 _
          cases hf
          exact Ev.iret .int rfl rfl (by decide +kernel) (Nat.le_refl _) (Nat.le_refl _)
def f_X10_manAt (p0 : Int32) (p1 : Int32) (s : ST) : Option (Int32 × ST) := (f_X10_manAt_L2 fuel) p0 p1 (Int32.ofInt 0) s
set_option maxHeartbeats 2000000 in
set_option maxRecDepth 20000 in
theorem e_X10_manAt {l : Launch} {d : Nat} (hd : 2 ≤ d) (p0 : Int32) (p1 : Int32) (s : ST) (r : Int32 × ST) (hf : f_X10_manAt p0 p1 s = some r) : Cl l d mi_X10_manAt [.ref 65, .int p0, .int p1] (hp s) (some (.int r.1), hp r.2) := by
  refine Ev.entry (by decide +kernel) rfl rfl ?_
  show Ev l d mi_X10_manAt 0 [some (.ref 65), some (.int p0), some (.int p1), none] [] (hp s) 0 0 _
  unfold f_X10_manAt at hf
  refine Ev.blk (pc' := 2) [(.iconst 0, 0, 0, 0), (.istore_n 3, 0, 0, 0)] (by decide +kernel) trivial rfl (And.intro (Nat.le_of_ble_eq_true rfl) (?_))
  show Ev l d mi_X10_manAt 2 [some (.ref 65), some (.int p0), some (.int p1), some (.int (Int32.ofInt 0))] [] (hp s) 0 0 _
  exact (e_X10_manAt_L2 hd fuel) p0 p1 (Int32.ofInt 0) s _ hf
