/-! THE REFERENCE: functions and proofs, by program (wip/gen_model.py): X10_isCrown X10_places X10_manAt X10_abs X10_farOff X10_sign X10_isWayFree X10_canGo X10_movesOf X10_hasMove X10_isCrownTaken X10_isOver X10_does X10_undoes X10_balanceOf X10_value0 X10_value1 X10_value2 X10_value3 X10_valueBy X10_choosesBest X10_chooses X10_movesNow X10_isCheck X10_qClip X10_qFloor X10_qPuts -/
def f_X10_isCrown (p0 : Int32) (s : ST) : Option (Int32 × ST) := (f_X10_kindOf p0 s).bind (fun q1 => gd (ib (((Int8.ofInt 23).toInt32) + ((Int32.ofInt 4) * q1.1)) 40) (lt (q1.2.1 104 (((Int8.ofInt 23).toInt32) + ((Int32.ofInt 4) * q1.1)).toNatClampNeg) (fun v3 => (if v3 = (Int32.ofInt 1) then some ((Int32.ofInt 1), q1.2) else some ((Int32.ofInt 0), q1.2)))))
set_option maxHeartbeats 2000000 in
set_option maxRecDepth 20000 in
theorem e_X10_isCrown {l : Launch} {d : Nat} (hd : 2 ≤ d) (p0 : Int32) (s : ST) (r : Int32 × ST) (hf : f_X10_isCrown p0 s = some r) : Cl l d mi_X10_isCrown [.ref 65, .int p0] (hp s) (some (.int r.1), hp r.2) := by
  refine Ev.entry (by decide +kernel) rfl rfl ?_
  show Ev l d mi_X10_isCrown 0 [some (.ref 65), some (.int p0)] [] (hp s) 0 0 _
  unfold f_X10_isCrown at hf
  refine Ev.blk (pc' := 9) [(.aload_n 0, 0, 0, 0), (.getfield 130, 0, 10, 48), (.bipush 23, 0, 0, 0), (.iconst 4, 0, 0, 0), (.aload_n 0, 0, 0, 0), (.iload_n 1, 0, 0, 0)] (by decide +kernel) ⟨kf_10_130, trivial⟩ rfl (And.intro (kc rfl rfl) (Exists.intro 104 (And.intro rfl (?_))))
  show Ev l d mi_X10_isCrown 9 [some (.ref 65), some (.int p0)] [.int p0, .ref 65, .int (Int32.ofInt 4), .int ((Int8.ofInt 23).toInt32), .ref 104] (hp s) 0 0 _
  obtain ⟨q1, hq1, hf⟩ := bd_some hf
  refine Ev.callV (o := 65) (M' := mi_X10_kindOf) (d' := d - 1) (As := [.int p0]) (rest := [.int (Int32.ofInt 4), .int ((Int8.ofInt 23).toInt32), .ref 104]) (r' := (some (.int q1.1), hp q1.2)) (e_X10_kindOf (d := d - 1) (by omega) p0 s _ hq1) (by omega) wm_X10_kindOf wi_X10_kindOf wv_X10_kindOf km_10_443 (kc rfl rfl) (Nat.le_of_ble_eq_true rfl) rfl rfl rfl (Nat.le_of_ble_eq_true rfl) ⟨Nat.le_of_ble_eq_true rfl, Nat.le_of_ble_eq_true rfl⟩ (by decide +kernel) ?_
  show Ev l d mi_X10_isCrown 12 [some (.ref 65), some (.int p0)] [.int q1.1, .int (Int32.ofInt 4), .int ((Int8.ofInt 23).toInt32), .ref 104] (hp q1.2) 0 0 _
  obtain ⟨c2, hf⟩ := gd_some hf
  obtain ⟨v3, hv3, hf⟩ := lt_some hf
  refine Ev.blk (pc' := 16) [(.imul, 0, 0, 0), (.iadd, 0, 0, 0), (.iaload, 0, 0, 0), (.iconst 1, 0, 0, 0)] (by decide +kernel) trivial rfl (And.intro (kc rfl rfl) (And.intro (ib_ok c2) (?_)))
  show Ev l d mi_X10_isCrown 16 [some (.ref 65), some (.int p0)] [.int (Int32.ofInt 1), .int (q1.2.1 104 (((Int8.ofInt 23).toInt32) + ((Int32.ofInt 4) * q1.1)).toNatClampNeg)] (hp q1.2) 0 0 _
  rw [← hv3]
  refine Ev.icmp_ne (off := 7) (tgt := 23) (by decide +kernel) (by decide) (fun b4 => ?_) (fun b4 => ?_)
  · have hf := (if_neg b4).symm.trans hf
    refine Ev.blk (pc' := 24) [(.iconst 0, 0, 0, 0)] (by decide +kernel) trivial rfl (?_)
    show Ev l d mi_X10_isCrown 24 [some (.ref 65), some (.int p0)] [.int (Int32.ofInt 0)] (hp q1.2) 0 0 _
    cases hf
    exact Ev.iret .boolean rfl rfl (by decide +kernel) (Nat.le_refl _) (Nat.le_refl _)
  · have hf := (if_pos b4).symm.trans hf
    refine Ev.blk (pc' := 20) [(.iconst 1, 0, 0, 0)] (by decide +kernel) trivial rfl (?_)
    show Ev l d mi_X10_isCrown 20 [some (.ref 65), some (.int p0)] [.int (Int32.ofInt 1)] (hp q1.2) 0 0 _
    refine Ev.goto (off := 4) (tgt := 24) (by decide +kernel) (by decide) ?_
    cases hf
    exact Ev.iret .boolean rfl rfl (by decide +kernel) (Nat.le_refl _) (Nat.le_refl _)
def f_X10_places (s : ST) : Option (Int32 × ST) := gd (ib (Int32.ofInt 4) 8) (gd (ib (Int32.ofInt 5) 8) (lt ((s.1 103 (Int32.ofInt 4).toNatClampNeg) * (s.1 103 (Int32.ofInt 5).toNatClampNeg)) (fun v3 => some (v3, s))))
set_option maxHeartbeats 2000000 in
set_option maxRecDepth 20000 in
theorem e_X10_places {l : Launch} {d : Nat} (hd : 1 ≤ d) (s : ST) (r : Int32 × ST) (hf : f_X10_places s = some r) : Cl l d mi_X10_places [.ref 65] (hp s) (some (.int r.1), hp r.2) := by
  refine Ev.entry (by decide +kernel) rfl rfl ?_
  show Ev l d mi_X10_places 0 [some (.ref 65)] [] (hp s) 0 0 _
  unfold f_X10_places at hf
  obtain ⟨c1, hf⟩ := gd_some hf
  obtain ⟨c2, hf⟩ := gd_some hf
  obtain ⟨v3, hv3, hf⟩ := lt_some hf
  refine Ev.blk (pc' := 13) [(.aload_n 0, 0, 0, 0), (.getfield 127, 0, 10, 47), (.iconst 4, 0, 0, 0), (.iaload, 0, 0, 0), (.aload_n 0, 0, 0, 0), (.getfield 127, 0, 10, 47), (.iconst 5, 0, 0, 0), (.iaload, 0, 0, 0), (.imul, 0, 0, 0)] (by decide +kernel) ⟨kf_10_127, ⟨kf_10_127, trivial⟩⟩ rfl (And.intro (kc rfl rfl) (Exists.intro 103 (And.intro rfl (And.intro (kc rfl rfl) (And.intro (ib_ok c1) (And.intro (kc rfl rfl) (Exists.intro 103 (And.intro rfl (And.intro (kc rfl rfl) (And.intro (ib_ok c2) (?_)))))))))))
  show Ev l d mi_X10_places 13 [some (.ref 65)] [.int ((s.1 103 (Int32.ofInt 4).toNatClampNeg) * (s.1 103 (Int32.ofInt 5).toNatClampNeg))] (hp s) 0 0 _
  rw [← hv3]
  cases hf
  exact Ev.iret .int rfl rfl (by decide +kernel) (Nat.le_refl _) (Nat.le_refl _)
def f_X10_manAt_L2 : Nat → Int32 → Int32 → Int32 → ST → Option (Int32 × ST)
  | 0, _, _, _, _ => none
  | n + 1, x1, x2, x3, s => (f_X10_manMany s).bind (fun q1 => (if q1.1 ≤ x3 then some ((Int32.ofInt (-1)), q1.2) else (f_X10_columnOf x3 q1.2).bind (fun q3 => (if q3.1 = x1 then (f_X10_rowOf x3 q3.2).bind (fun q5 => (if q5.1 = x2 then some (x3, q5.2) else (f_X10_manAt_L2 n) x1 x2 (x3 + Int32.ofInt 1) q5.2)) else (f_X10_manAt_L2 n) x1 x2 (x3 + Int32.ofInt 1) q3.2))))
set_option maxHeartbeats 2000000 in
set_option maxRecDepth 20000 in
theorem e_X10_manAt_L2 {l : Launch} {d : Nat} (hd : 2 ≤ d) : ∀ (n : Nat) (x1 : Int32) (x2 : Int32) (x3 : Int32) (s : ST) (r : Int32 × ST), f_X10_manAt_L2 n x1 x2 x3 s = some r → Ev l d mi_X10_manAt 2 [some (.ref 65), some (.int x1), some (.int x2), some (.int x3)] [] (hp s) 0 0 (some (.int r.1), hp r.2) := by
  intro n
  induction n with
  | zero =>
    intro x1 x2 x3 s r hf
    cases hf
  | succ n ih =>
    intro x1 x2 x3 s r hf
    unfold f_X10_manAt_L2 at hf
    refine Ev.blk (pc' := 4) [(.iload_n 3, 0, 0, 0), (.aload_n 0, 0, 0, 0)] (by decide +kernel) trivial rfl (?_)
    show Ev l d mi_X10_manAt 4 [some (.ref 65), some (.int x1), some (.int x2), some (.int x3)] [.ref 65, .int x3] (hp s) 0 0 _
    obtain ⟨q1, hq1, hf⟩ := bd_some hf
    refine Ev.callV (o := 65) (M' := mi_X10_manMany) (d' := d - 1) (As := []) (rest := [.int x3]) (r' := (some (.int q1.1), hp q1.2)) (e_X10_manMany (d := d - 1) (by omega) s _ hq1) (by omega) wm_X10_manMany wi_X10_manMany wv_X10_manMany km_10_433 (kc rfl rfl) (Nat.le_of_ble_eq_true rfl) rfl rfl rfl (Nat.le_of_ble_eq_true rfl) ⟨Nat.le_of_ble_eq_true rfl, Nat.le_of_ble_eq_true rfl⟩ (by decide +kernel) ?_
    show Ev l d mi_X10_manAt 7 [some (.ref 65), some (.int x1), some (.int x2), some (.int x3)] [.int q1.1, .int x3] (hp q1.2) 0 0 _
    refine Ev.icmp_ge (off := 29) (tgt := 36) (by decide +kernel) (by decide) (fun b2 => ?_) (fun b2 => ?_)
    · have hf := (if_pos b2).symm.trans hf
      refine Ev.blk (pc' := 37) [(.iconst (-1), 0, 0, 0)] (by decide +kernel) trivial rfl (?_)
      show Ev l d mi_X10_manAt 37 [some (.ref 65), some (.int x1), some (.int x2), some (.int x3)] [.int (Int32.ofInt (-1))] (hp q1.2) 0 0 _
      cases hf
      exact Ev.iret .int rfl rfl (by decide +kernel) (Nat.le_refl _) (Nat.le_refl _)
    · have hf := (if_neg b2).symm.trans hf
      refine Ev.blk (pc' := 12) [(.aload_n 0, 0, 0, 0), (.iload_n 3, 0, 0, 0)] (by decide +kernel) trivial rfl (?_)
      show Ev l d mi_X10_manAt 12 [some (.ref 65), some (.int x1), some (.int x2), some (.int x3)] [.int x3, .ref 65] (hp q1.2) 0 0 _
      obtain ⟨q3, hq3, hf⟩ := bd_some hf
      refine Ev.callV (o := 65) (M' := mi_X10_columnOf) (d' := d - 1) (As := [.int x3]) (rest := []) (r' := (some (.int q3.1), hp q3.2)) (e_X10_columnOf (d := d - 1) (by omega) x3 q1.2 _ hq3) (by omega) wm_X10_columnOf wi_X10_columnOf wv_X10_columnOf km_10_439 (kc rfl rfl) (Nat.le_of_ble_eq_true rfl) rfl rfl rfl (Nat.le_of_ble_eq_true rfl) ⟨Nat.le_of_ble_eq_true rfl, Nat.le_of_ble_eq_true rfl⟩ (by decide +kernel) ?_
      show Ev l d mi_X10_manAt 15 [some (.ref 65), some (.int x1), some (.int x2), some (.int x3)] [.int q3.1] (hp q3.2) 0 0 _
      refine Ev.blk (pc' := 16) [(.iload_n 1, 0, 0, 0)] (by decide +kernel) trivial rfl (?_)
      show Ev l d mi_X10_manAt 16 [some (.ref 65), some (.int x1), some (.int x2), some (.int x3)] [.int x1, .int q3.1] (hp q3.2) 0 0 _
      refine Ev.icmp_ne (off := 14) (tgt := 30) (by decide +kernel) (by decide) (fun b4 => ?_) (fun b4 => ?_)
      · have hf := (if_neg b4).symm.trans hf
        refine Ev.blk (pc' := 33) [(.iinc 3 1, 0, 0, 0)] (by decide +kernel) trivial rfl (And.intro (Nat.le_of_ble_eq_true rfl) (?_))
        show Ev l d mi_X10_manAt 33 [some (.ref 65), some (.int x1), some (.int x2), some (.int (x3 + Int32.ofInt 1))] [] (hp q3.2) 0 0 _
        refine Ev.goto (off := -31) (tgt := 2) (by decide +kernel) (by decide) ?_
        exact ih x1 x2 (x3 + Int32.ofInt 1) q3.2 _ hf
      · have hf := (if_pos b4).symm.trans hf
        refine Ev.blk (pc' := 21) [(.aload_n 0, 0, 0, 0), (.iload_n 3, 0, 0, 0)] (by decide +kernel) trivial rfl (?_)
        show Ev l d mi_X10_manAt 21 [some (.ref 65), some (.int x1), some (.int x2), some (.int x3)] [.int x3, .ref 65] (hp q3.2) 0 0 _
        obtain ⟨q5, hq5, hf⟩ := bd_some hf
        refine Ev.callV (o := 65) (M' := mi_X10_rowOf) (d' := d - 1) (As := [.int x3]) (rest := []) (r' := (some (.int q5.1), hp q5.2)) (e_X10_rowOf (d := d - 1) (by omega) x3 q3.2 _ hq5) (by omega) wm_X10_rowOf wi_X10_rowOf wv_X10_rowOf km_10_446 (kc rfl rfl) (Nat.le_of_ble_eq_true rfl) rfl rfl rfl (Nat.le_of_ble_eq_true rfl) ⟨Nat.le_of_ble_eq_true rfl, Nat.le_of_ble_eq_true rfl⟩ (by decide +kernel) ?_
        show Ev l d mi_X10_manAt 24 [some (.ref 65), some (.int x1), some (.int x2), some (.int x3)] [.int q5.1] (hp q5.2) 0 0 _
        refine Ev.blk (pc' := 25) [(.iload_n 2, 0, 0, 0)] (by decide +kernel) trivial rfl (?_)
        show Ev l d mi_X10_manAt 25 [some (.ref 65), some (.int x1), some (.int x2), some (.int x3)] [.int x2, .int q5.1] (hp q5.2) 0 0 _
        refine Ev.icmp_ne (off := 5) (tgt := 30) (by decide +kernel) (by decide) (fun b6 => ?_) (fun b6 => ?_)
        · have hf := (if_neg b6).symm.trans hf
          refine Ev.blk (pc' := 33) [(.iinc 3 1, 0, 0, 0)] (by decide +kernel) trivial rfl (And.intro (Nat.le_of_ble_eq_true rfl) (?_))
          show Ev l d mi_X10_manAt 33 [some (.ref 65), some (.int x1), some (.int x2), some (.int (x3 + Int32.ofInt 1))] [] (hp q5.2) 0 0 _
          refine Ev.goto (off := -31) (tgt := 2) (by decide +kernel) (by decide) ?_
          exact ih x1 x2 (x3 + Int32.ofInt 1) q5.2 _ hf
        · have hf := (if_pos b6).symm.trans hf
          refine Ev.blk (pc' := 29) [(.iload_n 3, 0, 0, 0)] (by decide +kernel) trivial rfl (?_)
          show Ev l d mi_X10_manAt 29 [some (.ref 65), some (.int x1), some (.int x2), some (.int x3)] [.int x3] (hp q5.2) 0 0 _
          cases hf
          exact Ev.iret .int rfl rfl (by decide +kernel) (Nat.le_refl _) (Nat.le_refl _)
def f_X10_manAt (p0 : Int32) (p1 : Int32) (s : ST) : Option (Int32 × ST) := (f_X10_manAt_L2 fuel) p0 p1 (Int32.ofInt 0) s
set_option maxHeartbeats 2000000 in
set_option maxRecDepth 20000 in
theorem e_X10_manAt {l : Launch} {d : Nat} (hd : 2 ≤ d) (p0 : Int32) (p1 : Int32) (s : ST) (r : Int32 × ST) (hf : f_X10_manAt p0 p1 s = some r) : Cl l d mi_X10_manAt [.ref 65, .int p0, .int p1] (hp s) (some (.int r.1), hp r.2) := by
  refine Ev.entry (by decide +kernel) rfl rfl ?_
  show Ev l d mi_X10_manAt 0 [some (.ref 65), some (.int p0), some (.int p1), none] [] (hp s) 0 0 _
  unfold f_X10_manAt at hf
  refine Ev.blk (pc' := 2) [(.iconst 0, 0, 0, 0), (.istore_n 3, 0, 0, 0)] (by decide +kernel) trivial rfl (And.intro (Nat.le_of_ble_eq_true rfl) (?_))
  show Ev l d mi_X10_manAt 2 [some (.ref 65), some (.int p0), some (.int p1), some (.int (Int32.ofInt 0))] [] (hp s) 0 0 _
  exact (e_X10_manAt_L2 hd fuel) p0 p1 (Int32.ofInt 0) s _ hf
def f_X10_abs (p0 : Int32) (s : ST) : Option (Int32 × ST) := (if 0 ≤ p0 then some (p0, s) else some ((-p0), s))
set_option maxHeartbeats 2000000 in
set_option maxRecDepth 20000 in
theorem e_X10_abs {l : Launch} {d : Nat} (hd : 1 ≤ d) (p0 : Int32) (s : ST) (r : Int32 × ST) (hf : f_X10_abs p0 s = some r) : Cl l d mi_X10_abs [.int p0] (hp s) (some (.int r.1), hp r.2) := by
  refine Ev.entry (by decide +kernel) rfl rfl ?_
  show Ev l d mi_X10_abs 0 [some (.int p0)] [] (hp s) 0 0 _
  unfold f_X10_abs at hf
  refine Ev.blk (pc' := 1) [(.iload_n 0, 0, 0, 0)] (by decide +kernel) trivial rfl (?_)
  show Ev l d mi_X10_abs 1 [some (.int p0)] [.int p0] (hp s) 0 0 _
  refine Ev.if_ge (off := 8) (tgt := 9) (by decide +kernel) (by decide) (fun b1 => ?_) (fun b1 => ?_)
  · have hf := (if_pos b1).symm.trans hf
    refine Ev.blk (pc' := 10) [(.iload_n 0, 0, 0, 0)] (by decide +kernel) trivial rfl (?_)
    show Ev l d mi_X10_abs 10 [some (.int p0)] [.int p0] (hp s) 0 0 _
    cases hf
    exact Ev.iret .int rfl rfl (by decide +kernel) (Nat.le_refl _) (Nat.le_refl _)
  · have hf := (if_neg b1).symm.trans hf
    refine Ev.blk (pc' := 6) [(.iload_n 0, 0, 0, 0), (.ineg, 0, 0, 0)] (by decide +kernel) trivial rfl (?_)
    show Ev l d mi_X10_abs 6 [some (.int p0)] [.int (-p0)] (hp s) 0 0 _
    refine Ev.goto (off := 4) (tgt := 10) (by decide +kernel) (by decide) ?_
    cases hf
    exact Ev.iret .int rfl rfl (by decide +kernel) (Nat.le_refl _) (Nat.le_refl _)
def f_X10_farOff (p0 : Int32) (p1 : Int32) (p2 : Int32) (p3 : Int32) (s : ST) : Option (Int32 × ST) := (f_X10_abs (p0 - p2) s).bind (fun q1 => (f_X10_abs (p1 - p3) q1.2).bind (fun q2 => (if q1.1 ≤ q2.1 then some (q2.1, q2.2) else some (q1.1, q2.2))))
set_option maxHeartbeats 2000000 in
set_option maxRecDepth 20000 in
theorem e_X10_farOff {l : Launch} {d : Nat} (hd : 2 ≤ d) (p0 : Int32) (p1 : Int32) (p2 : Int32) (p3 : Int32) (s : ST) (r : Int32 × ST) (hf : f_X10_farOff p0 p1 p2 p3 s = some r) : Cl l d mi_X10_farOff [.int p0, .int p1, .int p2, .int p3] (hp s) (some (.int r.1), hp r.2) := by
  refine Ev.entry (by decide +kernel) rfl rfl ?_
  show Ev l d mi_X10_farOff 0 [some (.int p0), some (.int p1), some (.int p2), some (.int p3), none, none] [] (hp s) 0 0 _
  unfold f_X10_farOff at hf
  refine Ev.blk (pc' := 3) [(.iload_n 0, 0, 0, 0), (.iload_n 2, 0, 0, 0), (.isub, 0, 0, 0)] (by decide +kernel) trivial rfl (?_)
  show Ev l d mi_X10_farOff 3 [some (.int p0), some (.int p1), some (.int p2), some (.int p3), none, none] [.int (p0 - p2)] (hp s) 0 0 _
  obtain ⟨q1, hq1, hf⟩ := bd_some hf
  refine Ev.callS (M' := mi_X10_abs) (d' := d - 1) (As := [.int (p0 - p2)]) (rest := []) (r' := (some (.int q1.1), hp q1.2)) (e_X10_abs (d := d - 1) (by omega) (p0 - p2) s _ hq1) (by omega) wm_X10_abs wt_X10_abs km_10_449 rfl rfl rfl (Nat.le_of_ble_eq_true rfl) ⟨Nat.le_of_ble_eq_true rfl, Nat.le_of_ble_eq_true rfl⟩ (by decide +kernel) ?_
  show Ev l d mi_X10_farOff 6 [some (.int p0), some (.int p1), some (.int p2), some (.int p3), none, none] [.int q1.1] (hp q1.2) 0 0 _
  refine Ev.blk (pc' := 11) [(.istore 4, 0, 0, 0), (.iload_n 1, 0, 0, 0), (.iload_n 3, 0, 0, 0), (.isub, 0, 0, 0)] (by decide +kernel) trivial rfl (And.intro (Nat.le_of_ble_eq_true rfl) (?_))
  show Ev l d mi_X10_farOff 11 [some (.int p0), some (.int p1), some (.int p2), some (.int p3), some (.int q1.1), none] [.int (p1 - p3)] (hp q1.2) 0 0 _
  obtain ⟨q2, hq2, hf⟩ := bd_some hf
  refine Ev.callS (M' := mi_X10_abs) (d' := d - 1) (As := [.int (p1 - p3)]) (rest := []) (r' := (some (.int q2.1), hp q2.2)) (e_X10_abs (d := d - 1) (by omega) (p1 - p3) q1.2 _ hq2) (by omega) wm_X10_abs wt_X10_abs km_10_449 rfl rfl rfl (Nat.le_of_ble_eq_true rfl) ⟨Nat.le_of_ble_eq_true rfl, Nat.le_of_ble_eq_true rfl⟩ (by decide +kernel) ?_
  show Ev l d mi_X10_farOff 14 [some (.int p0), some (.int p1), some (.int p2), some (.int p3), some (.int q1.1), none] [.int q2.1] (hp q2.2) 0 0 _
  refine Ev.blk (pc' := 20) [(.istore 5, 0, 0, 0), (.iload 4, 0, 0, 0), (.iload 5, 0, 0, 0)] (by decide +kernel) trivial rfl (And.intro (Nat.le_of_ble_eq_true rfl) (?_))
  show Ev l d mi_X10_farOff 20 [some (.int p0), some (.int p1), some (.int p2), some (.int p3), some (.int q1.1), some (.int q2.1)] [.int q2.1, .int q1.1] (hp q2.2) 0 0 _
  refine Ev.icmp_le (off := 8) (tgt := 28) (by decide +kernel) (by decide) (fun b3 => ?_) (fun b3 => ?_)
  · have hf := (if_pos b3).symm.trans hf
    refine Ev.blk (pc' := 30) [(.iload 5, 0, 0, 0)] (by decide +kernel) trivial rfl (?_)
    show Ev l d mi_X10_farOff 30 [some (.int p0), some (.int p1), some (.int p2), some (.int p3), some (.int q1.1), some (.int q2.1)] [.int q2.1] (hp q2.2) 0 0 _
    cases hf
    exact Ev.iret .int rfl rfl (by decide +kernel) (Nat.le_refl _) (Nat.le_refl _)
  · have hf := (if_neg b3).symm.trans hf
    refine Ev.blk (pc' := 25) [(.iload 4, 0, 0, 0)] (by decide +kernel) trivial rfl (?_)
    show Ev l d mi_X10_farOff 25 [some (.int p0), some (.int p1), some (.int p2), some (.int p3), some (.int q1.1), some (.int q2.1)] [.int q1.1] (hp q2.2) 0 0 _
    refine Ev.goto (off := 5) (tgt := 30) (by decide +kernel) (by decide) ?_
    cases hf
    exact Ev.iret .int rfl rfl (by decide +kernel) (Nat.le_refl _) (Nat.le_refl _)
def f_X10_sign (p0 : Int32) (s : ST) : Option (Int32 × ST) := (if 0 ≤ p0 then (if p0 ≤ 0 then some ((Int32.ofInt 0), s) else some ((Int32.ofInt 1), s)) else some ((Int32.ofInt (-1)), s))
set_option maxHeartbeats 2000000 in
set_option maxRecDepth 20000 in
theorem e_X10_sign {l : Launch} {d : Nat} (hd : 1 ≤ d) (p0 : Int32) (s : ST) (r : Int32 × ST) (hf : f_X10_sign p0 s = some r) : Cl l d mi_X10_sign [.int p0] (hp s) (some (.int r.1), hp r.2) := by
  refine Ev.entry (by decide +kernel) rfl rfl ?_
  show Ev l d mi_X10_sign 0 [some (.int p0)] [] (hp s) 0 0 _
  unfold f_X10_sign at hf
  refine Ev.blk (pc' := 1) [(.iload_n 0, 0, 0, 0)] (by decide +kernel) trivial rfl (?_)
  show Ev l d mi_X10_sign 1 [some (.int p0)] [.int p0] (hp s) 0 0 _
  refine Ev.if_ge (off := 7) (tgt := 8) (by decide +kernel) (by decide) (fun b1 => ?_) (fun b1 => ?_)
  · have hf := (if_pos b1).symm.trans hf
    refine Ev.blk (pc' := 9) [(.iload_n 0, 0, 0, 0)] (by decide +kernel) trivial rfl (?_)
    show Ev l d mi_X10_sign 9 [some (.int p0)] [.int p0] (hp s) 0 0 _
    refine Ev.if_le (off := 7) (tgt := 16) (by decide +kernel) (by decide) (fun b2 => ?_) (fun b2 => ?_)
    · have hf := (if_pos b2).symm.trans hf
      refine Ev.blk (pc' := 17) [(.iconst 0, 0, 0, 0)] (by decide +kernel) trivial rfl (?_)
      show Ev l d mi_X10_sign 17 [some (.int p0)] [.int (Int32.ofInt 0)] (hp s) 0 0 _
      cases hf
      exact Ev.iret .int rfl rfl (by decide +kernel) (Nat.le_refl _) (Nat.le_refl _)
    · have hf := (if_neg b2).symm.trans hf
      refine Ev.blk (pc' := 13) [(.iconst 1, 0, 0, 0)] (by decide +kernel) trivial rfl (?_)
      show Ev l d mi_X10_sign 13 [some (.int p0)] [.int (Int32.ofInt 1)] (hp s) 0 0 _
      refine Ev.goto (off := 4) (tgt := 17) (by decide +kernel) (by decide) ?_
      cases hf
      exact Ev.iret .int rfl rfl (by decide +kernel) (Nat.le_refl _) (Nat.le_refl _)
  · have hf := (if_neg b1).symm.trans hf
    refine Ev.blk (pc' := 5) [(.iconst (-1), 0, 0, 0)] (by decide +kernel) trivial rfl (?_)
    show Ev l d mi_X10_sign 5 [some (.int p0)] [.int (Int32.ofInt (-1))] (hp s) 0 0 _
    refine Ev.goto (off := 12) (tgt := 17) (by decide +kernel) (by decide) ?_
    cases hf
    exact Ev.iret .int rfl rfl (by decide +kernel) (Nat.le_refl _) (Nat.le_refl _)
def f_X10_isWayFree_j56 (k44 : Int32 → Int32 → Int32 → Int32 → Int32 → Int32 → ST → Option (Int32 × ST)) (x2 : Int32) (x3 : Int32) (x4 : Int32) (x5 : Int32) (x6 : Int32) (x7 : Int32) (s : ST) : Option (Int32 × ST) := (f_X10_manAt x6 x7 s).bind (fun q9 => (if q9.1 = (Int32.ofInt (-1)) then k44 x2 x3 x4 x5 (x6 + x4) (x7 + x5) q9.2 else some ((Int32.ofInt 0), q9.2)))
set_option maxHeartbeats 2000000 in
set_option maxRecDepth 20000 in
theorem e_X10_isWayFree_j56 {l : Launch} {d : Nat} (hd : 3 ≤ d) (k44 : Int32 → Int32 → Int32 → Int32 → Int32 → Int32 → ST → Option (Int32 × ST)) (hk44 : ∀ (x2 : Int32) (x3 : Int32) (x4 : Int32) (x5 : Int32) (x6 : Int32) (x7 : Int32) (s : ST) (r : Int32 × ST), k44 x2 x3 x4 x5 x6 x7 s = some r → Ev l d mi_X10_isWayFree 44 [some (.ref 65), none, some (.int x2), some (.int x3), some (.int x4), some (.int x5), some (.int x6), some (.int x7)] [] (hp s) 0 0 (some (.int r.1), hp r.2)) (x2 : Int32) (x3 : Int32) (x4 : Int32) (x5 : Int32) (x6 : Int32) (x7 : Int32) (s : ST) (r : Int32 × ST) (hf : f_X10_isWayFree_j56 k44 x2 x3 x4 x5 x6 x7 s = some r) : Ev l d mi_X10_isWayFree 56 [some (.ref 65), none, some (.int x2), some (.int x3), some (.int x4), some (.int x5), some (.int x6), some (.int x7)] [] (hp s) 0 0 (some (.int r.1), hp r.2) := by
  unfold f_X10_isWayFree_j56 at hf
  refine Ev.blk (pc' := 61) [(.aload_n 0, 0, 0, 0), (.iload 6, 0, 0, 0), (.iload 7, 0, 0, 0)] (by decide +kernel) trivial rfl (?_)
  show Ev l d mi_X10_isWayFree 61 [some (.ref 65), none, some (.int x2), some (.int x3), some (.int x4), some (.int x5), some (.int x6), some (.int x7)] [.int x7, .int x6, .ref 65] (hp s) 0 0 _
  obtain ⟨q9, hq9, hf⟩ := bd_some hf
  refine Ev.callV (o := 65) (M' := mi_X10_manAt) (d' := d - 1) (As := [.int x6, .int x7]) (rest := []) (r' := (some (.int q9.1), hp q9.2)) (e_X10_manAt (d := d - 1) (by omega) x6 x7 s _ hq9) (by omega) wm_X10_manAt wi_X10_manAt wv_X10_manAt km_10_455 (kc rfl rfl) (Nat.le_of_ble_eq_true rfl) rfl rfl rfl (Nat.le_of_ble_eq_true rfl) ⟨Nat.le_of_ble_eq_true rfl, Nat.le_of_ble_eq_true rfl⟩ (by decide +kernel) ?_
  show Ev l d mi_X10_isWayFree 64 [some (.ref 65), none, some (.int x2), some (.int x3), some (.int x4), some (.int x5), some (.int x6), some (.int x7)] [.int q9.1] (hp q9.2) 0 0 _
  refine Ev.blk (pc' := 65) [(.iconst (-1), 0, 0, 0)] (by decide +kernel) trivial rfl (?_)
  show Ev l d mi_X10_isWayFree 65 [some (.ref 65), none, some (.int x2), some (.int x3), some (.int x4), some (.int x5), some (.int x6), some (.int x7)] [.int (Int32.ofInt (-1)), .int q9.1] (hp q9.2) 0 0 _
  refine Ev.icmp_eq (off := 5) (tgt := 70) (by decide +kernel) (by decide) (fun b10 => ?_) (fun b10 => ?_)
  · have hf := (if_pos b10).symm.trans hf
    refine Ev.blk (pc' := 84) [(.iload 6, 0, 0, 0), (.iload 4, 0, 0, 0), (.iadd, 0, 0, 0), (.istore 6, 0, 0, 0), (.iload 7, 0, 0, 0), (.iload 5, 0, 0, 0), (.iadd, 0, 0, 0), (.istore 7, 0, 0, 0)] (by decide +kernel) trivial rfl (And.intro (Nat.le_of_ble_eq_true rfl) (And.intro (Nat.le_of_ble_eq_true rfl) (?_)))
    show Ev l d mi_X10_isWayFree 84 [some (.ref 65), none, some (.int x2), some (.int x3), some (.int x4), some (.int x5), some (.int (x6 + x4)), some (.int (x7 + x5))] [] (hp q9.2) 0 0 _
    refine Ev.goto (off := -40) (tgt := 44) (by decide +kernel) (by decide) ?_
    exact hk44 x2 x3 x4 x5 (x6 + x4) (x7 + x5) q9.2 _ hf
  · have hf := (if_neg b10).symm.trans hf
    refine Ev.blk (pc' := 69) [(.iconst 0, 0, 0, 0)] (by decide +kernel) trivial rfl (?_)
    show Ev l d mi_X10_isWayFree 69 [some (.ref 65), none, some (.int x2), some (.int x3), some (.int x4), some (.int x5), some (.int x6), some (.int x7)] [.int (Int32.ofInt 0)] (hp q9.2) 0 0 _
    cases hf
    exact Ev.iret .boolean rfl rfl (by decide +kernel) (Nat.le_refl _) (Nat.le_refl _)
def f_X10_isWayFree_L44 : Nat → Int32 → Int32 → Int32 → Int32 → Int32 → Int32 → ST → Option (Int32 × ST)
  | 0, _, _, _, _, _, _, _ => none
  | n + 1, x2, x3, x4, x5, x6, x7, s => (if x6 = x2 then (if x7 = x3 then some ((Int32.ofInt 1), s) else (f_X10_isWayFree_j56 (f_X10_isWayFree_L44 n)) x2 x3 x4 x5 x6 x7 s) else (f_X10_isWayFree_j56 (f_X10_isWayFree_L44 n)) x2 x3 x4 x5 x6 x7 s)
set_option maxHeartbeats 2000000 in
set_option maxRecDepth 20000 in
theorem e_X10_isWayFree_L44 {l : Launch} {d : Nat} (hd : 3 ≤ d) : ∀ (n : Nat) (x2 : Int32) (x3 : Int32) (x4 : Int32) (x5 : Int32) (x6 : Int32) (x7 : Int32) (s : ST) (r : Int32 × ST), f_X10_isWayFree_L44 n x2 x3 x4 x5 x6 x7 s = some r → Ev l d mi_X10_isWayFree 44 [some (.ref 65), none, some (.int x2), some (.int x3), some (.int x4), some (.int x5), some (.int x6), some (.int x7)] [] (hp s) 0 0 (some (.int r.1), hp r.2) := by
  intro n
  induction n with
  | zero =>
    intro x2 x3 x4 x5 x6 x7 s r hf
    cases hf
  | succ n ih =>
    intro x2 x3 x4 x5 x6 x7 s r hf
    unfold f_X10_isWayFree_L44 at hf
    refine Ev.blk (pc' := 47) [(.iload 6, 0, 0, 0), (.iload_n 2, 0, 0, 0)] (by decide +kernel) trivial rfl (?_)
    show Ev l d mi_X10_isWayFree 47 [some (.ref 65), none, some (.int x2), some (.int x3), some (.int x4), some (.int x5), some (.int x6), some (.int x7)] [.int x2, .int x6] (hp s) 0 0 _
    refine Ev.icmp_ne (off := 9) (tgt := 56) (by decide +kernel) (by decide) (fun b7 => ?_) (fun b7 => ?_)
    · have hf := (if_neg b7).symm.trans hf
      exact (e_X10_isWayFree_j56 hd (f_X10_isWayFree_L44 n) ih) x2 x3 x4 x5 x6 x7 s _ hf
    · have hf := (if_pos b7).symm.trans hf
      refine Ev.blk (pc' := 53) [(.iload 7, 0, 0, 0), (.iload_n 3, 0, 0, 0)] (by decide +kernel) trivial rfl (?_)
      show Ev l d mi_X10_isWayFree 53 [some (.ref 65), none, some (.int x2), some (.int x3), some (.int x4), some (.int x5), some (.int x6), some (.int x7)] [.int x3, .int x7] (hp s) 0 0 _
      refine Ev.icmp_eq (off := 34) (tgt := 87) (by decide +kernel) (by decide) (fun b8 => ?_) (fun b8 => ?_)
      · have hf := (if_pos b8).symm.trans hf
        refine Ev.blk (pc' := 88) [(.iconst 1, 0, 0, 0)] (by decide +kernel) trivial rfl (?_)
        show Ev l d mi_X10_isWayFree 88 [some (.ref 65), none, some (.int x2), some (.int x3), some (.int x4), some (.int x5), some (.int x6), some (.int x7)] [.int (Int32.ofInt 1)] (hp s) 0 0 _
        cases hf
        exact Ev.iret .boolean rfl rfl (by decide +kernel) (Nat.le_refl _) (Nat.le_refl _)
      · have hf := (if_neg b8).symm.trans hf
        exact (e_X10_isWayFree_j56 hd (f_X10_isWayFree_L44 n) ih) x2 x3 x4 x5 x6 x7 s _ hf
def f_X10_isWayFree (p0 : Int32) (p1 : Int32) (p2 : Int32) (s : ST) : Option (Int32 × ST) := (f_X10_columnOf p0 s).bind (fun q1 => (f_X10_sign (p1 - q1.1) q1.2).bind (fun q2 => (f_X10_rowOf p0 q2.2).bind (fun q3 => (f_X10_sign (p2 - q3.1) q3.2).bind (fun q4 => (f_X10_columnOf p0 q4.2).bind (fun q5 => (f_X10_rowOf p0 q5.2).bind (fun q6 => (f_X10_isWayFree_L44 fuel) p1 p2 q2.1 q4.1 (q5.1 + q2.1) (q6.1 + q4.1) q6.2))))))
set_option maxHeartbeats 2000000 in
set_option maxRecDepth 20000 in
theorem e_X10_isWayFree {l : Launch} {d : Nat} (hd : 3 ≤ d) (p0 : Int32) (p1 : Int32) (p2 : Int32) (s : ST) (r : Int32 × ST) (hf : f_X10_isWayFree p0 p1 p2 s = some r) : Cl l d mi_X10_isWayFree [.ref 65, .int p0, .int p1, .int p2] (hp s) (some (.int r.1), hp r.2) := by
  refine Ev.entry (by decide +kernel) rfl rfl ?_
  show Ev l d mi_X10_isWayFree 0 [some (.ref 65), some (.int p0), some (.int p1), some (.int p2), none, none, none, none] [] (hp s) 0 0 _
  unfold f_X10_isWayFree at hf
  refine Ev.blk (pc' := 3) [(.iload_n 2, 0, 0, 0), (.aload_n 0, 0, 0, 0), (.iload_n 1, 0, 0, 0)] (by decide +kernel) trivial rfl (?_)
  show Ev l d mi_X10_isWayFree 3 [some (.ref 65), some (.int p0), some (.int p1), some (.int p2), none, none, none, none] [.int p0, .ref 65, .int p1] (hp s) 0 0 _
  obtain ⟨q1, hq1, hf⟩ := bd_some hf
  refine Ev.callV (o := 65) (M' := mi_X10_columnOf) (d' := d - 1) (As := [.int p0]) (rest := [.int p1]) (r' := (some (.int q1.1), hp q1.2)) (e_X10_columnOf (d := d - 1) (by omega) p0 s _ hq1) (by omega) wm_X10_columnOf wi_X10_columnOf wv_X10_columnOf km_10_439 (kc rfl rfl) (Nat.le_of_ble_eq_true rfl) rfl rfl rfl (Nat.le_of_ble_eq_true rfl) ⟨Nat.le_of_ble_eq_true rfl, Nat.le_of_ble_eq_true rfl⟩ (by decide +kernel) ?_
  show Ev l d mi_X10_isWayFree 6 [some (.ref 65), some (.int p0), some (.int p1), some (.int p2), none, none, none, none] [.int q1.1, .int p1] (hp q1.2) 0 0 _
  refine Ev.blk (pc' := 7) [(.isub, 0, 0, 0)] (by decide +kernel) trivial rfl (?_)
  show Ev l d mi_X10_isWayFree 7 [some (.ref 65), some (.int p0), some (.int p1), some (.int p2), none, none, none, none] [.int (p1 - q1.1)] (hp q1.2) 0 0 _
  obtain ⟨q2, hq2, hf⟩ := bd_some hf
  refine Ev.callS (M' := mi_X10_sign) (d' := d - 1) (As := [.int (p1 - q1.1)]) (rest := []) (r' := (some (.int q2.1), hp q2.2)) (e_X10_sign (d := d - 1) (by omega) (p1 - q1.1) q1.2 _ hq2) (by omega) wm_X10_sign wt_X10_sign km_10_452 rfl rfl rfl (Nat.le_of_ble_eq_true rfl) ⟨Nat.le_of_ble_eq_true rfl, Nat.le_of_ble_eq_true rfl⟩ (by decide +kernel) ?_
  show Ev l d mi_X10_isWayFree 10 [some (.ref 65), some (.int p0), some (.int p1), some (.int p2), none, none, none, none] [.int q2.1] (hp q2.2) 0 0 _
  refine Ev.blk (pc' := 15) [(.istore 4, 0, 0, 0), (.iload_n 3, 0, 0, 0), (.aload_n 0, 0, 0, 0), (.iload_n 1, 0, 0, 0)] (by decide +kernel) trivial rfl (And.intro (Nat.le_of_ble_eq_true rfl) (?_))
  show Ev l d mi_X10_isWayFree 15 [some (.ref 65), some (.int p0), some (.int p1), some (.int p2), some (.int q2.1), none, none, none] [.int p0, .ref 65, .int p2] (hp q2.2) 0 0 _
  obtain ⟨q3, hq3, hf⟩ := bd_some hf
  refine Ev.callV (o := 65) (M' := mi_X10_rowOf) (d' := d - 1) (As := [.int p0]) (rest := [.int p2]) (r' := (some (.int q3.1), hp q3.2)) (e_X10_rowOf (d := d - 1) (by omega) p0 q2.2 _ hq3) (by omega) wm_X10_rowOf wi_X10_rowOf wv_X10_rowOf km_10_446 (kc rfl rfl) (Nat.le_of_ble_eq_true rfl) rfl rfl rfl (Nat.le_of_ble_eq_true rfl) ⟨Nat.le_of_ble_eq_true rfl, Nat.le_of_ble_eq_true rfl⟩ (by decide +kernel) ?_
  show Ev l d mi_X10_isWayFree 18 [some (.ref 65), some (.int p0), some (.int p1), some (.int p2), some (.int q2.1), none, none, none] [.int q3.1, .int p2] (hp q3.2) 0 0 _
  refine Ev.blk (pc' := 19) [(.isub, 0, 0, 0)] (by decide +kernel) trivial rfl (?_)
  show Ev l d mi_X10_isWayFree 19 [some (.ref 65), some (.int p0), some (.int p1), some (.int p2), some (.int q2.1), none, none, none] [.int (p2 - q3.1)] (hp q3.2) 0 0 _
  obtain ⟨q4, hq4, hf⟩ := bd_some hf
  refine Ev.callS (M' := mi_X10_sign) (d' := d - 1) (As := [.int (p2 - q3.1)]) (rest := []) (r' := (some (.int q4.1), hp q4.2)) (e_X10_sign (d := d - 1) (by omega) (p2 - q3.1) q3.2 _ hq4) (by omega) wm_X10_sign wt_X10_sign km_10_452 rfl rfl rfl (Nat.le_of_ble_eq_true rfl) ⟨Nat.le_of_ble_eq_true rfl, Nat.le_of_ble_eq_true rfl⟩ (by decide +kernel) ?_
  show Ev l d mi_X10_isWayFree 22 [some (.ref 65), some (.int p0), some (.int p1), some (.int p2), some (.int q2.1), none, none, none] [.int q4.1] (hp q4.2) 0 0 _
  refine Ev.blk (pc' := 26) [(.istore 5, 0, 0, 0), (.aload_n 0, 0, 0, 0), (.iload_n 1, 0, 0, 0)] (by decide +kernel) trivial rfl (And.intro (Nat.le_of_ble_eq_true rfl) (?_))
  show Ev l d mi_X10_isWayFree 26 [some (.ref 65), some (.int p0), some (.int p1), some (.int p2), some (.int q2.1), some (.int q4.1), none, none] [.int p0, .ref 65] (hp q4.2) 0 0 _
  obtain ⟨q5, hq5, hf⟩ := bd_some hf
  refine Ev.callV (o := 65) (M' := mi_X10_columnOf) (d' := d - 1) (As := [.int p0]) (rest := []) (r' := (some (.int q5.1), hp q5.2)) (e_X10_columnOf (d := d - 1) (by omega) p0 q4.2 _ hq5) (by omega) wm_X10_columnOf wi_X10_columnOf wv_X10_columnOf km_10_439 (kc rfl rfl) (Nat.le_of_ble_eq_true rfl) rfl rfl rfl (Nat.le_of_ble_eq_true rfl) ⟨Nat.le_of_ble_eq_true rfl, Nat.le_of_ble_eq_true rfl⟩ (by decide +kernel) ?_
  show Ev l d mi_X10_isWayFree 29 [some (.ref 65), some (.int p0), some (.int p1), some (.int p2), some (.int q2.1), some (.int q4.1), none, none] [.int q5.1] (hp q5.2) 0 0 _
  refine Ev.blk (pc' := 36) [(.iload 4, 0, 0, 0), (.iadd, 0, 0, 0), (.istore 6, 0, 0, 0), (.aload_n 0, 0, 0, 0), (.iload_n 1, 0, 0, 0)] (by decide +kernel) trivial rfl (And.intro (Nat.le_of_ble_eq_true rfl) (?_))
  show Ev l d mi_X10_isWayFree 36 [some (.ref 65), some (.int p0), some (.int p1), some (.int p2), some (.int q2.1), some (.int q4.1), some (.int (q5.1 + q2.1)), none] [.int p0, .ref 65] (hp q5.2) 0 0 _
  obtain ⟨q6, hq6, hf⟩ := bd_some hf
  refine Ev.callV (o := 65) (M' := mi_X10_rowOf) (d' := d - 1) (As := [.int p0]) (rest := []) (r' := (some (.int q6.1), hp q6.2)) (e_X10_rowOf (d := d - 1) (by omega) p0 q5.2 _ hq6) (by omega) wm_X10_rowOf wi_X10_rowOf wv_X10_rowOf km_10_446 (kc rfl rfl) (Nat.le_of_ble_eq_true rfl) rfl rfl rfl (Nat.le_of_ble_eq_true rfl) ⟨Nat.le_of_ble_eq_true rfl, Nat.le_of_ble_eq_true rfl⟩ (by decide +kernel) ?_
  show Ev l d mi_X10_isWayFree 39 [some (.ref 65), some (.int p0), some (.int p1), some (.int p2), some (.int q2.1), some (.int q4.1), some (.int (q5.1 + q2.1)), none] [.int q6.1] (hp q6.2) 0 0 _
  refine Ev.blk (pc' := 44) [(.iload 5, 0, 0, 0), (.iadd, 0, 0, 0), (.istore 7, 0, 0, 0)] (by decide +kernel) trivial rfl (And.intro (Nat.le_of_ble_eq_true rfl) (?_))
  show Ev l d mi_X10_isWayFree 44 [some (.ref 65), some (.int p0), some (.int p1), some (.int p2), some (.int q2.1), some (.int q4.1), some (.int (q5.1 + q2.1)), some (.int (q6.1 + q4.1))] [] (hp q6.2) 0 0 _
  exact Ev.wk ((e_X10_isWayFree_L44 hd fuel) p1 p2 q2.1 q4.1 (q5.1 + q2.1) (q6.1 + q4.1) q6.2 _ hf) (And.intro (Or.inr rfl) (And.intro (Or.inl rfl) (And.intro (Or.inr rfl) (And.intro (Or.inr rfl) (And.intro (Or.inr rfl) (And.intro (Or.inr rfl) (And.intro (Or.inr rfl) (And.intro (Or.inr rfl) (trivial)))))))))
def f_X10_canGo_j190 (x1 : Int32) (x3 : Int32) (x4 : Int32) (s : ST) : Option (Int32 × ST) := (f_X10_manAt x3 x4 s).bind (fun q30 => (if q30.1 = (Int32.ofInt (-1)) then some ((Int32.ofInt 1), q30.2) else (f_X10_sideOf q30.1 q30.2).bind (fun q32 => (f_X10_sideOf x1 q32.2).bind (fun q33 => (if q32.1 = q33.1 then some ((Int32.ofInt 0), q33.2) else some ((Int32.ofInt 1), q33.2))))))
set_option maxHeartbeats 2000000 in
set_option maxRecDepth 20000 in
theorem e_X10_canGo_j190 {l : Launch} {d : Nat} (hd : 4 ≤ d) (x1 : Int32) (x3 : Int32) (x4 : Int32) (s : ST) (r : Int32 × ST) (hf : f_X10_canGo_j190 x1 x3 x4 s = some r) : Ev l d mi_X10_canGo 190 [some (.ref 65), some (.int x1), none, some (.int x3), some (.int x4), none, none, none, none] [] (hp s) 0 0 (some (.int r.1), hp r.2) := by
  unfold f_X10_canGo_j190 at hf
  refine Ev.blk (pc' := 194) [(.aload_n 0, 0, 0, 0), (.iload_n 3, 0, 0, 0), (.iload 4, 0, 0, 0)] (by decide +kernel) trivial rfl (?_)
  show Ev l d mi_X10_canGo 194 [some (.ref 65), some (.int x1), none, some (.int x3), some (.int x4), none, none, none, none] [.int x4, .int x3, .ref 65] (hp s) 0 0 _
  obtain ⟨q30, hq30, hf⟩ := bd_some hf
  refine Ev.callV (o := 65) (M' := mi_X10_manAt) (d' := d - 1) (As := [.int x3, .int x4]) (rest := []) (r' := (some (.int q30.1), hp q30.2)) (e_X10_manAt (d := d - 1) (by omega) x3 x4 s _ hq30) (by omega) wm_X10_manAt wi_X10_manAt wv_X10_manAt km_10_455 (kc rfl rfl) (Nat.le_of_ble_eq_true rfl) rfl rfl rfl (Nat.le_of_ble_eq_true rfl) ⟨Nat.le_of_ble_eq_true rfl, Nat.le_of_ble_eq_true rfl⟩ (by decide +kernel) ?_
  show Ev l d mi_X10_canGo 197 [some (.ref 65), some (.int x1), none, some (.int x3), some (.int x4), none, none, none, none] [.int q30.1] (hp q30.2) 0 0 _
  refine Ev.blk (pc' := 202) [(.istore 8, 0, 0, 0), (.iload 8, 0, 0, 0), (.iconst (-1), 0, 0, 0)] (by decide +kernel) trivial rfl (And.intro (Nat.le_of_ble_eq_true rfl) (?_))
  show Ev l d mi_X10_canGo 202 [some (.ref 65), some (.int x1), none, some (.int x3), some (.int x4), none, none, none, some (.int q30.1)] [.int (Int32.ofInt (-1)), .int q30.1] (hp q30.2) 0 0 _
  refine Ev.icmp_eq (off := 17) (tgt := 219) (by decide +kernel) (by decide) (fun b31 => ?_) (fun b31 => ?_)
  · have hf := (if_pos b31).symm.trans hf
    refine Ev.blk (pc' := 220) [(.iconst 1, 0, 0, 0)] (by decide +kernel) trivial rfl (?_)
    show Ev l d mi_X10_canGo 220 [some (.ref 65), some (.int x1), none, some (.int x3), some (.int x4), none, none, none, some (.int q30.1)] [.int (Int32.ofInt 1)] (hp q30.2) 0 0 _
    refine Ev.goto (off := 4) (tgt := 224) (by decide +kernel) (by decide) ?_
    cases hf
    exact Ev.iret .boolean rfl rfl (by decide +kernel) (Nat.le_refl _) (Nat.le_refl _)
  · have hf := (if_neg b31).symm.trans hf
    refine Ev.blk (pc' := 208) [(.aload_n 0, 0, 0, 0), (.iload 8, 0, 0, 0)] (by decide +kernel) trivial rfl (?_)
    show Ev l d mi_X10_canGo 208 [some (.ref 65), some (.int x1), none, some (.int x3), some (.int x4), none, none, none, some (.int q30.1)] [.int q30.1, .ref 65] (hp q30.2) 0 0 _
    obtain ⟨q32, hq32, hf⟩ := bd_some hf
    refine Ev.callV (o := 65) (M' := mi_X10_sideOf) (d' := d - 1) (As := [.int q30.1]) (rest := []) (r' := (some (.int q32.1), hp q32.2)) (e_X10_sideOf (d := d - 1) (by omega) q30.1 q30.2 _ hq32) (by omega) wm_X10_sideOf wi_X10_sideOf wv_X10_sideOf km_10_468 (kc rfl rfl) (Nat.le_of_ble_eq_true rfl) rfl rfl rfl (Nat.le_of_ble_eq_true rfl) ⟨Nat.le_of_ble_eq_true rfl, Nat.le_of_ble_eq_true rfl⟩ (by decide +kernel) ?_
    show Ev l d mi_X10_canGo 211 [some (.ref 65), some (.int x1), none, some (.int x3), some (.int x4), none, none, none, some (.int q30.1)] [.int q32.1] (hp q32.2) 0 0 _
    refine Ev.blk (pc' := 213) [(.aload_n 0, 0, 0, 0), (.iload_n 1, 0, 0, 0)] (by decide +kernel) trivial rfl (?_)
    show Ev l d mi_X10_canGo 213 [some (.ref 65), some (.int x1), none, some (.int x3), some (.int x4), none, none, none, some (.int q30.1)] [.int x1, .ref 65, .int q32.1] (hp q32.2) 0 0 _
    obtain ⟨q33, hq33, hf⟩ := bd_some hf
    refine Ev.callV (o := 65) (M' := mi_X10_sideOf) (d' := d - 1) (As := [.int x1]) (rest := [.int q32.1]) (r' := (some (.int q33.1), hp q33.2)) (e_X10_sideOf (d := d - 1) (by omega) x1 q32.2 _ hq33) (by omega) wm_X10_sideOf wi_X10_sideOf wv_X10_sideOf km_10_468 (kc rfl rfl) (Nat.le_of_ble_eq_true rfl) rfl rfl rfl (Nat.le_of_ble_eq_true rfl) ⟨Nat.le_of_ble_eq_true rfl, Nat.le_of_ble_eq_true rfl⟩ (by decide +kernel) ?_
    show Ev l d mi_X10_canGo 216 [some (.ref 65), some (.int x1), none, some (.int x3), some (.int x4), none, none, none, some (.int q30.1)] [.int q33.1, .int q32.1] (hp q33.2) 0 0 _
    refine Ev.icmp_eq (off := 7) (tgt := 223) (by decide +kernel) (by decide) (fun b34 => ?_) (fun b34 => ?_)
    · have hf := (if_pos b34).symm.trans hf
      refine Ev.blk (pc' := 224) [(.iconst 0, 0, 0, 0)] (by decide +kernel) trivial rfl (?_)
      show Ev l d mi_X10_canGo 224 [some (.ref 65), some (.int x1), none, some (.int x3), some (.int x4), none, none, none, some (.int q30.1)] [.int (Int32.ofInt 0)] (hp q33.2) 0 0 _
      cases hf
      exact Ev.iret .boolean rfl rfl (by decide +kernel) (Nat.le_refl _) (Nat.le_refl _)
    · have hf := (if_neg b34).symm.trans hf
      refine Ev.blk (pc' := 220) [(.iconst 1, 0, 0, 0)] (by decide +kernel) trivial rfl (?_)
      show Ev l d mi_X10_canGo 220 [some (.ref 65), some (.int x1), none, some (.int x3), some (.int x4), none, none, none, some (.int q30.1)] [.int (Int32.ofInt 1)] (hp q33.2) 0 0 _
      refine Ev.goto (off := 4) (tgt := 224) (by decide +kernel) (by decide) ?_
      cases hf
      exact Ev.iret .boolean rfl rfl (by decide +kernel) (Nat.le_refl _) (Nat.le_refl _)
def f_X10_canGo_j177 (x1 : Int32) (x3 : Int32) (x4 : Int32) (s : ST) : Option (Int32 × ST) := (f_X10_isWayFree x1 x3 x4 s).bind (fun q37 => (if q37.1 = 0 then some ((Int32.ofInt 0), q37.2) else f_X10_canGo_j190 x1 x3 x4 q37.2))
set_option maxHeartbeats 2000000 in
set_option maxRecDepth 20000 in
theorem e_X10_canGo_j177 {l : Launch} {d : Nat} (hd : 4 ≤ d) (x1 : Int32) (x3 : Int32) (x4 : Int32) (s : ST) (r : Int32 × ST) (hf : f_X10_canGo_j177 x1 x3 x4 s = some r) : Ev l d mi_X10_canGo 177 [some (.ref 65), some (.int x1), none, some (.int x3), some (.int x4), none, none, none, none] [] (hp s) 0 0 (some (.int r.1), hp r.2) := by
  unfold f_X10_canGo_j177 at hf
  refine Ev.blk (pc' := 182) [(.aload_n 0, 0, 0, 0), (.iload_n 1, 0, 0, 0), (.iload_n 3, 0, 0, 0), (.iload 4, 0, 0, 0)] (by decide +kernel) trivial rfl (?_)
  show Ev l d mi_X10_canGo 182 [some (.ref 65), some (.int x1), none, some (.int x3), some (.int x4), none, none, none, none] [.int x4, .int x3, .int x1, .ref 65] (hp s) 0 0 _
  obtain ⟨q37, hq37, hf⟩ := bd_some hf
  refine Ev.callV (o := 65) (M' := mi_X10_isWayFree) (d' := d - 1) (As := [.int x1, .int x3, .int x4]) (rest := []) (r' := (some (.int q37.1), hp q37.2)) (e_X10_isWayFree (d := d - 1) (by omega) x1 x3 x4 s _ hq37) (by omega) wm_X10_isWayFree wi_X10_isWayFree wv_X10_isWayFree km_10_465 (kc rfl rfl) (Nat.le_of_ble_eq_true rfl) rfl rfl rfl (Nat.le_of_ble_eq_true rfl) ⟨Nat.le_of_ble_eq_true rfl, Nat.le_of_ble_eq_true rfl⟩ (by decide +kernel) ?_
  show Ev l d mi_X10_canGo 185 [some (.ref 65), some (.int x1), none, some (.int x3), some (.int x4), none, none, none, none] [.int q37.1] (hp q37.2) 0 0 _
  refine Ev.if_ne (off := 5) (tgt := 190) (by decide +kernel) (by decide) (fun b38 => ?_) (fun b38 => ?_)
  · have hf := (if_neg b38).symm.trans hf
    exact (e_X10_canGo_j190 hd) x1 x3 x4 q37.2 _ hf
  · have hf := (if_pos b38).symm.trans hf
    refine Ev.blk (pc' := 189) [(.iconst 0, 0, 0, 0)] (by decide +kernel) trivial rfl (?_)
    show Ev l d mi_X10_canGo 189 [some (.ref 65), some (.int x1), none, some (.int x3), some (.int x4), none, none, none, none] [.int (Int32.ofInt 0)] (hp q37.2) 0 0 _
    cases hf
    exact Ev.iret .boolean rfl rfl (by decide +kernel) (Nat.le_refl _) (Nat.le_refl _)
def f_X10_canGo_j164 (x1 : Int32) (x3 : Int32) (x4 : Int32) (x5 : Int32) (x6 : Int32) (x7 : Int32) (s : ST) : Option (Int32 × ST) := (if x5 = x6 then (if x7 = (Int32.ofInt 1) then some ((Int32.ofInt 0), s) else f_X10_canGo_j177 x1 x3 x4 s) else some ((Int32.ofInt 0), s))
set_option maxHeartbeats 2000000 in
set_option maxRecDepth 20000 in
theorem e_X10_canGo_j164 {l : Launch} {d : Nat} (hd : 4 ≤ d) (x1 : Int32) (x3 : Int32) (x4 : Int32) (x5 : Int32) (x6 : Int32) (x7 : Int32) (s : ST) (r : Int32 × ST) (hf : f_X10_canGo_j164 x1 x3 x4 x5 x6 x7 s = some r) : Ev l d mi_X10_canGo 164 [some (.ref 65), some (.int x1), none, some (.int x3), some (.int x4), some (.int x5), some (.int x6), some (.int x7), none] [] (hp s) 0 0 (some (.int r.1), hp r.2) := by
  unfold f_X10_canGo_j164 at hf
  refine Ev.blk (pc' := 168) [(.iload 5, 0, 0, 0), (.iload 6, 0, 0, 0)] (by decide +kernel) trivial rfl (?_)
  show Ev l d mi_X10_canGo 168 [some (.ref 65), some (.int x1), none, some (.int x3), some (.int x4), some (.int x5), some (.int x6), some (.int x7), none] [.int x6, .int x5] (hp s) 0 0 _
  refine Ev.icmp_ne (off := 20) (tgt := 188) (by decide +kernel) (by decide) (fun b35 => ?_) (fun b35 => ?_)
  · have hf := (if_neg b35).symm.trans hf
    refine Ev.blk (pc' := 189) [(.iconst 0, 0, 0, 0)] (by decide +kernel) trivial rfl (?_)
    show Ev l d mi_X10_canGo 189 [some (.ref 65), some (.int x1), none, some (.int x3), some (.int x4), some (.int x5), some (.int x6), some (.int x7), none] [.int (Int32.ofInt 0)] (hp s) 0 0 _
    cases hf
    exact Ev.iret .boolean rfl rfl (by decide +kernel) (Nat.le_refl _) (Nat.le_refl _)
  · have hf := (if_pos b35).symm.trans hf
    refine Ev.blk (pc' := 174) [(.iload 7, 0, 0, 0), (.iconst 1, 0, 0, 0)] (by decide +kernel) trivial rfl (?_)
    show Ev l d mi_X10_canGo 174 [some (.ref 65), some (.int x1), none, some (.int x3), some (.int x4), some (.int x5), some (.int x6), some (.int x7), none] [.int (Int32.ofInt 1), .int x7] (hp s) 0 0 _
    refine Ev.icmp_eq (off := 14) (tgt := 188) (by decide +kernel) (by decide) (fun b36 => ?_) (fun b36 => ?_)
    · have hf := (if_pos b36).symm.trans hf
      refine Ev.blk (pc' := 189) [(.iconst 0, 0, 0, 0)] (by decide +kernel) trivial rfl (?_)
      show Ev l d mi_X10_canGo 189 [some (.ref 65), some (.int x1), none, some (.int x3), some (.int x4), some (.int x5), some (.int x6), some (.int x7), none] [.int (Int32.ofInt 0)] (hp s) 0 0 _
      cases hf
      exact Ev.iret .boolean rfl rfl (by decide +kernel) (Nat.le_refl _) (Nat.le_refl _)
    · have hf := (if_neg b36).symm.trans hf
      exact Ev.wk ((e_X10_canGo_j177 hd) x1 x3 x4 s _ hf) (And.intro (Or.inr rfl) (And.intro (Or.inr rfl) (And.intro (Or.inr rfl) (And.intro (Or.inr rfl) (And.intro (Or.inr rfl) (And.intro (Or.inl rfl) (And.intro (Or.inl rfl) (And.intro (Or.inl rfl) (And.intro (Or.inr rfl) (trivial))))))))))
def f_X10_canGo_j115 (x1 : Int32) (x3 : Int32) (x4 : Int32) (x5 : Int32) (x6 : Int32) (x7 : Int32) (y0 : Int32) (s : ST) : Option (Int32 × ST) := (f_X10_columnOf x1 s).bind (fun q21 => (f_X10_rowOf x1 q21.2).bind (fun q22 => (f_X10_farOff x3 x4 q21.1 q22.1 q22.2).bind (fun q23 => (f_X10_kindOf x1 q23.2).bind (fun q24 => gd (ib (((Int8.ofInt 21).toInt32) + ((Int32.ofInt 4) * q24.1)) 40) (lt (q24.2.1 104 (((Int8.ofInt 21).toInt32) + ((Int32.ofInt 4) * q24.1)).toNatClampNeg) (fun v26 => (if q23.1 ≤ v26 then (if y0 = 0 then f_X10_canGo_j164 x1 x3 x4 x5 x6 x7 q24.2 else (if x7 = (Int32.ofInt 2) then f_X10_canGo_j164 x1 x3 x4 x5 x6 x7 q24.2 else f_X10_canGo_j177 x1 x3 x4 q24.2)) else some ((Int32.ofInt 0), q24.2))))))))
set_option maxHeartbeats 2000000 in
set_option maxRecDepth 20000 in
theorem e_X10_canGo_j115 {l : Launch} {d : Nat} (hd : 4 ≤ d) (x1 : Int32) (x3 : Int32) (x4 : Int32) (x5 : Int32) (x6 : Int32) (x7 : Int32) (y0 : Int32) (s : ST) (r : Int32 × ST) (hf : f_X10_canGo_j115 x1 x3 x4 x5 x6 x7 y0 s = some r) : Ev l d mi_X10_canGo 115 [some (.ref 65), some (.int x1), none, some (.int x3), some (.int x4), some (.int x5), some (.int x6), some (.int x7), none] [.int y0] (hp s) 0 0 (some (.int r.1), hp r.2) := by
  unfold f_X10_canGo_j115 at hf
  refine Ev.blk (pc' := 122) [(.istore 8, 0, 0, 0), (.iload_n 3, 0, 0, 0), (.iload 4, 0, 0, 0), (.aload_n 0, 0, 0, 0), (.iload_n 1, 0, 0, 0)] (by decide +kernel) trivial rfl (And.intro (Nat.le_of_ble_eq_true rfl) (?_))
  show Ev l d mi_X10_canGo 122 [some (.ref 65), some (.int x1), none, some (.int x3), some (.int x4), some (.int x5), some (.int x6), some (.int x7), some (.int y0)] [.int x1, .ref 65, .int x4, .int x3] (hp s) 0 0 _
  obtain ⟨q21, hq21, hf⟩ := bd_some hf
  refine Ev.callV (o := 65) (M' := mi_X10_columnOf) (d' := d - 1) (As := [.int x1]) (rest := [.int x4, .int x3]) (r' := (some (.int q21.1), hp q21.2)) (e_X10_columnOf (d := d - 1) (by omega) x1 s _ hq21) (by omega) wm_X10_columnOf wi_X10_columnOf wv_X10_columnOf km_10_439 (kc rfl rfl) (Nat.le_of_ble_eq_true rfl) rfl rfl rfl (Nat.le_of_ble_eq_true rfl) ⟨Nat.le_of_ble_eq_true rfl, Nat.le_of_ble_eq_true rfl⟩ (by decide +kernel) ?_
  show Ev l d mi_X10_canGo 125 [some (.ref 65), some (.int x1), none, some (.int x3), some (.int x4), some (.int x5), some (.int x6), some (.int x7), some (.int y0)] [.int q21.1, .int x4, .int x3] (hp q21.2) 0 0 _
  refine Ev.blk (pc' := 127) [(.aload_n 0, 0, 0, 0), (.iload_n 1, 0, 0, 0)] (by decide +kernel) trivial rfl (?_)
  show Ev l d mi_X10_canGo 127 [some (.ref 65), some (.int x1), none, some (.int x3), some (.int x4), some (.int x5), some (.int x6), some (.int x7), some (.int y0)] [.int x1, .ref 65, .int q21.1, .int x4, .int x3] (hp q21.2) 0 0 _
  obtain ⟨q22, hq22, hf⟩ := bd_some hf
  refine Ev.callV (o := 65) (M' := mi_X10_rowOf) (d' := d - 1) (As := [.int x1]) (rest := [.int q21.1, .int x4, .int x3]) (r' := (some (.int q22.1), hp q22.2)) (e_X10_rowOf (d := d - 1) (by omega) x1 q21.2 _ hq22) (by omega) wm_X10_rowOf wi_X10_rowOf wv_X10_rowOf km_10_446 (kc rfl rfl) (Nat.le_of_ble_eq_true rfl) rfl rfl rfl (Nat.le_of_ble_eq_true rfl) ⟨Nat.le_of_ble_eq_true rfl, Nat.le_of_ble_eq_true rfl⟩ (by decide +kernel) ?_
  show Ev l d mi_X10_canGo 130 [some (.ref 65), some (.int x1), none, some (.int x3), some (.int x4), some (.int x5), some (.int x6), some (.int x7), some (.int y0)] [.int q22.1, .int q21.1, .int x4, .int x3] (hp q22.2) 0 0 _
  obtain ⟨q23, hq23, hf⟩ := bd_some hf
  refine Ev.callS (M' := mi_X10_farOff) (d' := d - 1) (As := [.int x3, .int x4, .int q21.1, .int q22.1]) (rest := []) (r' := (some (.int q23.1), hp q23.2)) (e_X10_farOff (d := d - 1) (by omega) x3 x4 q21.1 q22.1 q22.2 _ hq23) (by omega) wm_X10_farOff wt_X10_farOff km_10_461 rfl rfl rfl (Nat.le_of_ble_eq_true rfl) ⟨Nat.le_of_ble_eq_true rfl, Nat.le_of_ble_eq_true rfl⟩ (by decide +kernel) ?_
  show Ev l d mi_X10_canGo 133 [some (.ref 65), some (.int x1), none, some (.int x3), some (.int x4), some (.int x5), some (.int x6), some (.int x7), some (.int y0)] [.int q23.1] (hp q23.2) 0 0 _
  refine Ev.blk (pc' := 142) [(.aload_n 0, 0, 0, 0), (.getfield 130, 0, 10, 48), (.bipush 21, 0, 0, 0), (.iconst 4, 0, 0, 0), (.aload_n 0, 0, 0, 0), (.iload_n 1, 0, 0, 0)] (by decide +kernel) ⟨kf_10_130, trivial⟩ rfl (And.intro (kc rfl rfl) (Exists.intro 104 (And.intro rfl (?_))))
  show Ev l d mi_X10_canGo 142 [some (.ref 65), some (.int x1), none, some (.int x3), some (.int x4), some (.int x5), some (.int x6), some (.int x7), some (.int y0)] [.int x1, .ref 65, .int (Int32.ofInt 4), .int ((Int8.ofInt 21).toInt32), .ref 104, .int q23.1] (hp q23.2) 0 0 _
  obtain ⟨q24, hq24, hf⟩ := bd_some hf
  refine Ev.callV (o := 65) (M' := mi_X10_kindOf) (d' := d - 1) (As := [.int x1]) (rest := [.int (Int32.ofInt 4), .int ((Int8.ofInt 21).toInt32), .ref 104, .int q23.1]) (r' := (some (.int q24.1), hp q24.2)) (e_X10_kindOf (d := d - 1) (by omega) x1 q23.2 _ hq24) (by omega) wm_X10_kindOf wi_X10_kindOf wv_X10_kindOf km_10_443 (kc rfl rfl) (Nat.le_of_ble_eq_true rfl) rfl rfl rfl (Nat.le_of_ble_eq_true rfl) ⟨Nat.le_of_ble_eq_true rfl, Nat.le_of_ble_eq_true rfl⟩ (by decide +kernel) ?_
  show Ev l d mi_X10_canGo 145 [some (.ref 65), some (.int x1), none, some (.int x3), some (.int x4), some (.int x5), some (.int x6), some (.int x7), some (.int y0)] [.int q24.1, .int (Int32.ofInt 4), .int ((Int8.ofInt 21).toInt32), .ref 104, .int q23.1] (hp q24.2) 0 0 _
  obtain ⟨c25, hf⟩ := gd_some hf
  obtain ⟨v26, hv26, hf⟩ := lt_some hf
  refine Ev.blk (pc' := 148) [(.imul, 0, 0, 0), (.iadd, 0, 0, 0), (.iaload, 0, 0, 0)] (by decide +kernel) trivial rfl (And.intro (kc rfl rfl) (And.intro (ib_ok c25) (?_)))
  show Ev l d mi_X10_canGo 148 [some (.ref 65), some (.int x1), none, some (.int x3), some (.int x4), some (.int x5), some (.int x6), some (.int x7), some (.int y0)] [.int (q24.2.1 104 (((Int8.ofInt 21).toInt32) + ((Int32.ofInt 4) * q24.1)).toNatClampNeg), .int q23.1] (hp q24.2) 0 0 _
  rw [← hv26]
  refine Ev.icmp_le (off := 5) (tgt := 153) (by decide +kernel) (by decide) (fun b27 => ?_) (fun b27 => ?_)
  · have hf := (if_pos b27).symm.trans hf
    refine Ev.blk (pc' := 155) [(.iload 8, 0, 0, 0)] (by decide +kernel) trivial rfl (?_)
    show Ev l d mi_X10_canGo 155 [some (.ref 65), some (.int x1), none, some (.int x3), some (.int x4), some (.int x5), some (.int x6), some (.int x7), some (.int y0)] [.int y0] (hp q24.2) 0 0 _
    refine Ev.if_eq (off := 9) (tgt := 164) (by decide +kernel) (by decide) (fun b28 => ?_) (fun b28 => ?_)
    · have hf := (if_pos b28).symm.trans hf
      exact Ev.wk ((e_X10_canGo_j164 hd) x1 x3 x4 x5 x6 x7 q24.2 _ hf) (And.intro (Or.inr rfl) (And.intro (Or.inr rfl) (And.intro (Or.inr rfl) (And.intro (Or.inr rfl) (And.intro (Or.inr rfl) (And.intro (Or.inr rfl) (And.intro (Or.inr rfl) (And.intro (Or.inr rfl) (And.intro (Or.inl rfl) (trivial))))))))))
    · have hf := (if_neg b28).symm.trans hf
      refine Ev.blk (pc' := 161) [(.iload 7, 0, 0, 0), (.iconst 2, 0, 0, 0)] (by decide +kernel) trivial rfl (?_)
      show Ev l d mi_X10_canGo 161 [some (.ref 65), some (.int x1), none, some (.int x3), some (.int x4), some (.int x5), some (.int x6), some (.int x7), some (.int y0)] [.int (Int32.ofInt 2), .int x7] (hp q24.2) 0 0 _
      refine Ev.icmp_ne (off := 16) (tgt := 177) (by decide +kernel) (by decide) (fun b29 => ?_) (fun b29 => ?_)
      · have hf := (if_neg b29).symm.trans hf
        exact Ev.wk ((e_X10_canGo_j177 hd) x1 x3 x4 q24.2 _ hf) (And.intro (Or.inr rfl) (And.intro (Or.inr rfl) (And.intro (Or.inr rfl) (And.intro (Or.inr rfl) (And.intro (Or.inr rfl) (And.intro (Or.inl rfl) (And.intro (Or.inl rfl) (And.intro (Or.inl rfl) (And.intro (Or.inl rfl) (trivial))))))))))
      · have hf := (if_pos b29).symm.trans hf
        exact Ev.wk ((e_X10_canGo_j164 hd) x1 x3 x4 x5 x6 x7 q24.2 _ hf) (And.intro (Or.inr rfl) (And.intro (Or.inr rfl) (And.intro (Or.inr rfl) (And.intro (Or.inr rfl) (And.intro (Or.inr rfl) (And.intro (Or.inr rfl) (And.intro (Or.inr rfl) (And.intro (Or.inr rfl) (And.intro (Or.inl rfl) (trivial))))))))))
  · have hf := (if_neg b27).symm.trans hf
    refine Ev.blk (pc' := 152) [(.iconst 0, 0, 0, 0)] (by decide +kernel) trivial rfl (?_)
    show Ev l d mi_X10_canGo 152 [some (.ref 65), some (.int x1), none, some (.int x3), some (.int x4), some (.int x5), some (.int x6), some (.int x7), some (.int y0)] [.int (Int32.ofInt 0)] (hp q24.2) 0 0 _
    cases hf
    exact Ev.iret .boolean rfl rfl (by decide +kernel) (Nat.le_refl _) (Nat.le_refl _)
def f_X10_canGo_j66 (x1 : Int32) (x3 : Int32) (x4 : Int32) (x5 : Int32) (x6 : Int32) (s : ST) : Option (Int32 × ST) := (f_X10_kindOf x1 s).bind (fun q14 => gd (ib (((Int8.ofInt 20).toInt32) + ((Int32.ofInt 4) * q14.1)) 40) (lt (q14.2.1 104 (((Int8.ofInt 20).toInt32) + ((Int32.ofInt 4) * q14.1)).toNatClampNeg) (fun v16 => (if v16 = (Int32.ofInt 4) then (if (x5 * x6) = (Int32.ofInt 2) then f_X10_canGo_j190 x1 x3 x4 q14.2 else some ((Int32.ofInt 0), q14.2)) else (if x5 = 0 then f_X10_canGo_j115 x1 x3 x4 x5 x6 v16 (Int32.ofInt 1) q14.2 else (if x6 = 0 then f_X10_canGo_j115 x1 x3 x4 x5 x6 v16 (Int32.ofInt 1) q14.2 else f_X10_canGo_j115 x1 x3 x4 x5 x6 v16 (Int32.ofInt 0) q14.2))))))
set_option maxHeartbeats 2000000 in
set_option maxRecDepth 20000 in
theorem e_X10_canGo_j66 {l : Launch} {d : Nat} (hd : 4 ≤ d) (x1 : Int32) (x3 : Int32) (x4 : Int32) (x5 : Int32) (x6 : Int32) (s : ST) (r : Int32 × ST) (hf : f_X10_canGo_j66 x1 x3 x4 x5 x6 s = some r) : Ev l d mi_X10_canGo 66 [some (.ref 65), some (.int x1), none, some (.int x3), some (.int x4), some (.int x5), some (.int x6), none, none] [] (hp s) 0 0 (some (.int r.1), hp r.2) := by
  unfold f_X10_canGo_j66 at hf
  refine Ev.blk (pc' := 75) [(.aload_n 0, 0, 0, 0), (.getfield 130, 0, 10, 48), (.bipush 20, 0, 0, 0), (.iconst 4, 0, 0, 0), (.aload_n 0, 0, 0, 0), (.iload_n 1, 0, 0, 0)] (by decide +kernel) ⟨kf_10_130, trivial⟩ rfl (And.intro (kc rfl rfl) (Exists.intro 104 (And.intro rfl (?_))))
  show Ev l d mi_X10_canGo 75 [some (.ref 65), some (.int x1), none, some (.int x3), some (.int x4), some (.int x5), some (.int x6), none, none] [.int x1, .ref 65, .int (Int32.ofInt 4), .int ((Int8.ofInt 20).toInt32), .ref 104] (hp s) 0 0 _
  obtain ⟨q14, hq14, hf⟩ := bd_some hf
  refine Ev.callV (o := 65) (M' := mi_X10_kindOf) (d' := d - 1) (As := [.int x1]) (rest := [.int (Int32.ofInt 4), .int ((Int8.ofInt 20).toInt32), .ref 104]) (r' := (some (.int q14.1), hp q14.2)) (e_X10_kindOf (d := d - 1) (by omega) x1 s _ hq14) (by omega) wm_X10_kindOf wi_X10_kindOf wv_X10_kindOf km_10_443 (kc rfl rfl) (Nat.le_of_ble_eq_true rfl) rfl rfl rfl (Nat.le_of_ble_eq_true rfl) ⟨Nat.le_of_ble_eq_true rfl, Nat.le_of_ble_eq_true rfl⟩ (by decide +kernel) ?_
  show Ev l d mi_X10_canGo 78 [some (.ref 65), some (.int x1), none, some (.int x3), some (.int x4), some (.int x5), some (.int x6), none, none] [.int q14.1, .int (Int32.ofInt 4), .int ((Int8.ofInt 20).toInt32), .ref 104] (hp q14.2) 0 0 _
  obtain ⟨c15, hf⟩ := gd_some hf
  obtain ⟨v16, hv16, hf⟩ := lt_some hf
  refine Ev.blk (pc' := 86) [(.imul, 0, 0, 0), (.iadd, 0, 0, 0), (.iaload, 0, 0, 0), (.istore 7, 0, 0, 0), (.iload 7, 0, 0, 0), (.iconst 4, 0, 0, 0)] (by decide +kernel) trivial rfl (And.intro (kc rfl rfl) (And.intro (ib_ok c15) (And.intro (Nat.le_of_ble_eq_true rfl) (?_))))
  show Ev l d mi_X10_canGo 86 [some (.ref 65), some (.int x1), none, some (.int x3), some (.int x4), some (.int x5), some (.int x6), some (.int (q14.2.1 104 (((Int8.ofInt 20).toInt32) + ((Int32.ofInt 4) * q14.1)).toNatClampNeg)), none] [.int (Int32.ofInt 4), .int (q14.2.1 104 (((Int8.ofInt 20).toInt32) + ((Int32.ofInt 4) * q14.1)).toNatClampNeg)] (hp q14.2) 0 0 _
  rw [← hv16]
  refine Ev.icmp_ne (off := 14) (tgt := 100) (by decide +kernel) (by decide) (fun b17 => ?_) (fun b17 => ?_)
  · have hf := (if_neg b17).symm.trans hf
    refine Ev.blk (pc' := 102) [(.iload 5, 0, 0, 0)] (by decide +kernel) trivial rfl (?_)
    show Ev l d mi_X10_canGo 102 [some (.ref 65), some (.int x1), none, some (.int x3), some (.int x4), some (.int x5), some (.int x6), some (.int v16), none] [.int x5] (hp q14.2) 0 0 _
    refine Ev.if_eq (off := 8) (tgt := 110) (by decide +kernel) (by decide) (fun b18 => ?_) (fun b18 => ?_)
    · have hf := (if_pos b18).symm.trans hf
      refine Ev.blk (pc' := 111) [(.iconst 1, 0, 0, 0)] (by decide +kernel) trivial rfl (?_)
      show Ev l d mi_X10_canGo 111 [some (.ref 65), some (.int x1), none, some (.int x3), some (.int x4), some (.int x5), some (.int x6), some (.int v16), none] [.int (Int32.ofInt 1)] (hp q14.2) 0 0 _
      refine Ev.goto (off := 4) (tgt := 115) (by decide +kernel) (by decide) ?_
      exact (e_X10_canGo_j115 hd) x1 x3 x4 x5 x6 v16 (Int32.ofInt 1) q14.2 _ hf
    · have hf := (if_neg b18).symm.trans hf
      refine Ev.blk (pc' := 107) [(.iload 6, 0, 0, 0)] (by decide +kernel) trivial rfl (?_)
      show Ev l d mi_X10_canGo 107 [some (.ref 65), some (.int x1), none, some (.int x3), some (.int x4), some (.int x5), some (.int x6), some (.int v16), none] [.int x6] (hp q14.2) 0 0 _
      refine Ev.if_ne (off := 7) (tgt := 114) (by decide +kernel) (by decide) (fun b19 => ?_) (fun b19 => ?_)
      · have hf := (if_neg b19).symm.trans hf
        refine Ev.blk (pc' := 115) [(.iconst 0, 0, 0, 0)] (by decide +kernel) trivial rfl (?_)
        show Ev l d mi_X10_canGo 115 [some (.ref 65), some (.int x1), none, some (.int x3), some (.int x4), some (.int x5), some (.int x6), some (.int v16), none] [.int (Int32.ofInt 0)] (hp q14.2) 0 0 _
        exact (e_X10_canGo_j115 hd) x1 x3 x4 x5 x6 v16 (Int32.ofInt 0) q14.2 _ hf
      · have hf := (if_pos b19).symm.trans hf
        refine Ev.blk (pc' := 111) [(.iconst 1, 0, 0, 0)] (by decide +kernel) trivial rfl (?_)
        show Ev l d mi_X10_canGo 111 [some (.ref 65), some (.int x1), none, some (.int x3), some (.int x4), some (.int x5), some (.int x6), some (.int v16), none] [.int (Int32.ofInt 1)] (hp q14.2) 0 0 _
        refine Ev.goto (off := 4) (tgt := 115) (by decide +kernel) (by decide) ?_
        exact (e_X10_canGo_j115 hd) x1 x3 x4 x5 x6 v16 (Int32.ofInt 1) q14.2 _ hf
  · have hf := (if_pos b17).symm.trans hf
    refine Ev.blk (pc' := 95) [(.iload 5, 0, 0, 0), (.iload 6, 0, 0, 0), (.imul, 0, 0, 0), (.iconst 2, 0, 0, 0)] (by decide +kernel) trivial rfl (?_)
    show Ev l d mi_X10_canGo 95 [some (.ref 65), some (.int x1), none, some (.int x3), some (.int x4), some (.int x5), some (.int x6), some (.int v16), none] [.int (Int32.ofInt 2), .int (x5 * x6)] (hp q14.2) 0 0 _
    refine Ev.icmp_eq (off := 95) (tgt := 190) (by decide +kernel) (by decide) (fun b20 => ?_) (fun b20 => ?_)
    · have hf := (if_pos b20).symm.trans hf
      exact Ev.wk ((e_X10_canGo_j190 hd) x1 x3 x4 q14.2 _ hf) (And.intro (Or.inr rfl) (And.intro (Or.inr rfl) (And.intro (Or.inr rfl) (And.intro (Or.inr rfl) (And.intro (Or.inr rfl) (And.intro (Or.inl rfl) (And.intro (Or.inl rfl) (And.intro (Or.inl rfl) (And.intro (Or.inr rfl) (trivial))))))))))
    · have hf := (if_neg b20).symm.trans hf
      refine Ev.blk (pc' := 99) [(.iconst 0, 0, 0, 0)] (by decide +kernel) trivial rfl (?_)
      show Ev l d mi_X10_canGo 99 [some (.ref 65), some (.int x1), none, some (.int x3), some (.int x4), some (.int x5), some (.int x6), some (.int v16), none] [.int (Int32.ofInt 0)] (hp q14.2) 0 0 _
      cases hf
      exact Ev.iret .boolean rfl rfl (by decide +kernel) (Nat.le_refl _) (Nat.le_refl _)
def f_X10_canGo (p0 : Int32) (p1 : Int32) (s : ST) : Option (Int32 × ST) := (f_X10_isTaken p0 s).bind (fun q1 => (if q1.1 = 0 then gd (ib (Int32.ofInt 4) 8) (gd (nz (q1.2.1 103 (Int32.ofInt 4).toNatClampNeg)) (gd (ib (Int32.ofInt 4) 8) (gd (nz (q1.2.1 103 (Int32.ofInt 4).toNatClampNeg)) (lt (p1 - p1 / (q1.2.1 103 (Int32.ofInt 4).toNatClampNeg) * (q1.2.1 103 (Int32.ofInt 4).toNatClampNeg)) (fun v7 => (f_X10_columnOf p0 q1.2).bind (fun q8 => (f_X10_abs (v7 - q8.1) q8.2).bind (fun q9 => (f_X10_rowOf p0 q9.2).bind (fun q10 => (f_X10_abs ((p1 / (q1.2.1 103 (Int32.ofInt 4).toNatClampNeg)) - q10.1) q10.2).bind (fun q11 => (if q9.1 = 0 then (if q11.1 = 0 then some ((Int32.ofInt 0), q11.2) else f_X10_canGo_j66 p0 v7 (p1 / (q1.2.1 103 (Int32.ofInt 4).toNatClampNeg)) q9.1 q11.1 q11.2) else f_X10_canGo_j66 p0 v7 (p1 / (q1.2.1 103 (Int32.ofInt 4).toNatClampNeg)) q9.1 q11.1 q11.2)))))))))) else some ((Int32.ofInt 0), q1.2)))
set_option maxHeartbeats 2000000 in
set_option maxRecDepth 20000 in
theorem e_X10_canGo {l : Launch} {d : Nat} (hd : 4 ≤ d) (p0 : Int32) (p1 : Int32) (s : ST) (r : Int32 × ST) (hf : f_X10_canGo p0 p1 s = some r) : Cl l d mi_X10_canGo [.ref 65, .int p0, .int p1] (hp s) (some (.int r.1), hp r.2) := by
  refine Ev.entry (by decide +kernel) rfl rfl ?_
  show Ev l d mi_X10_canGo 0 [some (.ref 65), some (.int p0), some (.int p1), none, none, none, none, none, none] [] (hp s) 0 0 _
  unfold f_X10_canGo at hf
  refine Ev.blk (pc' := 2) [(.aload_n 0, 0, 0, 0), (.iload_n 1, 0, 0, 0)] (by decide +kernel) trivial rfl (?_)
  show Ev l d mi_X10_canGo 2 [some (.ref 65), some (.int p0), some (.int p1), none, none, none, none, none, none] [.int p0, .ref 65] (hp s) 0 0 _
  obtain ⟨q1, hq1, hf⟩ := bd_some hf
  refine Ev.callV (o := 65) (M' := mi_X10_isTaken) (d' := d - 1) (As := [.int p0]) (rest := []) (r' := (some (.int q1.1), hp q1.2)) (e_X10_isTaken (d := d - 1) (by omega) p0 s _ hq1) (by omega) wm_X10_isTaken wi_X10_isTaken wv_X10_isTaken km_10_458 (kc rfl rfl) (Nat.le_of_ble_eq_true rfl) rfl rfl rfl (Nat.le_of_ble_eq_true rfl) ⟨Nat.le_of_ble_eq_true rfl, Nat.le_of_ble_eq_true rfl⟩ (by decide +kernel) ?_
  show Ev l d mi_X10_canGo 5 [some (.ref 65), some (.int p0), some (.int p1), none, none, none, none, none, none] [.int q1.1] (hp q1.2) 0 0 _
  refine Ev.if_eq (off := 5) (tgt := 10) (by decide +kernel) (by decide) (fun b2 => ?_) (fun b2 => ?_)
  · have hf := (if_pos b2).symm.trans hf
    obtain ⟨c3, hf⟩ := gd_some hf
    obtain ⟨c4, hf⟩ := gd_some hf
    obtain ⟨c5, hf⟩ := gd_some hf
    obtain ⟨c6, hf⟩ := gd_some hf
    obtain ⟨v7, hv7, hf⟩ := lt_some hf
    refine Ev.blk (pc' := 32) [(.iload_n 2, 0, 0, 0), (.aload_n 0, 0, 0, 0), (.getfield 127, 0, 10, 47), (.iconst 4, 0, 0, 0), (.iaload, 0, 0, 0), (.irem, 0, 0, 0), (.istore_n 3, 0, 0, 0), (.iload_n 2, 0, 0, 0), (.aload_n 0, 0, 0, 0), (.getfield 127, 0, 10, 47), (.iconst 4, 0, 0, 0), (.iaload, 0, 0, 0), (.idiv, 0, 0, 0), (.istore 4, 0, 0, 0), (.iload_n 3, 0, 0, 0), (.aload_n 0, 0, 0, 0), (.iload_n 1, 0, 0, 0)] (by decide +kernel) ⟨kf_10_127, ⟨kf_10_127, trivial⟩⟩ rfl (And.intro (kc rfl rfl) (Exists.intro 103 (And.intro rfl (And.intro (kc rfl rfl) (And.intro (ib_ok c3) (And.intro (nz_ok c4) (And.intro (Nat.le_of_ble_eq_true rfl) (And.intro (kc rfl rfl) (Exists.intro 103 (And.intro rfl (And.intro (kc rfl rfl) (And.intro (ib_ok c5) (And.intro (nz_ok c6) (And.intro (Nat.le_of_ble_eq_true rfl) (?_)))))))))))))))
    show Ev l d mi_X10_canGo 32 [some (.ref 65), some (.int p0), some (.int p1), some (.int (p1 - p1 / (q1.2.1 103 (Int32.ofInt 4).toNatClampNeg) * (q1.2.1 103 (Int32.ofInt 4).toNatClampNeg))), some (.int (p1 / (q1.2.1 103 (Int32.ofInt 4).toNatClampNeg))), none, none, none, none] [.int p0, .ref 65, .int (p1 - p1 / (q1.2.1 103 (Int32.ofInt 4).toNatClampNeg) * (q1.2.1 103 (Int32.ofInt 4).toNatClampNeg))] (hp q1.2) 0 0 _
    rw [← hv7]
    obtain ⟨q8, hq8, hf⟩ := bd_some hf
    refine Ev.callV (o := 65) (M' := mi_X10_columnOf) (d' := d - 1) (As := [.int p0]) (rest := [.int v7]) (r' := (some (.int q8.1), hp q8.2)) (e_X10_columnOf (d := d - 1) (by omega) p0 q1.2 _ hq8) (by omega) wm_X10_columnOf wi_X10_columnOf wv_X10_columnOf km_10_439 (kc rfl rfl) (Nat.le_of_ble_eq_true rfl) rfl rfl rfl (Nat.le_of_ble_eq_true rfl) ⟨Nat.le_of_ble_eq_true rfl, Nat.le_of_ble_eq_true rfl⟩ (by decide +kernel) ?_
    show Ev l d mi_X10_canGo 35 [some (.ref 65), some (.int p0), some (.int p1), some (.int v7), some (.int (p1 / (q1.2.1 103 (Int32.ofInt 4).toNatClampNeg))), none, none, none, none] [.int q8.1, .int v7] (hp q8.2) 0 0 _
    refine Ev.blk (pc' := 36) [(.isub, 0, 0, 0)] (by decide +kernel) trivial rfl (?_)
    show Ev l d mi_X10_canGo 36 [some (.ref 65), some (.int p0), some (.int p1), some (.int v7), some (.int (p1 / (q1.2.1 103 (Int32.ofInt 4).toNatClampNeg))), none, none, none, none] [.int (v7 - q8.1)] (hp q8.2) 0 0 _
    obtain ⟨q9, hq9, hf⟩ := bd_some hf
    refine Ev.callS (M' := mi_X10_abs) (d' := d - 1) (As := [.int (v7 - q8.1)]) (rest := []) (r' := (some (.int q9.1), hp q9.2)) (e_X10_abs (d := d - 1) (by omega) (v7 - q8.1) q8.2 _ hq9) (by omega) wm_X10_abs wt_X10_abs km_10_449 rfl rfl rfl (Nat.le_of_ble_eq_true rfl) ⟨Nat.le_of_ble_eq_true rfl, Nat.le_of_ble_eq_true rfl⟩ (by decide +kernel) ?_
    show Ev l d mi_X10_canGo 39 [some (.ref 65), some (.int p0), some (.int p1), some (.int v7), some (.int (p1 / (q1.2.1 103 (Int32.ofInt 4).toNatClampNeg))), none, none, none, none] [.int q9.1] (hp q9.2) 0 0 _
    refine Ev.blk (pc' := 45) [(.istore 5, 0, 0, 0), (.iload 4, 0, 0, 0), (.aload_n 0, 0, 0, 0), (.iload_n 1, 0, 0, 0)] (by decide +kernel) trivial rfl (And.intro (Nat.le_of_ble_eq_true rfl) (?_))
    show Ev l d mi_X10_canGo 45 [some (.ref 65), some (.int p0), some (.int p1), some (.int v7), some (.int (p1 / (q1.2.1 103 (Int32.ofInt 4).toNatClampNeg))), some (.int q9.1), none, none, none] [.int p0, .ref 65, .int (p1 / (q1.2.1 103 (Int32.ofInt 4).toNatClampNeg))] (hp q9.2) 0 0 _
    obtain ⟨q10, hq10, hf⟩ := bd_some hf
    refine Ev.callV (o := 65) (M' := mi_X10_rowOf) (d' := d - 1) (As := [.int p0]) (rest := [.int (p1 / (q1.2.1 103 (Int32.ofInt 4).toNatClampNeg))]) (r' := (some (.int q10.1), hp q10.2)) (e_X10_rowOf (d := d - 1) (by omega) p0 q9.2 _ hq10) (by omega) wm_X10_rowOf wi_X10_rowOf wv_X10_rowOf km_10_446 (kc rfl rfl) (Nat.le_of_ble_eq_true rfl) rfl rfl rfl (Nat.le_of_ble_eq_true rfl) ⟨Nat.le_of_ble_eq_true rfl, Nat.le_of_ble_eq_true rfl⟩ (by decide +kernel) ?_
    show Ev l d mi_X10_canGo 48 [some (.ref 65), some (.int p0), some (.int p1), some (.int v7), some (.int (p1 / (q1.2.1 103 (Int32.ofInt 4).toNatClampNeg))), some (.int q9.1), none, none, none] [.int q10.1, .int (p1 / (q1.2.1 103 (Int32.ofInt 4).toNatClampNeg))] (hp q10.2) 0 0 _
    refine Ev.blk (pc' := 49) [(.isub, 0, 0, 0)] (by decide +kernel) trivial rfl (?_)
    show Ev l d mi_X10_canGo 49 [some (.ref 65), some (.int p0), some (.int p1), some (.int v7), some (.int (p1 / (q1.2.1 103 (Int32.ofInt 4).toNatClampNeg))), some (.int q9.1), none, none, none] [.int ((p1 / (q1.2.1 103 (Int32.ofInt 4).toNatClampNeg)) - q10.1)] (hp q10.2) 0 0 _
    obtain ⟨q11, hq11, hf⟩ := bd_some hf
    refine Ev.callS (M' := mi_X10_abs) (d' := d - 1) (As := [.int ((p1 / (q1.2.1 103 (Int32.ofInt 4).toNatClampNeg)) - q10.1)]) (rest := []) (r' := (some (.int q11.1), hp q11.2)) (e_X10_abs (d := d - 1) (by omega) ((p1 / (q1.2.1 103 (Int32.ofInt 4).toNatClampNeg)) - q10.1) q10.2 _ hq11) (by omega) wm_X10_abs wt_X10_abs km_10_449 rfl rfl rfl (Nat.le_of_ble_eq_true rfl) ⟨Nat.le_of_ble_eq_true rfl, Nat.le_of_ble_eq_true rfl⟩ (by decide +kernel) ?_
    show Ev l d mi_X10_canGo 52 [some (.ref 65), some (.int p0), some (.int p1), some (.int v7), some (.int (p1 / (q1.2.1 103 (Int32.ofInt 4).toNatClampNeg))), some (.int q9.1), none, none, none] [.int q11.1] (hp q11.2) 0 0 _
    refine Ev.blk (pc' := 56) [(.istore 6, 0, 0, 0), (.iload 5, 0, 0, 0)] (by decide +kernel) trivial rfl (And.intro (Nat.le_of_ble_eq_true rfl) (?_))
    show Ev l d mi_X10_canGo 56 [some (.ref 65), some (.int p0), some (.int p1), some (.int v7), some (.int (p1 / (q1.2.1 103 (Int32.ofInt 4).toNatClampNeg))), some (.int q9.1), some (.int q11.1), none, none] [.int q9.1] (hp q11.2) 0 0 _
    refine Ev.if_ne (off := 10) (tgt := 66) (by decide +kernel) (by decide) (fun b12 => ?_) (fun b12 => ?_)
    · have hf := (if_neg b12).symm.trans hf
      exact Ev.wk ((e_X10_canGo_j66 hd) p0 v7 (p1 / (q1.2.1 103 (Int32.ofInt 4).toNatClampNeg)) q9.1 q11.1 q11.2 _ hf) (And.intro (Or.inr rfl) (And.intro (Or.inr rfl) (And.intro (Or.inl rfl) (And.intro (Or.inr rfl) (And.intro (Or.inr rfl) (And.intro (Or.inr rfl) (And.intro (Or.inr rfl) (And.intro (Or.inr rfl) (And.intro (Or.inr rfl) (trivial))))))))))
    · have hf := (if_pos b12).symm.trans hf
      refine Ev.blk (pc' := 61) [(.iload 6, 0, 0, 0)] (by decide +kernel) trivial rfl (?_)
      show Ev l d mi_X10_canGo 61 [some (.ref 65), some (.int p0), some (.int p1), some (.int v7), some (.int (p1 / (q1.2.1 103 (Int32.ofInt 4).toNatClampNeg))), some (.int q9.1), some (.int q11.1), none, none] [.int q11.1] (hp q11.2) 0 0 _
      refine Ev.if_ne (off := 5) (tgt := 66) (by decide +kernel) (by decide) (fun b13 => ?_) (fun b13 => ?_)
      · have hf := (if_neg b13).symm.trans hf
        exact Ev.wk ((e_X10_canGo_j66 hd) p0 v7 (p1 / (q1.2.1 103 (Int32.ofInt 4).toNatClampNeg)) q9.1 q11.1 q11.2 _ hf) (And.intro (Or.inr rfl) (And.intro (Or.inr rfl) (And.intro (Or.inl rfl) (And.intro (Or.inr rfl) (And.intro (Or.inr rfl) (And.intro (Or.inr rfl) (And.intro (Or.inr rfl) (And.intro (Or.inr rfl) (And.intro (Or.inr rfl) (trivial))))))))))
      · have hf := (if_pos b13).symm.trans hf
        refine Ev.blk (pc' := 65) [(.iconst 0, 0, 0, 0)] (by decide +kernel) trivial rfl (?_)
        show Ev l d mi_X10_canGo 65 [some (.ref 65), some (.int p0), some (.int p1), some (.int v7), some (.int (p1 / (q1.2.1 103 (Int32.ofInt 4).toNatClampNeg))), some (.int q9.1), some (.int q11.1), none, none] [.int (Int32.ofInt 0)] (hp q11.2) 0 0 _
        cases hf
        exact Ev.iret .boolean rfl rfl (by decide +kernel) (Nat.le_refl _) (Nat.le_refl _)
  · have hf := (if_neg b2).symm.trans hf
    refine Ev.blk (pc' := 9) [(.iconst 0, 0, 0, 0)] (by decide +kernel) trivial rfl (?_)
    show Ev l d mi_X10_canGo 9 [some (.ref 65), some (.int p0), some (.int p1), none, none, none, none, none, none] [.int (Int32.ofInt 0)] (hp q1.2) 0 0 _
    cases hf
    exact Ev.iret .boolean rfl rfl (by decide +kernel) (Nat.le_refl _) (Nat.le_refl _)
def f_X10_movesOf_L4 : Nat → Int32 → Int32 → Int32 → ST → Option (Int32 × ST)
  | 0, _, _, _, _ => none
  | n + 1, x1, x2, x3, s => (f_X10_places s).bind (fun q1 => (if q1.1 ≤ x3 then some (x2, q1.2) else (f_X10_canGo x1 x3 q1.2).bind (fun q3 => (if q3.1 = 0 then (f_X10_movesOf_L4 n) x1 x2 (x3 + Int32.ofInt 1) q3.2 else (f_X10_movesOf_L4 n) x1 (x2 + Int32.ofInt 1) (x3 + Int32.ofInt 1) q3.2))))
set_option maxHeartbeats 2000000 in
set_option maxRecDepth 20000 in
theorem e_X10_movesOf_L4 {l : Launch} {d : Nat} (hd : 5 ≤ d) : ∀ (n : Nat) (x1 : Int32) (x2 : Int32) (x3 : Int32) (s : ST) (r : Int32 × ST), f_X10_movesOf_L4 n x1 x2 x3 s = some r → Ev l d mi_X10_movesOf 4 [some (.ref 65), some (.int x1), some (.int x2), some (.int x3)] [] (hp s) 0 0 (some (.int r.1), hp r.2) := by
  intro n
  induction n with
  | zero =>
    intro x1 x2 x3 s r hf
    cases hf
  | succ n ih =>
    intro x1 x2 x3 s r hf
    unfold f_X10_movesOf_L4 at hf
    refine Ev.blk (pc' := 6) [(.iload_n 3, 0, 0, 0), (.aload_n 0, 0, 0, 0)] (by decide +kernel) trivial rfl (?_)
    show Ev l d mi_X10_movesOf 6 [some (.ref 65), some (.int x1), some (.int x2), some (.int x3)] [.ref 65, .int x3] (hp s) 0 0 _
    obtain ⟨q1, hq1, hf⟩ := bd_some hf
    refine Ev.callV (o := 65) (M' := mi_X10_places) (d' := d - 1) (As := []) (rest := [.int x3]) (r' := (some (.int q1.1), hp q1.2)) (e_X10_places (d := d - 1) (by omega) s _ hq1) (by omega) wm_X10_places wi_X10_places wv_X10_places km_10_471 (kc rfl rfl) (Nat.le_of_ble_eq_true rfl) rfl rfl rfl (Nat.le_of_ble_eq_true rfl) ⟨Nat.le_of_ble_eq_true rfl, Nat.le_of_ble_eq_true rfl⟩ (by decide +kernel) ?_
    show Ev l d mi_X10_movesOf 9 [some (.ref 65), some (.int x1), some (.int x2), some (.int x3)] [.int q1.1, .int x3] (hp q1.2) 0 0 _
    refine Ev.icmp_ge (off := 21) (tgt := 30) (by decide +kernel) (by decide) (fun b2 => ?_) (fun b2 => ?_)
    · have hf := (if_pos b2).symm.trans hf
      refine Ev.blk (pc' := 31) [(.iload_n 2, 0, 0, 0)] (by decide +kernel) trivial rfl (?_)
      show Ev l d mi_X10_movesOf 31 [some (.ref 65), some (.int x1), some (.int x2), some (.int x3)] [.int x2] (hp q1.2) 0 0 _
      cases hf
      exact Ev.iret .int rfl rfl (by decide +kernel) (Nat.le_refl _) (Nat.le_refl _)
    · have hf := (if_neg b2).symm.trans hf
      refine Ev.blk (pc' := 15) [(.aload_n 0, 0, 0, 0), (.iload_n 1, 0, 0, 0), (.iload_n 3, 0, 0, 0)] (by decide +kernel) trivial rfl (?_)
      show Ev l d mi_X10_movesOf 15 [some (.ref 65), some (.int x1), some (.int x2), some (.int x3)] [.int x3, .int x1, .ref 65] (hp q1.2) 0 0 _
      obtain ⟨q3, hq3, hf⟩ := bd_some hf
      refine Ev.callV (o := 65) (M' := mi_X10_canGo) (d' := d - 1) (As := [.int x1, .int x3]) (rest := []) (r' := (some (.int q3.1), hp q3.2)) (e_X10_canGo (d := d - 1) (by omega) x1 x3 q1.2 _ hq3) (by omega) wm_X10_canGo wi_X10_canGo wv_X10_canGo km_10_474 (kc rfl rfl) (Nat.le_of_ble_eq_true rfl) rfl rfl rfl (Nat.le_of_ble_eq_true rfl) ⟨Nat.le_of_ble_eq_true rfl, Nat.le_of_ble_eq_true rfl⟩ (by decide +kernel) ?_
      show Ev l d mi_X10_movesOf 18 [some (.ref 65), some (.int x1), some (.int x2), some (.int x3)] [.int q3.1] (hp q3.2) 0 0 _
      refine Ev.if_eq (off := 6) (tgt := 24) (by decide +kernel) (by decide) (fun b4 => ?_) (fun b4 => ?_)
      · have hf := (if_pos b4).symm.trans hf
        refine Ev.blk (pc' := 27) [(.iinc 3 1, 0, 0, 0)] (by decide +kernel) trivial rfl (And.intro (Nat.le_of_ble_eq_true rfl) (?_))
        show Ev l d mi_X10_movesOf 27 [some (.ref 65), some (.int x1), some (.int x2), some (.int (x3 + Int32.ofInt 1))] [] (hp q3.2) 0 0 _
        refine Ev.goto (off := -23) (tgt := 4) (by decide +kernel) (by decide) ?_
        exact ih x1 x2 (x3 + Int32.ofInt 1) q3.2 _ hf
      · have hf := (if_neg b4).symm.trans hf
        refine Ev.blk (pc' := 27) [(.iinc 2 1, 0, 0, 0), (.iinc 3 1, 0, 0, 0)] (by decide +kernel) trivial rfl (And.intro (Nat.le_of_ble_eq_true rfl) (And.intro (Nat.le_of_ble_eq_true rfl) (?_)))
        show Ev l d mi_X10_movesOf 27 [some (.ref 65), some (.int x1), some (.int (x2 + Int32.ofInt 1)), some (.int (x3 + Int32.ofInt 1))] [] (hp q3.2) 0 0 _
        refine Ev.goto (off := -23) (tgt := 4) (by decide +kernel) (by decide) ?_
        exact ih x1 (x2 + Int32.ofInt 1) (x3 + Int32.ofInt 1) q3.2 _ hf
def f_X10_movesOf (p0 : Int32) (s : ST) : Option (Int32 × ST) := (f_X10_movesOf_L4 fuel) p0 (Int32.ofInt 0) (Int32.ofInt 0) s
set_option maxHeartbeats 2000000 in
set_option maxRecDepth 20000 in
theorem e_X10_movesOf {l : Launch} {d : Nat} (hd : 5 ≤ d) (p0 : Int32) (s : ST) (r : Int32 × ST) (hf : f_X10_movesOf p0 s = some r) : Cl l d mi_X10_movesOf [.ref 65, .int p0] (hp s) (some (.int r.1), hp r.2) := by
  refine Ev.entry (by decide +kernel) rfl rfl ?_
  show Ev l d mi_X10_movesOf 0 [some (.ref 65), some (.int p0), none, none] [] (hp s) 0 0 _
  unfold f_X10_movesOf at hf
  refine Ev.blk (pc' := 4) [(.iconst 0, 0, 0, 0), (.istore_n 2, 0, 0, 0), (.iconst 0, 0, 0, 0), (.istore_n 3, 0, 0, 0)] (by decide +kernel) trivial rfl (And.intro (Nat.le_of_ble_eq_true rfl) (And.intro (Nat.le_of_ble_eq_true rfl) (?_)))
  show Ev l d mi_X10_movesOf 4 [some (.ref 65), some (.int p0), some (.int (Int32.ofInt 0)), some (.int (Int32.ofInt 0))] [] (hp s) 0 0 _
  exact (e_X10_movesOf_L4 hd fuel) p0 (Int32.ofInt 0) (Int32.ofInt 0) s _ hf
def f_X10_hasMove_L2 : Nat → Int32 → ST → Option (Int32 × ST)
  | 0, _, _ => none
  | n + 1, x1, s => (f_X10_manMany s).bind (fun q1 => (if q1.1 ≤ x1 then some ((Int32.ofInt 0), q1.2) else (f_X10_sideOf x1 q1.2).bind (fun q3 => gd (ib (Int32.ofInt 1) 225) ((if q3.1 = (q3.2.1 112 (Int32.ofInt 1).toNatClampNeg) then (f_X10_movesOf x1 q3.2).bind (fun q6 => (if q6.1 ≤ 0 then (f_X10_hasMove_L2 n) (x1 + Int32.ofInt 1) q6.2 else some ((Int32.ofInt 1), q6.2))) else (f_X10_hasMove_L2 n) (x1 + Int32.ofInt 1) q3.2)))))
set_option maxHeartbeats 2000000 in
set_option maxRecDepth 20000 in
theorem e_X10_hasMove_L2 {l : Launch} {d : Nat} (hd : 6 ≤ d) : ∀ (n : Nat) (x1 : Int32) (s : ST) (r : Int32 × ST), f_X10_hasMove_L2 n x1 s = some r → Ev l d mi_X10_hasMove 2 [some (.ref 65), some (.int x1)] [] (hp s) 0 0 (some (.int r.1), hp r.2) := by
  intro n
  induction n with
  | zero =>
    intro x1 s r hf
    cases hf
  | succ n ih =>
    intro x1 s r hf
    unfold f_X10_hasMove_L2 at hf
    refine Ev.blk (pc' := 4) [(.iload_n 1, 0, 0, 0), (.aload_n 0, 0, 0, 0)] (by decide +kernel) trivial rfl (?_)
    show Ev l d mi_X10_hasMove 4 [some (.ref 65), some (.int x1)] [.ref 65, .int x1] (hp s) 0 0 _
    obtain ⟨q1, hq1, hf⟩ := bd_some hf
    refine Ev.callV (o := 65) (M' := mi_X10_manMany) (d' := d - 1) (As := []) (rest := [.int x1]) (r' := (some (.int q1.1), hp q1.2)) (e_X10_manMany (d := d - 1) (by omega) s _ hq1) (by omega) wm_X10_manMany wi_X10_manMany wv_X10_manMany km_10_433 (kc rfl rfl) (Nat.le_of_ble_eq_true rfl) rfl rfl rfl (Nat.le_of_ble_eq_true rfl) ⟨Nat.le_of_ble_eq_true rfl, Nat.le_of_ble_eq_true rfl⟩ (by decide +kernel) ?_
    show Ev l d mi_X10_hasMove 7 [some (.ref 65), some (.int x1)] [.int q1.1, .int x1] (hp q1.2) 0 0 _
    refine Ev.icmp_ge (off := 33) (tgt := 40) (by decide +kernel) (by decide) (fun b2 => ?_) (fun b2 => ?_)
    · have hf := (if_pos b2).symm.trans hf
      refine Ev.blk (pc' := 41) [(.iconst 0, 0, 0, 0)] (by decide +kernel) trivial rfl (?_)
      show Ev l d mi_X10_hasMove 41 [some (.ref 65), some (.int x1)] [.int (Int32.ofInt 0)] (hp q1.2) 0 0 _
      cases hf
      exact Ev.iret .boolean rfl rfl (by decide +kernel) (Nat.le_refl _) (Nat.le_refl _)
    · have hf := (if_neg b2).symm.trans hf
      refine Ev.blk (pc' := 12) [(.aload_n 0, 0, 0, 0), (.iload_n 1, 0, 0, 0)] (by decide +kernel) trivial rfl (?_)
      show Ev l d mi_X10_hasMove 12 [some (.ref 65), some (.int x1)] [.int x1, .ref 65] (hp q1.2) 0 0 _
      obtain ⟨q3, hq3, hf⟩ := bd_some hf
      refine Ev.callV (o := 65) (M' := mi_X10_sideOf) (d' := d - 1) (As := [.int x1]) (rest := []) (r' := (some (.int q3.1), hp q3.2)) (e_X10_sideOf (d := d - 1) (by omega) x1 q1.2 _ hq3) (by omega) wm_X10_sideOf wi_X10_sideOf wv_X10_sideOf km_10_468 (kc rfl rfl) (Nat.le_of_ble_eq_true rfl) rfl rfl rfl (Nat.le_of_ble_eq_true rfl) ⟨Nat.le_of_ble_eq_true rfl, Nat.le_of_ble_eq_true rfl⟩ (by decide +kernel) ?_
      show Ev l d mi_X10_hasMove 15 [some (.ref 65), some (.int x1)] [.int q3.1] (hp q3.2) 0 0 _
      obtain ⟨c4, hf⟩ := gd_some hf
      refine Ev.blk (pc' := 21) [(.aload_n 0, 0, 0, 0), (.getfield 154, 0, 10, 62), (.iconst 1, 0, 0, 0), (.iaload, 0, 0, 0)] (by decide +kernel) ⟨kf_10_154, trivial⟩ rfl (And.intro (kc rfl rfl) (Exists.intro 112 (And.intro rfl (And.intro (kc rfl rfl) (And.intro (ib_ok c4) (?_))))))
      show Ev l d mi_X10_hasMove 21 [some (.ref 65), some (.int x1)] [.int (q3.2.1 112 (Int32.ofInt 1).toNatClampNeg), .int q3.1] (hp q3.2) 0 0 _
      refine Ev.icmp_ne (off := 13) (tgt := 34) (by decide +kernel) (by decide) (fun b5 => ?_) (fun b5 => ?_)
      · have hf := (if_neg b5).symm.trans hf
        refine Ev.blk (pc' := 37) [(.iinc 1 1, 0, 0, 0)] (by decide +kernel) trivial rfl (And.intro (Nat.le_of_ble_eq_true rfl) (?_))
        show Ev l d mi_X10_hasMove 37 [some (.ref 65), some (.int (x1 + Int32.ofInt 1))] [] (hp q3.2) 0 0 _
        refine Ev.goto (off := -35) (tgt := 2) (by decide +kernel) (by decide) ?_
        exact ih (x1 + Int32.ofInt 1) q3.2 _ hf
      · have hf := (if_pos b5).symm.trans hf
        refine Ev.blk (pc' := 26) [(.aload_n 0, 0, 0, 0), (.iload_n 1, 0, 0, 0)] (by decide +kernel) trivial rfl (?_)
        show Ev l d mi_X10_hasMove 26 [some (.ref 65), some (.int x1)] [.int x1, .ref 65] (hp q3.2) 0 0 _
        obtain ⟨q6, hq6, hf⟩ := bd_some hf
        refine Ev.callV (o := 65) (M' := mi_X10_movesOf) (d' := d - 1) (As := [.int x1]) (rest := []) (r' := (some (.int q6.1), hp q6.2)) (e_X10_movesOf (d := d - 1) (by omega) x1 q3.2 _ hq6) (by omega) wm_X10_movesOf wi_X10_movesOf wv_X10_movesOf km_10_478 (kc rfl rfl) (Nat.le_of_ble_eq_true rfl) rfl rfl rfl (Nat.le_of_ble_eq_true rfl) ⟨Nat.le_of_ble_eq_true rfl, Nat.le_of_ble_eq_true rfl⟩ (by decide +kernel) ?_
        show Ev l d mi_X10_hasMove 29 [some (.ref 65), some (.int x1)] [.int q6.1] (hp q6.2) 0 0 _
        refine Ev.if_le (off := 5) (tgt := 34) (by decide +kernel) (by decide) (fun b7 => ?_) (fun b7 => ?_)
        · have hf := (if_pos b7).symm.trans hf
          refine Ev.blk (pc' := 37) [(.iinc 1 1, 0, 0, 0)] (by decide +kernel) trivial rfl (And.intro (Nat.le_of_ble_eq_true rfl) (?_))
          show Ev l d mi_X10_hasMove 37 [some (.ref 65), some (.int (x1 + Int32.ofInt 1))] [] (hp q6.2) 0 0 _
          refine Ev.goto (off := -35) (tgt := 2) (by decide +kernel) (by decide) ?_
          exact ih (x1 + Int32.ofInt 1) q6.2 _ hf
        · have hf := (if_neg b7).symm.trans hf
          refine Ev.blk (pc' := 33) [(.iconst 1, 0, 0, 0)] (by decide +kernel) trivial rfl (?_)
          show Ev l d mi_X10_hasMove 33 [some (.ref 65), some (.int x1)] [.int (Int32.ofInt 1)] (hp q6.2) 0 0 _
          cases hf
          exact Ev.iret .boolean rfl rfl (by decide +kernel) (Nat.le_refl _) (Nat.le_refl _)
def f_X10_hasMove (s : ST) : Option (Int32 × ST) := (f_X10_hasMove_L2 fuel) (Int32.ofInt 0) s
set_option maxHeartbeats 2000000 in
set_option maxRecDepth 20000 in
theorem e_X10_hasMove {l : Launch} {d : Nat} (hd : 6 ≤ d) (s : ST) (r : Int32 × ST) (hf : f_X10_hasMove s = some r) : Cl l d mi_X10_hasMove [.ref 65] (hp s) (some (.int r.1), hp r.2) := by
  refine Ev.entry (by decide +kernel) rfl rfl ?_
  show Ev l d mi_X10_hasMove 0 [some (.ref 65), none] [] (hp s) 0 0 _
  unfold f_X10_hasMove at hf
  refine Ev.blk (pc' := 2) [(.iconst 0, 0, 0, 0), (.istore_n 1, 0, 0, 0)] (by decide +kernel) trivial rfl (And.intro (Nat.le_of_ble_eq_true rfl) (?_))
  show Ev l d mi_X10_hasMove 2 [some (.ref 65), some (.int (Int32.ofInt 0))] [] (hp s) 0 0 _
  exact (e_X10_hasMove_L2 hd fuel) (Int32.ofInt 0) s _ hf
def f_X10_isCrownTaken_L2 : Nat → Int32 → ST → Option (Int32 × ST)
  | 0, _, _ => none
  | n + 1, x1, s => (f_X10_manMany s).bind (fun q1 => (if q1.1 ≤ x1 then some ((Int32.ofInt 0), q1.2) else (f_X10_isCrown x1 q1.2).bind (fun q3 => (if q3.1 = 0 then (f_X10_isCrownTaken_L2 n) (x1 + Int32.ofInt 1) q3.2 else (f_X10_isTaken x1 q3.2).bind (fun q5 => (if q5.1 = 0 then (f_X10_isCrownTaken_L2 n) (x1 + Int32.ofInt 1) q5.2 else some ((Int32.ofInt 1), q5.2)))))))
set_option maxHeartbeats 2000000 in
set_option maxRecDepth 20000 in
theorem e_X10_isCrownTaken_L2 {l : Launch} {d : Nat} (hd : 3 ≤ d) : ∀ (n : Nat) (x1 : Int32) (s : ST) (r : Int32 × ST), f_X10_isCrownTaken_L2 n x1 s = some r → Ev l d mi_X10_isCrownTaken 2 [some (.ref 65), some (.int x1)] [] (hp s) 0 0 (some (.int r.1), hp r.2) := by
  intro n
  induction n with
  | zero =>
    intro x1 s r hf
    cases hf
  | succ n ih =>
    intro x1 s r hf
    unfold f_X10_isCrownTaken_L2 at hf
    refine Ev.blk (pc' := 4) [(.iload_n 1, 0, 0, 0), (.aload_n 0, 0, 0, 0)] (by decide +kernel) trivial rfl (?_)
    show Ev l d mi_X10_isCrownTaken 4 [some (.ref 65), some (.int x1)] [.ref 65, .int x1] (hp s) 0 0 _
    obtain ⟨q1, hq1, hf⟩ := bd_some hf
    refine Ev.callV (o := 65) (M' := mi_X10_manMany) (d' := d - 1) (As := []) (rest := [.int x1]) (r' := (some (.int q1.1), hp q1.2)) (e_X10_manMany (d := d - 1) (by omega) s _ hq1) (by omega) wm_X10_manMany wi_X10_manMany wv_X10_manMany km_10_433 (kc rfl rfl) (Nat.le_of_ble_eq_true rfl) rfl rfl rfl (Nat.le_of_ble_eq_true rfl) ⟨Nat.le_of_ble_eq_true rfl, Nat.le_of_ble_eq_true rfl⟩ (by decide +kernel) ?_
    show Ev l d mi_X10_isCrownTaken 7 [some (.ref 65), some (.int x1)] [.int q1.1, .int x1] (hp q1.2) 0 0 _
    refine Ev.icmp_ge (off := 27) (tgt := 34) (by decide +kernel) (by decide) (fun b2 => ?_) (fun b2 => ?_)
    · have hf := (if_pos b2).symm.trans hf
      refine Ev.blk (pc' := 35) [(.iconst 0, 0, 0, 0)] (by decide +kernel) trivial rfl (?_)
      show Ev l d mi_X10_isCrownTaken 35 [some (.ref 65), some (.int x1)] [.int (Int32.ofInt 0)] (hp q1.2) 0 0 _
      cases hf
      exact Ev.iret .boolean rfl rfl (by decide +kernel) (Nat.le_refl _) (Nat.le_refl _)
    · have hf := (if_neg b2).symm.trans hf
      refine Ev.blk (pc' := 12) [(.aload_n 0, 0, 0, 0), (.iload_n 1, 0, 0, 0)] (by decide +kernel) trivial rfl (?_)
      show Ev l d mi_X10_isCrownTaken 12 [some (.ref 65), some (.int x1)] [.int x1, .ref 65] (hp q1.2) 0 0 _
      obtain ⟨q3, hq3, hf⟩ := bd_some hf
      refine Ev.callV (o := 65) (M' := mi_X10_isCrown) (d' := d - 1) (As := [.int x1]) (rest := []) (r' := (some (.int q3.1), hp q3.2)) (e_X10_isCrown (d := d - 1) (by omega) x1 q1.2 _ hq3) (by omega) wm_X10_isCrown wi_X10_isCrown wv_X10_isCrown km_10_481 (kc rfl rfl) (Nat.le_of_ble_eq_true rfl) rfl rfl rfl (Nat.le_of_ble_eq_true rfl) ⟨Nat.le_of_ble_eq_true rfl, Nat.le_of_ble_eq_true rfl⟩ (by decide +kernel) ?_
      show Ev l d mi_X10_isCrownTaken 15 [some (.ref 65), some (.int x1)] [.int q3.1] (hp q3.2) 0 0 _
      refine Ev.if_eq (off := 13) (tgt := 28) (by decide +kernel) (by decide) (fun b4 => ?_) (fun b4 => ?_)
      · have hf := (if_pos b4).symm.trans hf
        refine Ev.blk (pc' := 31) [(.iinc 1 1, 0, 0, 0)] (by decide +kernel) trivial rfl (And.intro (Nat.le_of_ble_eq_true rfl) (?_))
        show Ev l d mi_X10_isCrownTaken 31 [some (.ref 65), some (.int (x1 + Int32.ofInt 1))] [] (hp q3.2) 0 0 _
        refine Ev.goto (off := -29) (tgt := 2) (by decide +kernel) (by decide) ?_
        exact ih (x1 + Int32.ofInt 1) q3.2 _ hf
      · have hf := (if_neg b4).symm.trans hf
        refine Ev.blk (pc' := 20) [(.aload_n 0, 0, 0, 0), (.iload_n 1, 0, 0, 0)] (by decide +kernel) trivial rfl (?_)
        show Ev l d mi_X10_isCrownTaken 20 [some (.ref 65), some (.int x1)] [.int x1, .ref 65] (hp q3.2) 0 0 _
        obtain ⟨q5, hq5, hf⟩ := bd_some hf
        refine Ev.callV (o := 65) (M' := mi_X10_isTaken) (d' := d - 1) (As := [.int x1]) (rest := []) (r' := (some (.int q5.1), hp q5.2)) (e_X10_isTaken (d := d - 1) (by omega) x1 q3.2 _ hq5) (by omega) wm_X10_isTaken wi_X10_isTaken wv_X10_isTaken km_10_458 (kc rfl rfl) (Nat.le_of_ble_eq_true rfl) rfl rfl rfl (Nat.le_of_ble_eq_true rfl) ⟨Nat.le_of_ble_eq_true rfl, Nat.le_of_ble_eq_true rfl⟩ (by decide +kernel) ?_
        show Ev l d mi_X10_isCrownTaken 23 [some (.ref 65), some (.int x1)] [.int q5.1] (hp q5.2) 0 0 _
        refine Ev.if_eq (off := 5) (tgt := 28) (by decide +kernel) (by decide) (fun b6 => ?_) (fun b6 => ?_)
        · have hf := (if_pos b6).symm.trans hf
          refine Ev.blk (pc' := 31) [(.iinc 1 1, 0, 0, 0)] (by decide +kernel) trivial rfl (And.intro (Nat.le_of_ble_eq_true rfl) (?_))
          show Ev l d mi_X10_isCrownTaken 31 [some (.ref 65), some (.int (x1 + Int32.ofInt 1))] [] (hp q5.2) 0 0 _
          refine Ev.goto (off := -29) (tgt := 2) (by decide +kernel) (by decide) ?_
          exact ih (x1 + Int32.ofInt 1) q5.2 _ hf
        · have hf := (if_neg b6).symm.trans hf
          refine Ev.blk (pc' := 27) [(.iconst 1, 0, 0, 0)] (by decide +kernel) trivial rfl (?_)
          show Ev l d mi_X10_isCrownTaken 27 [some (.ref 65), some (.int x1)] [.int (Int32.ofInt 1)] (hp q5.2) 0 0 _
          cases hf
          exact Ev.iret .boolean rfl rfl (by decide +kernel) (Nat.le_refl _) (Nat.le_refl _)
def f_X10_isCrownTaken (s : ST) : Option (Int32 × ST) := (f_X10_isCrownTaken_L2 fuel) (Int32.ofInt 0) s
set_option maxHeartbeats 2000000 in
set_option maxRecDepth 20000 in
theorem e_X10_isCrownTaken {l : Launch} {d : Nat} (hd : 3 ≤ d) (s : ST) (r : Int32 × ST) (hf : f_X10_isCrownTaken s = some r) : Cl l d mi_X10_isCrownTaken [.ref 65] (hp s) (some (.int r.1), hp r.2) := by
  refine Ev.entry (by decide +kernel) rfl rfl ?_
  show Ev l d mi_X10_isCrownTaken 0 [some (.ref 65), none] [] (hp s) 0 0 _
  unfold f_X10_isCrownTaken at hf
  refine Ev.blk (pc' := 2) [(.iconst 0, 0, 0, 0), (.istore_n 1, 0, 0, 0)] (by decide +kernel) trivial rfl (And.intro (Nat.le_of_ble_eq_true rfl) (?_))
  show Ev l d mi_X10_isCrownTaken 2 [some (.ref 65), some (.int (Int32.ofInt 0))] [] (hp s) 0 0 _
  exact (e_X10_isCrownTaken_L2 hd fuel) (Int32.ofInt 0) s _ hf
def f_X10_isOver (s : ST) : Option (Int32 × ST) := (f_X10_isCrownTaken s).bind (fun q1 => (if q1.1 = 0 then (f_X10_hasMove q1.2).bind (fun q3 => (if q3.1 = 0 then some ((Int32.ofInt 1), q3.2) else some ((Int32.ofInt 0), q3.2))) else some ((Int32.ofInt 1), q1.2)))
set_option maxHeartbeats 2000000 in
set_option maxRecDepth 20000 in
theorem e_X10_isOver {l : Launch} {d : Nat} (hd : 7 ≤ d) (s : ST) (r : Int32 × ST) (hf : f_X10_isOver s = some r) : Cl l d mi_X10_isOver [.ref 65] (hp s) (some (.int r.1), hp r.2) := by
  refine Ev.entry (by decide +kernel) rfl rfl ?_
  show Ev l d mi_X10_isOver 0 [some (.ref 65)] [] (hp s) 0 0 _
  unfold f_X10_isOver at hf
  refine Ev.blk (pc' := 1) [(.aload_n 0, 0, 0, 0)] (by decide +kernel) trivial rfl (?_)
  show Ev l d mi_X10_isOver 1 [some (.ref 65)] [.ref 65] (hp s) 0 0 _
  obtain ⟨q1, hq1, hf⟩ := bd_some hf
  refine Ev.callV (o := 65) (M' := mi_X10_isCrownTaken) (d' := d - 1) (As := []) (rest := []) (r' := (some (.int q1.1), hp q1.2)) (e_X10_isCrownTaken (d := d - 1) (by omega) s _ hq1) (by omega) wm_X10_isCrownTaken wi_X10_isCrownTaken wv_X10_isCrownTaken km_10_484 (kc rfl rfl) (Nat.le_of_ble_eq_true rfl) rfl rfl rfl (Nat.le_of_ble_eq_true rfl) ⟨Nat.le_of_ble_eq_true rfl, Nat.le_of_ble_eq_true rfl⟩ (by decide +kernel) ?_
  show Ev l d mi_X10_isOver 4 [some (.ref 65)] [.int q1.1] (hp q1.2) 0 0 _
  refine Ev.if_ne (off := 10) (tgt := 14) (by decide +kernel) (by decide) (fun b2 => ?_) (fun b2 => ?_)
  · have hf := (if_neg b2).symm.trans hf
    refine Ev.blk (pc' := 15) [(.iconst 1, 0, 0, 0)] (by decide +kernel) trivial rfl (?_)
    show Ev l d mi_X10_isOver 15 [some (.ref 65)] [.int (Int32.ofInt 1)] (hp q1.2) 0 0 _
    refine Ev.goto (off := 4) (tgt := 19) (by decide +kernel) (by decide) ?_
    cases hf
    exact Ev.iret .boolean rfl rfl (by decide +kernel) (Nat.le_refl _) (Nat.le_refl _)
  · have hf := (if_pos b2).symm.trans hf
    refine Ev.blk (pc' := 8) [(.aload_n 0, 0, 0, 0)] (by decide +kernel) trivial rfl (?_)
    show Ev l d mi_X10_isOver 8 [some (.ref 65)] [.ref 65] (hp q1.2) 0 0 _
    obtain ⟨q3, hq3, hf⟩ := bd_some hf
    refine Ev.callV (o := 65) (M' := mi_X10_hasMove) (d' := d - 1) (As := []) (rest := []) (r' := (some (.int q3.1), hp q3.2)) (e_X10_hasMove (d := d - 1) (by omega) q1.2 _ hq3) (by omega) wm_X10_hasMove wi_X10_hasMove wv_X10_hasMove km_10_487 (kc rfl rfl) (Nat.le_of_ble_eq_true rfl) rfl rfl rfl (Nat.le_of_ble_eq_true rfl) ⟨Nat.le_of_ble_eq_true rfl, Nat.le_of_ble_eq_true rfl⟩ (by decide +kernel) ?_
    show Ev l d mi_X10_isOver 11 [some (.ref 65)] [.int q3.1] (hp q3.2) 0 0 _
    refine Ev.if_ne (off := 7) (tgt := 18) (by decide +kernel) (by decide) (fun b4 => ?_) (fun b4 => ?_)
    · have hf := (if_neg b4).symm.trans hf
      refine Ev.blk (pc' := 19) [(.iconst 0, 0, 0, 0)] (by decide +kernel) trivial rfl (?_)
      show Ev l d mi_X10_isOver 19 [some (.ref 65)] [.int (Int32.ofInt 0)] (hp q3.2) 0 0 _
      cases hf
      exact Ev.iret .boolean rfl rfl (by decide +kernel) (Nat.le_refl _) (Nat.le_refl _)
    · have hf := (if_pos b4).symm.trans hf
      refine Ev.blk (pc' := 15) [(.iconst 1, 0, 0, 0)] (by decide +kernel) trivial rfl (?_)
      show Ev l d mi_X10_isOver 15 [some (.ref 65)] [.int (Int32.ofInt 1)] (hp q3.2) 0 0 _
      refine Ev.goto (off := 4) (tgt := 19) (by decide +kernel) (by decide) ?_
      cases hf
      exact Ev.iret .boolean rfl rfl (by decide +kernel) (Nat.le_refl _) (Nat.le_refl _)
def f_X10_does_j99 (x2 : Int32) (x4 : Int32) (x5 : Int32) (s : ST) : Option (ST) := gd (ib ((Int32.ofInt 2) + ((Int32.ofInt 2) * x2)) 225) (gd (ib (((Int32.ofInt 2) + ((Int32.ofInt 2) * x2)) + (Int32.ofInt 1)) 225) (gd (ib (Int32.ofInt 1) 225) (gd (ib (Int32.ofInt 1) 225) (lt (uI (uI (uI s 112 ((Int32.ofInt 2) + ((Int32.ofInt 2) * x2)).toNatClampNeg x4) 112 (((Int32.ofInt 2) + ((Int32.ofInt 2) * x2)) + (Int32.ofInt 1)).toNatClampNeg x5) 112 (Int32.ofInt 1).toNatClampNeg ((Int32.ofInt 1) - ((uI (uI s 112 ((Int32.ofInt 2) + ((Int32.ofInt 2) * x2)).toNatClampNeg x4) 112 (((Int32.ofInt 2) + ((Int32.ofInt 2) * x2)) + (Int32.ofInt 1)).toNatClampNeg x5).1 112 (Int32.ofInt 1).toNatClampNeg))) (fun s24 => some s24)))))
set_option maxHeartbeats 2000000 in
set_option maxRecDepth 20000 in
theorem e_X10_does_j99 {l : Launch} {d : Nat} (hd : 3 ≤ d) (x2 : Int32) (x4 : Int32) (x5 : Int32) (s : ST) (r : ST) (hf : f_X10_does_j99 x2 x4 x5 s = some r) : Ev l d mi_X10_does 99 [some (.ref 65), none, some (.int x2), none, some (.int x4), some (.int x5), none] [] (hp s) 0 0 (none, hp r) := by
  unfold f_X10_does_j99 at hf
  obtain ⟨c20, hf⟩ := gd_some hf
  obtain ⟨c21, hf⟩ := gd_some hf
  obtain ⟨c22, hf⟩ := gd_some hf
  obtain ⟨c23, hf⟩ := gd_some hf
  obtain ⟨s24, hs24, hf⟩ := lt_some hf
  refine Ev.blk (pc' := 139) [(.aload_n 0, 0, 0, 0), (.getfield 154, 0, 10, 62), (.iconst 2, 0, 0, 0), (.iconst 2, 0, 0, 0), (.iload_n 2, 0, 0, 0), (.imul, 0, 0, 0), (.iadd, 0, 0, 0), (.iload 4, 0, 0, 0), (.iastore, 0, 0, 0), (.aload_n 0, 0, 0, 0), (.getfield 154, 0, 10, 62), (.iconst 2, 0, 0, 0), (.iconst 2, 0, 0, 0), (.iload_n 2, 0, 0, 0), (.imul, 0, 0, 0), (.iadd, 0, 0, 0), (.iconst 1, 0, 0, 0), (.iadd, 0, 0, 0), (.iload 5, 0, 0, 0), (.iastore, 0, 0, 0), (.aload_n 0, 0, 0, 0), (.getfield 154, 0, 10, 62), (.iconst 1, 0, 0, 0), (.iconst 1, 0, 0, 0), (.aload_n 0, 0, 0, 0), (.getfield 154, 0, 10, 62), (.iconst 1, 0, 0, 0), (.iaload, 0, 0, 0), (.isub, 0, 0, 0), (.iastore, 0, 0, 0)] (by decide +kernel) ⟨kf_10_154, ⟨kf_10_154, ⟨kf_10_154, ⟨kf_10_154, trivial⟩⟩⟩⟩ rfl (And.intro (kc rfl rfl) (Exists.intro 112 (And.intro rfl (And.intro (kc rfl rfl) (And.intro (ib_ok c20) (And.intro (kc rfl rfl) (Exists.intro 112 (And.intro rfl (And.intro (kc rfl rfl) (And.intro (ib_ok c21) (And.intro (kc rfl rfl) (Exists.intro 112 (And.intro rfl (And.intro (kc rfl rfl) (Exists.intro 112 (And.intro rfl (And.intro (kc rfl rfl) (And.intro (ib_ok c22) (And.intro (kc rfl rfl) (And.intro (ib_ok c23) (?_)))))))))))))))))))))
  show Ev l d mi_X10_does 139 [some (.ref 65), none, some (.int x2), none, some (.int x4), some (.int x5), none] [] (hp (uI (uI (uI s 112 ((Int32.ofInt 2) + ((Int32.ofInt 2) * x2)).toNatClampNeg x4) 112 (((Int32.ofInt 2) + ((Int32.ofInt 2) * x2)) + (Int32.ofInt 1)).toNatClampNeg x5) 112 (Int32.ofInt 1).toNatClampNeg ((Int32.ofInt 1) - ((uI (uI s 112 ((Int32.ofInt 2) + ((Int32.ofInt 2) * x2)).toNatClampNeg x4) 112 (((Int32.ofInt 2) + ((Int32.ofInt 2) * x2)) + (Int32.ofInt 1)).toNatClampNeg x5).1 112 (Int32.ofInt 1).toNatClampNeg)))) 0 0 _
  rw [← hs24]
  cases hf
  exact Ev.vret rfl (by decide +kernel) (Nat.le_refl _) (Nat.le_refl _)
def f_X10_does (p0 : Int32) (p1 : Int32) (p2 : Int32) (s : ST) : Option (ST) := gd (ib (Int32.ofInt 4) 8) (gd (nz (s.1 103 (Int32.ofInt 4).toNatClampNeg)) (gd (ib (Int32.ofInt 4) 8) (gd (nz (s.1 103 (Int32.ofInt 4).toNatClampNeg)) (lt (p2 - p2 / (s.1 103 (Int32.ofInt 4).toNatClampNeg) * (s.1 103 (Int32.ofInt 4).toNatClampNeg)) (fun v5 => (f_X10_manAt v5 (p2 / (s.1 103 (Int32.ofInt 4).toNatClampNeg)) s).bind (fun q6 => gd (ib p0 5) (lt (uI q6.2 114 p0.toNatClampNeg p1) (fun s8 => (f_X10_columnOf p1 s8).bind (fun q9 => gd (ib p0 5) (lt (uI q9.2 115 p0.toNatClampNeg q9.1) (fun s11 => (f_X10_rowOf p1 s11).bind (fun q12 => gd (ib p0 5) (gd (ib p0 5) (lt (uI (uI q12.2 116 p0.toNatClampNeg q12.1) 117 p0.toNatClampNeg q6.1) (fun s15 => (if q6.1 = (Int32.ofInt (-1)) then f_X10_does_j99 p1 v5 (p2 / (s.1 103 (Int32.ofInt 4).toNatClampNeg)) s15 else gd (ib ((Int32.ofInt 2) + ((Int32.ofInt 2) * q6.1)) 225) (gd (ib (((Int32.ofInt 2) + ((Int32.ofInt 2) * q6.1)) + (Int32.ofInt 1)) 225) (lt (uI (uI s15 112 ((Int32.ofInt 2) + ((Int32.ofInt 2) * q6.1)).toNatClampNeg (Int32.ofInt (-1))) 112 (((Int32.ofInt 2) + ((Int32.ofInt 2) * q6.1)) + (Int32.ofInt 1)).toNatClampNeg (Int32.ofInt (-1))) (fun s19 => f_X10_does_j99 p1 v5 (p2 / (s.1 103 (Int32.ofInt 4).toNatClampNeg)) s19)))))))))))))))))))
set_option maxHeartbeats 2000000 in
set_option maxRecDepth 20000 in
theorem e_X10_does {l : Launch} {d : Nat} (hd : 3 ≤ d) (p0 : Int32) (p1 : Int32) (p2 : Int32) (s : ST) (r : ST) (hf : f_X10_does p0 p1 p2 s = some r) : Cl l d mi_X10_does [.ref 65, .int p0, .int p1, .int p2] (hp s) (none, hp r) := by
  refine Ev.entry (by decide +kernel) rfl rfl ?_
  show Ev l d mi_X10_does 0 [some (.ref 65), some (.int p0), some (.int p1), some (.int p2), none, none, none] [] (hp s) 0 0 _
  unfold f_X10_does at hf
  obtain ⟨c1, hf⟩ := gd_some hf
  obtain ⟨c2, hf⟩ := gd_some hf
  obtain ⟨c3, hf⟩ := gd_some hf
  obtain ⟨c4, hf⟩ := gd_some hf
  obtain ⟨v5, hv5, hf⟩ := lt_some hf
  refine Ev.blk (pc' := 25) [(.iload_n 3, 0, 0, 0), (.aload_n 0, 0, 0, 0), (.getfield 127, 0, 10, 47), (.iconst 4, 0, 0, 0), (.iaload, 0, 0, 0), (.irem, 0, 0, 0), (.istore 4, 0, 0, 0), (.iload_n 3, 0, 0, 0), (.aload_n 0, 0, 0, 0), (.getfield 127, 0, 10, 47), (.iconst 4, 0, 0, 0), (.iaload, 0, 0, 0), (.idiv, 0, 0, 0), (.istore 5, 0, 0, 0), (.aload_n 0, 0, 0, 0), (.iload 4, 0, 0, 0), (.iload 5, 0, 0, 0)] (by decide +kernel) ⟨kf_10_127, ⟨kf_10_127, trivial⟩⟩ rfl (And.intro (kc rfl rfl) (Exists.intro 103 (And.intro rfl (And.intro (kc rfl rfl) (And.intro (ib_ok c1) (And.intro (nz_ok c2) (And.intro (Nat.le_of_ble_eq_true rfl) (And.intro (kc rfl rfl) (Exists.intro 103 (And.intro rfl (And.intro (kc rfl rfl) (And.intro (ib_ok c3) (And.intro (nz_ok c4) (And.intro (Nat.le_of_ble_eq_true rfl) (?_)))))))))))))))
  show Ev l d mi_X10_does 25 [some (.ref 65), some (.int p0), some (.int p1), some (.int p2), some (.int (p2 - p2 / (s.1 103 (Int32.ofInt 4).toNatClampNeg) * (s.1 103 (Int32.ofInt 4).toNatClampNeg))), some (.int (p2 / (s.1 103 (Int32.ofInt 4).toNatClampNeg))), none] [.int (p2 / (s.1 103 (Int32.ofInt 4).toNatClampNeg)), .int (p2 - p2 / (s.1 103 (Int32.ofInt 4).toNatClampNeg) * (s.1 103 (Int32.ofInt 4).toNatClampNeg)), .ref 65] (hp s) 0 0 _
  rw [← hv5]
  obtain ⟨q6, hq6, hf⟩ := bd_some hf
  refine Ev.callV (o := 65) (M' := mi_X10_manAt) (d' := d - 1) (As := [.int v5, .int (p2 / (s.1 103 (Int32.ofInt 4).toNatClampNeg))]) (rest := []) (r' := (some (.int q6.1), hp q6.2)) (e_X10_manAt (d := d - 1) (by omega) v5 (p2 / (s.1 103 (Int32.ofInt 4).toNatClampNeg)) s _ hq6) (by omega) wm_X10_manAt wi_X10_manAt wv_X10_manAt km_10_455 (kc rfl rfl) (Nat.le_of_ble_eq_true rfl) rfl rfl rfl (Nat.le_of_ble_eq_true rfl) ⟨Nat.le_of_ble_eq_true rfl, Nat.le_of_ble_eq_true rfl⟩ (by decide +kernel) ?_
  show Ev l d mi_X10_does 28 [some (.ref 65), some (.int p0), some (.int p1), some (.int p2), some (.int v5), some (.int (p2 / (s.1 103 (Int32.ofInt 4).toNatClampNeg))), none] [.int q6.1] (hp q6.2) 0 0 _
  obtain ⟨c7, hf⟩ := gd_some hf
  obtain ⟨s8, hs8, hf⟩ := lt_some hf
  refine Ev.blk (pc' := 44) [(.istore 6, 0, 0, 0), (.aload_n 0, 0, 0, 0), (.getfield 160, 0, 10, 64), (.iload_n 1, 0, 0, 0), (.iload_n 2, 0, 0, 0), (.iastore, 0, 0, 0), (.aload_n 0, 0, 0, 0), (.getfield 163, 0, 10, 65), (.iload_n 1, 0, 0, 0), (.aload_n 0, 0, 0, 0), (.iload_n 2, 0, 0, 0)] (by decide +kernel) ⟨kf_10_160, ⟨kf_10_163, trivial⟩⟩ rfl (And.intro (Nat.le_of_ble_eq_true rfl) (And.intro (kc rfl rfl) (Exists.intro 114 (And.intro rfl (And.intro (kc rfl rfl) (And.intro (ib_ok c7) (And.intro (kc rfl rfl) (Exists.intro 115 (And.intro rfl (?_))))))))))
  show Ev l d mi_X10_does 44 [some (.ref 65), some (.int p0), some (.int p1), some (.int p2), some (.int v5), some (.int (p2 / (s.1 103 (Int32.ofInt 4).toNatClampNeg))), some (.int q6.1)] [.int p1, .ref 65, .int p0, .ref 115] (hp (uI q6.2 114 p0.toNatClampNeg p1)) 0 0 _
  rw [← hs8]
  obtain ⟨q9, hq9, hf⟩ := bd_some hf
  refine Ev.callV (o := 65) (M' := mi_X10_columnOf) (d' := d - 1) (As := [.int p1]) (rest := [.int p0, .ref 115]) (r' := (some (.int q9.1), hp q9.2)) (e_X10_columnOf (d := d - 1) (by omega) p1 s8 _ hq9) (by omega) wm_X10_columnOf wi_X10_columnOf wv_X10_columnOf km_10_439 (kc rfl rfl) (Nat.le_of_ble_eq_true rfl) rfl rfl rfl (Nat.le_of_ble_eq_true rfl) ⟨Nat.le_of_ble_eq_true rfl, Nat.le_of_ble_eq_true rfl⟩ (by decide +kernel) ?_
  show Ev l d mi_X10_does 47 [some (.ref 65), some (.int p0), some (.int p1), some (.int p2), some (.int v5), some (.int (p2 / (s.1 103 (Int32.ofInt 4).toNatClampNeg))), some (.int q6.1)] [.int q9.1, .int p0, .ref 115] (hp q9.2) 0 0 _
  obtain ⟨c10, hf⟩ := gd_some hf
  obtain ⟨s11, hs11, hf⟩ := lt_some hf
  refine Ev.blk (pc' := 55) [(.iastore, 0, 0, 0), (.aload_n 0, 0, 0, 0), (.getfield 166, 0, 10, 66), (.iload_n 1, 0, 0, 0), (.aload_n 0, 0, 0, 0), (.iload_n 2, 0, 0, 0)] (by decide +kernel) ⟨kf_10_166, trivial⟩ rfl (And.intro (kc rfl rfl) (And.intro (ib_ok c10) (And.intro (kc rfl rfl) (Exists.intro 116 (And.intro rfl (?_))))))
  show Ev l d mi_X10_does 55 [some (.ref 65), some (.int p0), some (.int p1), some (.int p2), some (.int v5), some (.int (p2 / (s.1 103 (Int32.ofInt 4).toNatClampNeg))), some (.int q6.1)] [.int p1, .ref 65, .int p0, .ref 116] (hp (uI q9.2 115 p0.toNatClampNeg q9.1)) 0 0 _
  rw [← hs11]
  obtain ⟨q12, hq12, hf⟩ := bd_some hf
  refine Ev.callV (o := 65) (M' := mi_X10_rowOf) (d' := d - 1) (As := [.int p1]) (rest := [.int p0, .ref 116]) (r' := (some (.int q12.1), hp q12.2)) (e_X10_rowOf (d := d - 1) (by omega) p1 s11 _ hq12) (by omega) wm_X10_rowOf wi_X10_rowOf wv_X10_rowOf km_10_446 (kc rfl rfl) (Nat.le_of_ble_eq_true rfl) rfl rfl rfl (Nat.le_of_ble_eq_true rfl) ⟨Nat.le_of_ble_eq_true rfl, Nat.le_of_ble_eq_true rfl⟩ (by decide +kernel) ?_
  show Ev l d mi_X10_does 58 [some (.ref 65), some (.int p0), some (.int p1), some (.int p2), some (.int v5), some (.int (p2 / (s.1 103 (Int32.ofInt 4).toNatClampNeg))), some (.int q6.1)] [.int q12.1, .int p0, .ref 116] (hp q12.2) 0 0 _
  obtain ⟨c13, hf⟩ := gd_some hf
  obtain ⟨c14, hf⟩ := gd_some hf
  obtain ⟨s15, hs15, hf⟩ := lt_some hf
  refine Ev.blk (pc' := 70) [(.iastore, 0, 0, 0), (.aload_n 0, 0, 0, 0), (.getfield 169, 0, 10, 67), (.iload_n 1, 0, 0, 0), (.iload 6, 0, 0, 0), (.iastore, 0, 0, 0), (.iload 6, 0, 0, 0), (.iconst (-1), 0, 0, 0)] (by decide +kernel) ⟨kf_10_169, trivial⟩ rfl (And.intro (kc rfl rfl) (And.intro (ib_ok c13) (And.intro (kc rfl rfl) (Exists.intro 117 (And.intro rfl (And.intro (kc rfl rfl) (And.intro (ib_ok c14) (?_))))))))
  show Ev l d mi_X10_does 70 [some (.ref 65), some (.int p0), some (.int p1), some (.int p2), some (.int v5), some (.int (p2 / (s.1 103 (Int32.ofInt 4).toNatClampNeg))), some (.int q6.1)] [.int (Int32.ofInt (-1)), .int q6.1] (hp (uI (uI q12.2 116 p0.toNatClampNeg q12.1) 117 p0.toNatClampNeg q6.1)) 0 0 _
  rw [← hs15]
  refine Ev.icmp_eq (off := 29) (tgt := 99) (by decide +kernel) (by decide) (fun b16 => ?_) (fun b16 => ?_)
  · have hf := (if_pos b16).symm.trans hf
    exact Ev.wk ((e_X10_does_j99 hd) p1 v5 (p2 / (s.1 103 (Int32.ofInt 4).toNatClampNeg)) s15 _ hf) (And.intro (Or.inr rfl) (And.intro (Or.inl rfl) (And.intro (Or.inr rfl) (And.intro (Or.inl rfl) (And.intro (Or.inr rfl) (And.intro (Or.inr rfl) (And.intro (Or.inl rfl) (trivial))))))))
  · have hf := (if_neg b16).symm.trans hf
    obtain ⟨c17, hf⟩ := gd_some hf
    obtain ⟨c18, hf⟩ := gd_some hf
    obtain ⟨s19, hs19, hf⟩ := lt_some hf
    refine Ev.blk (pc' := 99) [(.aload_n 0, 0, 0, 0), (.getfield 154, 0, 10, 62), (.iconst 2, 0, 0, 0), (.iconst 2, 0, 0, 0), (.iload 6, 0, 0, 0), (.imul, 0, 0, 0), (.iadd, 0, 0, 0), (.iconst (-1), 0, 0, 0), (.iastore, 0, 0, 0), (.aload_n 0, 0, 0, 0), (.getfield 154, 0, 10, 62), (.iconst 2, 0, 0, 0), (.iconst 2, 0, 0, 0), (.iload 6, 0, 0, 0), (.imul, 0, 0, 0), (.iadd, 0, 0, 0), (.iconst 1, 0, 0, 0), (.iadd, 0, 0, 0), (.iconst (-1), 0, 0, 0), (.iastore, 0, 0, 0)] (by decide +kernel) ⟨kf_10_154, ⟨kf_10_154, trivial⟩⟩ rfl (And.intro (kc rfl rfl) (Exists.intro 112 (And.intro rfl (And.intro (kc rfl rfl) (And.intro (ib_ok c17) (And.intro (kc rfl rfl) (Exists.intro 112 (And.intro rfl (And.intro (kc rfl rfl) (And.intro (ib_ok c18) (?_)))))))))))
    show Ev l d mi_X10_does 99 [some (.ref 65), some (.int p0), some (.int p1), some (.int p2), some (.int v5), some (.int (p2 / (s.1 103 (Int32.ofInt 4).toNatClampNeg))), some (.int q6.1)] [] (hp (uI (uI s15 112 ((Int32.ofInt 2) + ((Int32.ofInt 2) * q6.1)).toNatClampNeg (Int32.ofInt (-1))) 112 (((Int32.ofInt 2) + ((Int32.ofInt 2) * q6.1)) + (Int32.ofInt 1)).toNatClampNeg (Int32.ofInt (-1)))) 0 0 _
    rw [← hs19]
    exact Ev.wk ((e_X10_does_j99 hd) p1 v5 (p2 / (s.1 103 (Int32.ofInt 4).toNatClampNeg)) s19 _ hf) (And.intro (Or.inr rfl) (And.intro (Or.inl rfl) (And.intro (Or.inr rfl) (And.intro (Or.inl rfl) (And.intro (Or.inr rfl) (And.intro (Or.inr rfl) (And.intro (Or.inl rfl) (trivial))))))))
def f_X10_undoes_j51 (x1 : Int32) (x2 : Int32) (s : ST) : Option (ST) := gd (ib x1 5) (gd (ib ((Int32.ofInt 2) + ((Int32.ofInt 2) * x2)) 225) (gd (ib x1 5) (gd (ib (((Int32.ofInt 2) + ((Int32.ofInt 2) * x2)) + (Int32.ofInt 1)) 225) (lt (uI (uI s 112 ((Int32.ofInt 2) + ((Int32.ofInt 2) * x2)).toNatClampNeg (s.1 115 x1.toNatClampNeg)) 112 (((Int32.ofInt 2) + ((Int32.ofInt 2) * x2)) + (Int32.ofInt 1)).toNatClampNeg ((uI s 112 ((Int32.ofInt 2) + ((Int32.ofInt 2) * x2)).toNatClampNeg (s.1 115 x1.toNatClampNeg)).1 116 x1.toNatClampNeg)) (fun s16 => gd (ib (Int32.ofInt 1) 225) (gd (ib (Int32.ofInt 1) 225) (lt (uI s16 112 (Int32.ofInt 1).toNatClampNeg ((Int32.ofInt 1) - (s16.1 112 (Int32.ofInt 1).toNatClampNeg))) (fun s19 => some s19))))))))
set_option maxHeartbeats 2000000 in
set_option maxRecDepth 20000 in
theorem e_X10_undoes_j51 {l : Launch} {d : Nat} (hd : 2 ≤ d) (x1 : Int32) (x2 : Int32) (s : ST) (r : ST) (hf : f_X10_undoes_j51 x1 x2 s = some r) : Ev l d mi_X10_undoes 51 [some (.ref 65), some (.int x1), some (.int x2), none] [] (hp s) 0 0 (none, hp r) := by
  unfold f_X10_undoes_j51 at hf
  obtain ⟨c12, hf⟩ := gd_some hf
  obtain ⟨c13, hf⟩ := gd_some hf
  obtain ⟨c14, hf⟩ := gd_some hf
  obtain ⟨c15, hf⟩ := gd_some hf
  obtain ⟨s16, hs16, hf⟩ := lt_some hf
  refine Ev.blk (pc' := 91) [(.aload_n 0, 0, 0, 0), (.getfield 154, 0, 10, 62), (.iconst 2, 0, 0, 0), (.iconst 2, 0, 0, 0), (.iload_n 2, 0, 0, 0), (.imul, 0, 0, 0), (.iadd, 0, 0, 0), (.aload_n 0, 0, 0, 0), (.getfield 163, 0, 10, 65), (.iload_n 1, 0, 0, 0), (.iaload, 0, 0, 0), (.iastore, 0, 0, 0), (.aload_n 0, 0, 0, 0), (.getfield 154, 0, 10, 62), (.iconst 2, 0, 0, 0), (.iconst 2, 0, 0, 0), (.iload_n 2, 0, 0, 0), (.imul, 0, 0, 0), (.iadd, 0, 0, 0), (.iconst 1, 0, 0, 0), (.iadd, 0, 0, 0), (.aload_n 0, 0, 0, 0), (.getfield 166, 0, 10, 66), (.iload_n 1, 0, 0, 0), (.iaload, 0, 0, 0), (.iastore, 0, 0, 0), (.aload_n 0, 0, 0, 0), (.getfield 154, 0, 10, 62), (.iconst 1, 0, 0, 0), (.iconst 1, 0, 0, 0)] (by decide +kernel) ⟨kf_10_154, ⟨kf_10_163, ⟨kf_10_154, ⟨kf_10_166, ⟨kf_10_154, trivial⟩⟩⟩⟩⟩ rfl (And.intro (kc rfl rfl) (Exists.intro 112 (And.intro rfl (And.intro (kc rfl rfl) (Exists.intro 115 (And.intro rfl (And.intro (kc rfl rfl) (And.intro (ib_ok c12) (And.intro (kc rfl rfl) (And.intro (ib_ok c13) (And.intro (kc rfl rfl) (Exists.intro 112 (And.intro rfl (And.intro (kc rfl rfl) (Exists.intro 116 (And.intro rfl (And.intro (kc rfl rfl) (And.intro (ib_ok c14) (And.intro (kc rfl rfl) (And.intro (ib_ok c15) (And.intro (kc rfl rfl) (Exists.intro 112 (And.intro rfl (?_))))))))))))))))))))))))
  show Ev l d mi_X10_undoes 91 [some (.ref 65), some (.int x1), some (.int x2), none] [.int (Int32.ofInt 1), .int (Int32.ofInt 1), .ref 112] (hp (uI (uI s 112 ((Int32.ofInt 2) + ((Int32.ofInt 2) * x2)).toNatClampNeg (s.1 115 x1.toNatClampNeg)) 112 (((Int32.ofInt 2) + ((Int32.ofInt 2) * x2)) + (Int32.ofInt 1)).toNatClampNeg ((uI s 112 ((Int32.ofInt 2) + ((Int32.ofInt 2) * x2)).toNatClampNeg (s.1 115 x1.toNatClampNeg)).1 116 x1.toNatClampNeg))) 0 0 _
  rw [← hs16]
  obtain ⟨c17, hf⟩ := gd_some hf
  obtain ⟨c18, hf⟩ := gd_some hf
  obtain ⟨s19, hs19, hf⟩ := lt_some hf
  refine Ev.blk (pc' := 99) [(.aload_n 0, 0, 0, 0), (.getfield 154, 0, 10, 62), (.iconst 1, 0, 0, 0), (.iaload, 0, 0, 0), (.isub, 0, 0, 0), (.iastore, 0, 0, 0)] (by decide +kernel) ⟨kf_10_154, trivial⟩ rfl (And.intro (kc rfl rfl) (Exists.intro 112 (And.intro rfl (And.intro (kc rfl rfl) (And.intro (ib_ok c17) (And.intro (kc rfl rfl) (And.intro (ib_ok c18) (?_))))))))
  show Ev l d mi_X10_undoes 99 [some (.ref 65), some (.int x1), some (.int x2), none] [] (hp (uI s16 112 (Int32.ofInt 1).toNatClampNeg ((Int32.ofInt 1) - (s16.1 112 (Int32.ofInt 1).toNatClampNeg)))) 0 0 _
  rw [← hs19]
  cases hf
  exact Ev.vret rfl (by decide +kernel) (Nat.le_refl _) (Nat.le_refl _)
def f_X10_undoes (p0 : Int32) (s : ST) : Option (ST) := gd (ib p0 5) (gd (ib p0 5) ((if (s.1 117 p0.toNatClampNeg) = (Int32.ofInt (-1)) then f_X10_undoes_j51 p0 (s.1 114 p0.toNatClampNeg) s else lt ((Int32.ofInt 2) + ((Int32.ofInt 2) * (s.1 117 p0.toNatClampNeg))) (fun v4 => (f_X10_columnOf (s.1 114 p0.toNatClampNeg) s).bind (fun q5 => gd (ib v4 225) (lt (uI q5.2 112 v4.toNatClampNeg q5.1) (fun s7 => lt (((Int32.ofInt 2) + ((Int32.ofInt 2) * (s.1 117 p0.toNatClampNeg))) + (Int32.ofInt 1)) (fun v8 => (f_X10_rowOf (s.1 114 p0.toNatClampNeg) s7).bind (fun q9 => gd (ib v8 225) (lt (uI q9.2 112 v8.toNatClampNeg q9.1) (fun s11 => f_X10_undoes_j51 p0 (s.1 114 p0.toNatClampNeg) s11)))))))))))
set_option maxHeartbeats 2000000 in
set_option maxRecDepth 20000 in
theorem e_X10_undoes {l : Launch} {d : Nat} (hd : 2 ≤ d) (p0 : Int32) (s : ST) (r : ST) (hf : f_X10_undoes p0 s = some r) : Cl l d mi_X10_undoes [.ref 65, .int p0] (hp s) (none, hp r) := by
  refine Ev.entry (by decide +kernel) rfl rfl ?_
  show Ev l d mi_X10_undoes 0 [some (.ref 65), some (.int p0), none, none] [] (hp s) 0 0 _
  unfold f_X10_undoes at hf
  obtain ⟨c1, hf⟩ := gd_some hf
  obtain ⟨c2, hf⟩ := gd_some hf
  refine Ev.blk (pc' := 16) [(.aload_n 0, 0, 0, 0), (.getfield 160, 0, 10, 64), (.iload_n 1, 0, 0, 0), (.iaload, 0, 0, 0), (.istore_n 2, 0, 0, 0), (.aload_n 0, 0, 0, 0), (.getfield 169, 0, 10, 67), (.iload_n 1, 0, 0, 0), (.iaload, 0, 0, 0), (.istore_n 3, 0, 0, 0), (.iload_n 3, 0, 0, 0), (.iconst (-1), 0, 0, 0)] (by decide +kernel) ⟨kf_10_160, ⟨kf_10_169, trivial⟩⟩ rfl (And.intro (kc rfl rfl) (Exists.intro 114 (And.intro rfl (And.intro (kc rfl rfl) (And.intro (ib_ok c1) (And.intro (Nat.le_of_ble_eq_true rfl) (And.intro (kc rfl rfl) (Exists.intro 117 (And.intro rfl (And.intro (kc rfl rfl) (And.intro (ib_ok c2) (And.intro (Nat.le_of_ble_eq_true rfl) (?_)))))))))))))
  show Ev l d mi_X10_undoes 16 [some (.ref 65), some (.int p0), some (.int (s.1 114 p0.toNatClampNeg)), some (.int (s.1 117 p0.toNatClampNeg))] [.int (Int32.ofInt (-1)), .int (s.1 117 p0.toNatClampNeg)] (hp s) 0 0 _
  refine Ev.icmp_eq (off := 35) (tgt := 51) (by decide +kernel) (by decide) (fun b3 => ?_) (fun b3 => ?_)
  · have hf := (if_pos b3).symm.trans hf
    exact Ev.wk ((e_X10_undoes_j51 hd) p0 (s.1 114 p0.toNatClampNeg) s _ hf) (And.intro (Or.inr rfl) (And.intro (Or.inr rfl) (And.intro (Or.inr rfl) (And.intro (Or.inl rfl) (trivial)))))
  · have hf := (if_neg b3).symm.trans hf
    obtain ⟨v4, hv4, hf⟩ := lt_some hf
    refine Ev.blk (pc' := 30) [(.aload_n 0, 0, 0, 0), (.getfield 154, 0, 10, 62), (.iconst 2, 0, 0, 0), (.iconst 2, 0, 0, 0), (.iload_n 3, 0, 0, 0), (.imul, 0, 0, 0), (.iadd, 0, 0, 0), (.aload_n 0, 0, 0, 0), (.iload_n 2, 0, 0, 0)] (by decide +kernel) ⟨kf_10_154, trivial⟩ rfl (And.intro (kc rfl rfl) (Exists.intro 112 (And.intro rfl (?_))))
    show Ev l d mi_X10_undoes 30 [some (.ref 65), some (.int p0), some (.int (s.1 114 p0.toNatClampNeg)), some (.int (s.1 117 p0.toNatClampNeg))] [.int (s.1 114 p0.toNatClampNeg), .ref 65, .int ((Int32.ofInt 2) + ((Int32.ofInt 2) * (s.1 117 p0.toNatClampNeg))), .ref 112] (hp s) 0 0 _
    rw [← hv4]
    obtain ⟨q5, hq5, hf⟩ := bd_some hf
    refine Ev.callV (o := 65) (M' := mi_X10_columnOf) (d' := d - 1) (As := [.int (s.1 114 p0.toNatClampNeg)]) (rest := [.int v4, .ref 112]) (r' := (some (.int q5.1), hp q5.2)) (e_X10_columnOf (d := d - 1) (by omega) (s.1 114 p0.toNatClampNeg) s _ hq5) (by omega) wm_X10_columnOf wi_X10_columnOf wv_X10_columnOf km_10_439 (kc rfl rfl) (Nat.le_of_ble_eq_true rfl) rfl rfl rfl (Nat.le_of_ble_eq_true rfl) ⟨Nat.le_of_ble_eq_true rfl, Nat.le_of_ble_eq_true rfl⟩ (by decide +kernel) ?_
    show Ev l d mi_X10_undoes 33 [some (.ref 65), some (.int p0), some (.int (s.1 114 p0.toNatClampNeg)), some (.int (s.1 117 p0.toNatClampNeg))] [.int q5.1, .int v4, .ref 112] (hp q5.2) 0 0 _
    obtain ⟨c6, hf⟩ := gd_some hf
    obtain ⟨s7, hs7, hf⟩ := lt_some hf
    obtain ⟨v8, hv8, hf⟩ := lt_some hf
    refine Ev.blk (pc' := 47) [(.iastore, 0, 0, 0), (.aload_n 0, 0, 0, 0), (.getfield 154, 0, 10, 62), (.iconst 2, 0, 0, 0), (.iconst 2, 0, 0, 0), (.iload_n 3, 0, 0, 0), (.imul, 0, 0, 0), (.iadd, 0, 0, 0), (.iconst 1, 0, 0, 0), (.iadd, 0, 0, 0), (.aload_n 0, 0, 0, 0), (.iload_n 2, 0, 0, 0)] (by decide +kernel) ⟨kf_10_154, trivial⟩ rfl (And.intro (kc rfl rfl) (And.intro (ib_ok c6) (And.intro (kc rfl rfl) (Exists.intro 112 (And.intro rfl (?_))))))
    show Ev l d mi_X10_undoes 47 [some (.ref 65), some (.int p0), some (.int (s.1 114 p0.toNatClampNeg)), some (.int (s.1 117 p0.toNatClampNeg))] [.int (s.1 114 p0.toNatClampNeg), .ref 65, .int (((Int32.ofInt 2) + ((Int32.ofInt 2) * (s.1 117 p0.toNatClampNeg))) + (Int32.ofInt 1)), .ref 112] (hp (uI q5.2 112 v4.toNatClampNeg q5.1)) 0 0 _
    rw [← hs7, ← hv8]
    obtain ⟨q9, hq9, hf⟩ := bd_some hf
    refine Ev.callV (o := 65) (M' := mi_X10_rowOf) (d' := d - 1) (As := [.int (s.1 114 p0.toNatClampNeg)]) (rest := [.int v8, .ref 112]) (r' := (some (.int q9.1), hp q9.2)) (e_X10_rowOf (d := d - 1) (by omega) (s.1 114 p0.toNatClampNeg) s7 _ hq9) (by omega) wm_X10_rowOf wi_X10_rowOf wv_X10_rowOf km_10_446 (kc rfl rfl) (Nat.le_of_ble_eq_true rfl) rfl rfl rfl (Nat.le_of_ble_eq_true rfl) ⟨Nat.le_of_ble_eq_true rfl, Nat.le_of_ble_eq_true rfl⟩ (by decide +kernel) ?_
    show Ev l d mi_X10_undoes 50 [some (.ref 65), some (.int p0), some (.int (s.1 114 p0.toNatClampNeg)), some (.int (s.1 117 p0.toNatClampNeg))] [.int q9.1, .int v8, .ref 112] (hp q9.2) 0 0 _
    obtain ⟨c10, hf⟩ := gd_some hf
    obtain ⟨s11, hs11, hf⟩ := lt_some hf
    refine Ev.blk (pc' := 51) [(.iastore, 0, 0, 0)] (by decide +kernel) trivial rfl (And.intro (kc rfl rfl) (And.intro (ib_ok c10) (?_)))
    show Ev l d mi_X10_undoes 51 [some (.ref 65), some (.int p0), some (.int (s.1 114 p0.toNatClampNeg)), some (.int (s.1 117 p0.toNatClampNeg))] [] (hp (uI q9.2 112 v8.toNatClampNeg q9.1)) 0 0 _
    rw [← hs11]
    exact Ev.wk ((e_X10_undoes_j51 hd) p0 (s.1 114 p0.toNatClampNeg) s11 _ hf) (And.intro (Or.inr rfl) (And.intro (Or.inr rfl) (And.intro (Or.inr rfl) (And.intro (Or.inl rfl) (trivial)))))
def f_X10_balanceOf_j44 (k4 : Int32 → Int32 → Int32 → ST → Option (Int32 × ST)) (x1 : Int32) (x3 : Int32) (y0 : Int32) (y1 : Int32) (s : ST) : Option (Int32 × ST) := k4 x1 (y0 + y1) (x3 + Int32.ofInt 1) s
set_option maxHeartbeats 2000000 in
set_option maxRecDepth 20000 in
theorem e_X10_balanceOf_j44 {l : Launch} {d : Nat} (hd : 3 ≤ d) (k4 : Int32 → Int32 → Int32 → ST → Option (Int32 × ST)) (hk4 : ∀ (x1 : Int32) (x2 : Int32) (x3 : Int32) (s : ST) (r : Int32 × ST), k4 x1 x2 x3 s = some r → Ev l d mi_X10_balanceOf 4 [some (.ref 65), some (.int x1), some (.int x2), some (.int x3)] [] (hp s) 0 0 (some (.int r.1), hp r.2)) (x1 : Int32) (x3 : Int32) (y0 : Int32) (y1 : Int32) (s : ST) (r : Int32 × ST) (hf : f_X10_balanceOf_j44 k4 x1 x3 y0 y1 s = some r) : Ev l d mi_X10_balanceOf 44 [some (.ref 65), some (.int x1), none, some (.int x3)] [.int y1, .int y0] (hp s) 0 0 (some (.int r.1), hp r.2) := by
  unfold f_X10_balanceOf_j44 at hf
  refine Ev.blk (pc' := 49) [(.iadd, 0, 0, 0), (.istore_n 2, 0, 0, 0), (.iinc 3 1, 0, 0, 0)] (by decide +kernel) trivial rfl (And.intro (Nat.le_of_ble_eq_true rfl) (And.intro (Nat.le_of_ble_eq_true rfl) (?_)))
  show Ev l d mi_X10_balanceOf 49 [some (.ref 65), some (.int x1), some (.int (y0 + y1)), some (.int (x3 + Int32.ofInt 1))] [] (hp s) 0 0 _
  refine Ev.goto (off := -45) (tgt := 4) (by decide +kernel) (by decide) ?_
  exact hk4 x1 (y0 + y1) (x3 + Int32.ofInt 1) s _ hf
def f_X10_balanceOf_L4 : Nat → Int32 → Int32 → Int32 → ST → Option (Int32 × ST)
  | 0, _, _, _, _ => none
  | n + 1, x1, x2, x3, s => (f_X10_manMany s).bind (fun q1 => (if q1.1 ≤ x3 then some (x2, q1.2) else (f_X10_isTaken x3 q1.2).bind (fun q3 => (if q3.1 = 0 then (f_X10_sideOf x3 q3.2).bind (fun q5 => (if q5.1 = x1 then (f_X10_worthOf x3 q5.2).bind (fun q8 => (f_X10_balanceOf_j44 (f_X10_balanceOf_L4 n)) x1 x3 x2 q8.1 q8.2) else (f_X10_worthOf x3 q5.2).bind (fun q7 => (f_X10_balanceOf_j44 (f_X10_balanceOf_L4 n)) x1 x3 x2 (-q7.1) q7.2))) else (f_X10_balanceOf_L4 n) x1 x2 (x3 + Int32.ofInt 1) q3.2))))
set_option maxHeartbeats 2000000 in
set_option maxRecDepth 20000 in
theorem e_X10_balanceOf_L4 {l : Launch} {d : Nat} (hd : 3 ≤ d) : ∀ (n : Nat) (x1 : Int32) (x2 : Int32) (x3 : Int32) (s : ST) (r : Int32 × ST), f_X10_balanceOf_L4 n x1 x2 x3 s = some r → Ev l d mi_X10_balanceOf 4 [some (.ref 65), some (.int x1), some (.int x2), some (.int x3)] [] (hp s) 0 0 (some (.int r.1), hp r.2) := by
  intro n
  induction n with
  | zero =>
    intro x1 x2 x3 s r hf
    cases hf
  | succ n ih =>
    intro x1 x2 x3 s r hf
    unfold f_X10_balanceOf_L4 at hf
    refine Ev.blk (pc' := 6) [(.iload_n 3, 0, 0, 0), (.aload_n 0, 0, 0, 0)] (by decide +kernel) trivial rfl (?_)
    show Ev l d mi_X10_balanceOf 6 [some (.ref 65), some (.int x1), some (.int x2), some (.int x3)] [.ref 65, .int x3] (hp s) 0 0 _
    obtain ⟨q1, hq1, hf⟩ := bd_some hf
    refine Ev.callV (o := 65) (M' := mi_X10_manMany) (d' := d - 1) (As := []) (rest := [.int x3]) (r' := (some (.int q1.1), hp q1.2)) (e_X10_manMany (d := d - 1) (by omega) s _ hq1) (by omega) wm_X10_manMany wi_X10_manMany wv_X10_manMany km_10_433 (kc rfl rfl) (Nat.le_of_ble_eq_true rfl) rfl rfl rfl (Nat.le_of_ble_eq_true rfl) ⟨Nat.le_of_ble_eq_true rfl, Nat.le_of_ble_eq_true rfl⟩ (by decide +kernel) ?_
    show Ev l d mi_X10_balanceOf 9 [some (.ref 65), some (.int x1), some (.int x2), some (.int x3)] [.int q1.1, .int x3] (hp q1.2) 0 0 _
    refine Ev.icmp_ge (off := 43) (tgt := 52) (by decide +kernel) (by decide) (fun b2 => ?_) (fun b2 => ?_)
    · have hf := (if_pos b2).symm.trans hf
      refine Ev.blk (pc' := 53) [(.iload_n 2, 0, 0, 0)] (by decide +kernel) trivial rfl (?_)
      show Ev l d mi_X10_balanceOf 53 [some (.ref 65), some (.int x1), some (.int x2), some (.int x3)] [.int x2] (hp q1.2) 0 0 _
      cases hf
      exact Ev.iret .int rfl rfl (by decide +kernel) (Nat.le_refl _) (Nat.le_refl _)
    · have hf := (if_neg b2).symm.trans hf
      refine Ev.blk (pc' := 14) [(.aload_n 0, 0, 0, 0), (.iload_n 3, 0, 0, 0)] (by decide +kernel) trivial rfl (?_)
      show Ev l d mi_X10_balanceOf 14 [some (.ref 65), some (.int x1), some (.int x2), some (.int x3)] [.int x3, .ref 65] (hp q1.2) 0 0 _
      obtain ⟨q3, hq3, hf⟩ := bd_some hf
      refine Ev.callV (o := 65) (M' := mi_X10_isTaken) (d' := d - 1) (As := [.int x3]) (rest := []) (r' := (some (.int q3.1), hp q3.2)) (e_X10_isTaken (d := d - 1) (by omega) x3 q1.2 _ hq3) (by omega) wm_X10_isTaken wi_X10_isTaken wv_X10_isTaken km_10_458 (kc rfl rfl) (Nat.le_of_ble_eq_true rfl) rfl rfl rfl (Nat.le_of_ble_eq_true rfl) ⟨Nat.le_of_ble_eq_true rfl, Nat.le_of_ble_eq_true rfl⟩ (by decide +kernel) ?_
      show Ev l d mi_X10_balanceOf 17 [some (.ref 65), some (.int x1), some (.int x2), some (.int x3)] [.int q3.1] (hp q3.2) 0 0 _
      refine Ev.if_ne (off := 29) (tgt := 46) (by decide +kernel) (by decide) (fun b4 => ?_) (fun b4 => ?_)
      · have hf := (if_neg b4).symm.trans hf
        refine Ev.blk (pc' := 49) [(.iinc 3 1, 0, 0, 0)] (by decide +kernel) trivial rfl (And.intro (Nat.le_of_ble_eq_true rfl) (?_))
        show Ev l d mi_X10_balanceOf 49 [some (.ref 65), some (.int x1), some (.int x2), some (.int (x3 + Int32.ofInt 1))] [] (hp q3.2) 0 0 _
        refine Ev.goto (off := -45) (tgt := 4) (by decide +kernel) (by decide) ?_
        exact ih x1 x2 (x3 + Int32.ofInt 1) q3.2 _ hf
      · have hf := (if_pos b4).symm.trans hf
        refine Ev.blk (pc' := 23) [(.iload_n 2, 0, 0, 0), (.aload_n 0, 0, 0, 0), (.iload_n 3, 0, 0, 0)] (by decide +kernel) trivial rfl (?_)
        show Ev l d mi_X10_balanceOf 23 [some (.ref 65), some (.int x1), some (.int x2), some (.int x3)] [.int x3, .ref 65, .int x2] (hp q3.2) 0 0 _
        obtain ⟨q5, hq5, hf⟩ := bd_some hf
        refine Ev.callV (o := 65) (M' := mi_X10_sideOf) (d' := d - 1) (As := [.int x3]) (rest := [.int x2]) (r' := (some (.int q5.1), hp q5.2)) (e_X10_sideOf (d := d - 1) (by omega) x3 q3.2 _ hq5) (by omega) wm_X10_sideOf wi_X10_sideOf wv_X10_sideOf km_10_468 (kc rfl rfl) (Nat.le_of_ble_eq_true rfl) rfl rfl rfl (Nat.le_of_ble_eq_true rfl) ⟨Nat.le_of_ble_eq_true rfl, Nat.le_of_ble_eq_true rfl⟩ (by decide +kernel) ?_
        show Ev l d mi_X10_balanceOf 26 [some (.ref 65), some (.int x1), some (.int x2), some (.int x3)] [.int q5.1, .int x2] (hp q5.2) 0 0 _
        refine Ev.blk (pc' := 27) [(.iload_n 1, 0, 0, 0)] (by decide +kernel) trivial rfl (?_)
        show Ev l d mi_X10_balanceOf 27 [some (.ref 65), some (.int x1), some (.int x2), some (.int x3)] [.int x1, .int q5.1, .int x2] (hp q5.2) 0 0 _
        refine Ev.icmp_ne (off := 11) (tgt := 38) (by decide +kernel) (by decide) (fun b6 => ?_) (fun b6 => ?_)
        · have hf := (if_neg b6).symm.trans hf
          refine Ev.blk (pc' := 40) [(.aload_n 0, 0, 0, 0), (.iload_n 3, 0, 0, 0)] (by decide +kernel) trivial rfl (?_)
          show Ev l d mi_X10_balanceOf 40 [some (.ref 65), some (.int x1), some (.int x2), some (.int x3)] [.int x3, .ref 65, .int x2] (hp q5.2) 0 0 _
          obtain ⟨q7, hq7, hf⟩ := bd_some hf
          refine Ev.callV (o := 65) (M' := mi_X10_worthOf) (d' := d - 1) (As := [.int x3]) (rest := [.int x2]) (r' := (some (.int q7.1), hp q7.2)) (e_X10_worthOf (d := d - 1) (by omega) x3 q5.2 _ hq7) (by omega) wm_X10_worthOf wi_X10_worthOf wv_X10_worthOf km_10_490 (kc rfl rfl) (Nat.le_of_ble_eq_true rfl) rfl rfl rfl (Nat.le_of_ble_eq_true rfl) ⟨Nat.le_of_ble_eq_true rfl, Nat.le_of_ble_eq_true rfl⟩ (by decide +kernel) ?_
          show Ev l d mi_X10_balanceOf 43 [some (.ref 65), some (.int x1), some (.int x2), some (.int x3)] [.int q7.1, .int x2] (hp q7.2) 0 0 _
          refine Ev.blk (pc' := 44) [(.ineg, 0, 0, 0)] (by decide +kernel) trivial rfl (?_)
          show Ev l d mi_X10_balanceOf 44 [some (.ref 65), some (.int x1), some (.int x2), some (.int x3)] [.int (-q7.1), .int x2] (hp q7.2) 0 0 _
          exact Ev.wk ((e_X10_balanceOf_j44 hd (f_X10_balanceOf_L4 n) ih) x1 x3 x2 (-q7.1) q7.2 _ hf) (And.intro (Or.inr rfl) (And.intro (Or.inr rfl) (And.intro (Or.inl rfl) (And.intro (Or.inr rfl) (trivial)))))
        · have hf := (if_pos b6).symm.trans hf
          refine Ev.blk (pc' := 32) [(.aload_n 0, 0, 0, 0), (.iload_n 3, 0, 0, 0)] (by decide +kernel) trivial rfl (?_)
          show Ev l d mi_X10_balanceOf 32 [some (.ref 65), some (.int x1), some (.int x2), some (.int x3)] [.int x3, .ref 65, .int x2] (hp q5.2) 0 0 _
          obtain ⟨q8, hq8, hf⟩ := bd_some hf
          refine Ev.callV (o := 65) (M' := mi_X10_worthOf) (d' := d - 1) (As := [.int x3]) (rest := [.int x2]) (r' := (some (.int q8.1), hp q8.2)) (e_X10_worthOf (d := d - 1) (by omega) x3 q5.2 _ hq8) (by omega) wm_X10_worthOf wi_X10_worthOf wv_X10_worthOf km_10_490 (kc rfl rfl) (Nat.le_of_ble_eq_true rfl) rfl rfl rfl (Nat.le_of_ble_eq_true rfl) ⟨Nat.le_of_ble_eq_true rfl, Nat.le_of_ble_eq_true rfl⟩ (by decide +kernel) ?_
          show Ev l d mi_X10_balanceOf 35 [some (.ref 65), some (.int x1), some (.int x2), some (.int x3)] [.int q8.1, .int x2] (hp q8.2) 0 0 _
          refine Ev.goto (off := 9) (tgt := 44) (by decide +kernel) (by decide) ?_
          exact Ev.wk ((e_X10_balanceOf_j44 hd (f_X10_balanceOf_L4 n) ih) x1 x3 x2 q8.1 q8.2 _ hf) (And.intro (Or.inr rfl) (And.intro (Or.inr rfl) (And.intro (Or.inl rfl) (And.intro (Or.inr rfl) (trivial)))))
def f_X10_balanceOf (p0 : Int32) (s : ST) : Option (Int32 × ST) := (f_X10_balanceOf_L4 fuel) p0 (Int32.ofInt 0) (Int32.ofInt 0) s
set_option maxHeartbeats 2000000 in
set_option maxRecDepth 20000 in
theorem e_X10_balanceOf {l : Launch} {d : Nat} (hd : 3 ≤ d) (p0 : Int32) (s : ST) (r : Int32 × ST) (hf : f_X10_balanceOf p0 s = some r) : Cl l d mi_X10_balanceOf [.ref 65, .int p0] (hp s) (some (.int r.1), hp r.2) := by
  refine Ev.entry (by decide +kernel) rfl rfl ?_
  show Ev l d mi_X10_balanceOf 0 [some (.ref 65), some (.int p0), none, none] [] (hp s) 0 0 _
  unfold f_X10_balanceOf at hf
  refine Ev.blk (pc' := 4) [(.iconst 0, 0, 0, 0), (.istore_n 2, 0, 0, 0), (.iconst 0, 0, 0, 0), (.istore_n 3, 0, 0, 0)] (by decide +kernel) trivial rfl (And.intro (Nat.le_of_ble_eq_true rfl) (And.intro (Nat.le_of_ble_eq_true rfl) (?_)))
  show Ev l d mi_X10_balanceOf 4 [some (.ref 65), some (.int p0), some (.int (Int32.ofInt 0)), some (.int (Int32.ofInt 0))] [] (hp s) 0 0 _
  exact (e_X10_balanceOf_L4 hd fuel) p0 (Int32.ofInt 0) (Int32.ofInt 0) s _ hf
def f_X10_value0 (s : ST) : Option (Int32 × ST) := gd (ib (Int32.ofInt 1) 225) ((f_X10_balanceOf (s.1 112 (Int32.ofInt 1).toNatClampNeg) s).bind (fun q2 => some (q2.1, q2.2)))
set_option maxHeartbeats 2000000 in
set_option maxRecDepth 20000 in
theorem e_X10_value0 {l : Launch} {d : Nat} (hd : 4 ≤ d) (s : ST) (r : Int32 × ST) (hf : f_X10_value0 s = some r) : Cl l d mi_X10_value0 [.ref 65] (hp s) (some (.int r.1), hp r.2) := by
  refine Ev.entry (by decide +kernel) rfl rfl ?_
  show Ev l d mi_X10_value0 0 [some (.ref 65)] [] (hp s) 0 0 _
  unfold f_X10_value0 at hf
  obtain ⟨c1, hf⟩ := gd_some hf
  refine Ev.blk (pc' := 7) [(.aload_n 0, 0, 0, 0), (.aload_n 0, 0, 0, 0), (.getfield 154, 0, 10, 62), (.iconst 1, 0, 0, 0), (.iaload, 0, 0, 0)] (by decide +kernel) ⟨kf_10_154, trivial⟩ rfl (And.intro (kc rfl rfl) (Exists.intro 112 (And.intro rfl (And.intro (kc rfl rfl) (And.intro (ib_ok c1) (?_))))))
  show Ev l d mi_X10_value0 7 [some (.ref 65)] [.int (s.1 112 (Int32.ofInt 1).toNatClampNeg), .ref 65] (hp s) 0 0 _
  obtain ⟨q2, hq2, hf⟩ := bd_some hf
  refine Ev.callV (o := 65) (M' := mi_X10_balanceOf) (d' := d - 1) (As := [.int (s.1 112 (Int32.ofInt 1).toNatClampNeg)]) (rest := []) (r' := (some (.int q2.1), hp q2.2)) (e_X10_balanceOf (d := d - 1) (by omega) (s.1 112 (Int32.ofInt 1).toNatClampNeg) s _ hq2) (by omega) wm_X10_balanceOf wi_X10_balanceOf wv_X10_balanceOf km_10_493 (kc rfl rfl) (Nat.le_of_ble_eq_true rfl) rfl rfl rfl (Nat.le_of_ble_eq_true rfl) ⟨Nat.le_of_ble_eq_true rfl, Nat.le_of_ble_eq_true rfl⟩ (by decide +kernel) ?_
  show Ev l d mi_X10_value0 10 [some (.ref 65)] [.int q2.1] (hp q2.2) 0 0 _
  cases hf
  exact Ev.iret .int rfl rfl (by decide +kernel) (Nat.le_refl _) (Nat.le_refl _)
def f_X10_value1_j104 (k35 : Int32 → Int32 → Int32 → Int32 → ST → Option (Int32 × ST)) (x3 : Int32) (x4 : Int32) (x5 : Int32) (s : ST) : Option (Int32 × ST) := k35 x5 (Int32.ofInt 1) x3 (x4 + Int32.ofInt 1) s
set_option maxHeartbeats 2000000 in
set_option maxRecDepth 20000 in
theorem e_X10_value1_j104 {l : Launch} {d : Nat} (hd : 5 ≤ d) (k35 : Int32 → Int32 → Int32 → Int32 → ST → Option (Int32 × ST)) (hk35 : ∀ (x1 : Int32) (x2 : Int32) (x3 : Int32) (x4 : Int32) (s : ST) (r : Int32 × ST), k35 x1 x2 x3 x4 s = some r → Ev l d mi_X10_value1 35 [some (.ref 65), some (.int x1), some (.int x2), some (.int x3), some (.int x4), none] [] (hp s) 0 0 (some (.int r.1), hp r.2)) (x3 : Int32) (x4 : Int32) (x5 : Int32) (s : ST) (r : Int32 × ST) (hf : f_X10_value1_j104 k35 x3 x4 x5 s = some r) : Ev l d mi_X10_value1 104 [some (.ref 65), none, none, some (.int x3), some (.int x4), some (.int x5)] [] (hp s) 0 0 (some (.int r.1), hp r.2) := by
  unfold f_X10_value1_j104 at hf
  refine Ev.blk (pc' := 112) [(.iconst 1, 0, 0, 0), (.istore_n 2, 0, 0, 0), (.iload 5, 0, 0, 0), (.istore_n 1, 0, 0, 0), (.iinc 4 1, 0, 0, 0)] (by decide +kernel) trivial rfl (And.intro (Nat.le_of_ble_eq_true rfl) (And.intro (Nat.le_of_ble_eq_true rfl) (And.intro (Nat.le_of_ble_eq_true rfl) (?_))))
  show Ev l d mi_X10_value1 112 [some (.ref 65), some (.int x5), some (.int (Int32.ofInt 1)), some (.int x3), some (.int (x4 + Int32.ofInt 1)), some (.int x5)] [] (hp s) 0 0 _
  refine Ev.goto (off := -77) (tgt := 35) (by decide +kernel) (by decide) ?_
  exact Ev.wk (hk35 x5 (Int32.ofInt 1) x3 (x4 + Int32.ofInt 1) s _ hf) (And.intro (Or.inr rfl) (And.intro (Or.inr rfl) (And.intro (Or.inr rfl) (And.intro (Or.inr rfl) (And.intro (Or.inr rfl) (And.intro (Or.inl rfl) (trivial)))))))
def f_X10_value1_L35 (k24 : Int32 → Int32 → Int32 → ST → Option (Int32 × ST)) : Nat → Int32 → Int32 → Int32 → Int32 → ST → Option (Int32 × ST)
  | 0, _, _, _, _, _ => none
  | n + 1, x1, x2, x3, x4, s => (f_X10_places s).bind (fun q7 => (if q7.1 ≤ x4 then k24 x1 x2 (x3 + Int32.ofInt 1) q7.2 else (f_X10_sideOf x3 q7.2).bind (fun q9 => gd (ib (Int32.ofInt 1) 225) ((if q9.1 = (q9.2.1 112 (Int32.ofInt 1).toNatClampNeg) then (f_X10_canGo x3 x4 q9.2).bind (fun q12 => (if q12.1 = 0 then (f_X10_value1_L35 k24 n) x1 x2 x3 (x4 + Int32.ofInt 1) q12.2 else (f_X10_does (Int32.ofInt 1) x3 x4 q12.2).bind (fun q14 => (f_X10_value0 q14).bind (fun q15 => (f_X10_undoes (Int32.ofInt 1) q15.2).bind (fun q16 => (if x2 = 0 then (f_X10_value1_j104 (f_X10_value1_L35 k24 n)) x3 x4 (-q15.1) q16 else (if x1 < (-q15.1) then (f_X10_value1_j104 (f_X10_value1_L35 k24 n)) x3 x4 (-q15.1) q16 else (f_X10_value1_L35 k24 n) x1 x2 x3 (x4 + Int32.ofInt 1) q16))))))) else (f_X10_value1_L35 k24 n) x1 x2 x3 (x4 + Int32.ofInt 1) q9.2)))))
set_option maxHeartbeats 2000000 in
set_option maxRecDepth 20000 in
theorem e_X10_value1_L35 {l : Launch} {d : Nat} (hd : 5 ≤ d) (k24 : Int32 → Int32 → Int32 → ST → Option (Int32 × ST)) (hk24 : ∀ (x1 : Int32) (x2 : Int32) (x3 : Int32) (s : ST) (r : Int32 × ST), k24 x1 x2 x3 s = some r → Ev l d mi_X10_value1 24 [some (.ref 65), some (.int x1), some (.int x2), some (.int x3), none, none] [] (hp s) 0 0 (some (.int r.1), hp r.2)) : ∀ (n : Nat) (x1 : Int32) (x2 : Int32) (x3 : Int32) (x4 : Int32) (s : ST) (r : Int32 × ST), f_X10_value1_L35 k24 n x1 x2 x3 x4 s = some r → Ev l d mi_X10_value1 35 [some (.ref 65), some (.int x1), some (.int x2), some (.int x3), some (.int x4), none] [] (hp s) 0 0 (some (.int r.1), hp r.2) := by
  intro n
  induction n with
  | zero =>
    intro x1 x2 x3 x4 s r hf
    cases hf
  | succ n ih =>
    intro x1 x2 x3 x4 s r hf
    unfold f_X10_value1_L35 at hf
    refine Ev.blk (pc' := 38) [(.iload 4, 0, 0, 0), (.aload_n 0, 0, 0, 0)] (by decide +kernel) trivial rfl (?_)
    show Ev l d mi_X10_value1 38 [some (.ref 65), some (.int x1), some (.int x2), some (.int x3), some (.int x4), none] [.ref 65, .int x4] (hp s) 0 0 _
    obtain ⟨q7, hq7, hf⟩ := bd_some hf
    refine Ev.callV (o := 65) (M' := mi_X10_places) (d' := d - 1) (As := []) (rest := [.int x4]) (r' := (some (.int q7.1), hp q7.2)) (e_X10_places (d := d - 1) (by omega) s _ hq7) (by omega) wm_X10_places wi_X10_places wv_X10_places km_10_471 (kc rfl rfl) (Nat.le_of_ble_eq_true rfl) rfl rfl rfl (Nat.le_of_ble_eq_true rfl) ⟨Nat.le_of_ble_eq_true rfl, Nat.le_of_ble_eq_true rfl⟩ (by decide +kernel) ?_
    show Ev l d mi_X10_value1 41 [some (.ref 65), some (.int x1), some (.int x2), some (.int x3), some (.int x4), none] [.int q7.1, .int x4] (hp q7.2) 0 0 _
    refine Ev.icmp_ge (off := 74) (tgt := 115) (by decide +kernel) (by decide) (fun b8 => ?_) (fun b8 => ?_)
    · have hf := (if_pos b8).symm.trans hf
      refine Ev.blk (pc' := 118) [(.iinc 3 1, 0, 0, 0)] (by decide +kernel) trivial rfl (And.intro (Nat.le_of_ble_eq_true rfl) (?_))
      show Ev l d mi_X10_value1 118 [some (.ref 65), some (.int x1), some (.int x2), some (.int (x3 + Int32.ofInt 1)), some (.int x4), none] [] (hp q7.2) 0 0 _
      refine Ev.goto (off := -94) (tgt := 24) (by decide +kernel) (by decide) ?_
      exact Ev.wk (hk24 x1 x2 (x3 + Int32.ofInt 1) q7.2 _ hf) (And.intro (Or.inr rfl) (And.intro (Or.inr rfl) (And.intro (Or.inr rfl) (And.intro (Or.inr rfl) (And.intro (Or.inl rfl) (And.intro (Or.inr rfl) (trivial)))))))
    · have hf := (if_neg b8).symm.trans hf
      refine Ev.blk (pc' := 46) [(.aload_n 0, 0, 0, 0), (.iload_n 3, 0, 0, 0)] (by decide +kernel) trivial rfl (?_)
      show Ev l d mi_X10_value1 46 [some (.ref 65), some (.int x1), some (.int x2), some (.int x3), some (.int x4), none] [.int x3, .ref 65] (hp q7.2) 0 0 _
      obtain ⟨q9, hq9, hf⟩ := bd_some hf
      refine Ev.callV (o := 65) (M' := mi_X10_sideOf) (d' := d - 1) (As := [.int x3]) (rest := []) (r' := (some (.int q9.1), hp q9.2)) (e_X10_sideOf (d := d - 1) (by omega) x3 q7.2 _ hq9) (by omega) wm_X10_sideOf wi_X10_sideOf wv_X10_sideOf km_10_468 (kc rfl rfl) (Nat.le_of_ble_eq_true rfl) rfl rfl rfl (Nat.le_of_ble_eq_true rfl) ⟨Nat.le_of_ble_eq_true rfl, Nat.le_of_ble_eq_true rfl⟩ (by decide +kernel) ?_
      show Ev l d mi_X10_value1 49 [some (.ref 65), some (.int x1), some (.int x2), some (.int x3), some (.int x4), none] [.int q9.1] (hp q9.2) 0 0 _
      obtain ⟨c10, hf⟩ := gd_some hf
      refine Ev.blk (pc' := 55) [(.aload_n 0, 0, 0, 0), (.getfield 154, 0, 10, 62), (.iconst 1, 0, 0, 0), (.iaload, 0, 0, 0)] (by decide +kernel) ⟨kf_10_154, trivial⟩ rfl (And.intro (kc rfl rfl) (Exists.intro 112 (And.intro rfl (And.intro (kc rfl rfl) (And.intro (ib_ok c10) (?_))))))
      show Ev l d mi_X10_value1 55 [some (.ref 65), some (.int x1), some (.int x2), some (.int x3), some (.int x4), none] [.int (q9.2.1 112 (Int32.ofInt 1).toNatClampNeg), .int q9.1] (hp q9.2) 0 0 _
      refine Ev.icmp_ne (off := 54) (tgt := 109) (by decide +kernel) (by decide) (fun b11 => ?_) (fun b11 => ?_)
      · have hf := (if_neg b11).symm.trans hf
        refine Ev.blk (pc' := 112) [(.iinc 4 1, 0, 0, 0)] (by decide +kernel) trivial rfl (And.intro (Nat.le_of_ble_eq_true rfl) (?_))
        show Ev l d mi_X10_value1 112 [some (.ref 65), some (.int x1), some (.int x2), some (.int x3), some (.int (x4 + Int32.ofInt 1)), none] [] (hp q9.2) 0 0 _
        refine Ev.goto (off := -77) (tgt := 35) (by decide +kernel) (by decide) ?_
        exact ih x1 x2 x3 (x4 + Int32.ofInt 1) q9.2 _ hf
      · have hf := (if_pos b11).symm.trans hf
        refine Ev.blk (pc' := 62) [(.aload_n 0, 0, 0, 0), (.iload_n 3, 0, 0, 0), (.iload 4, 0, 0, 0)] (by decide +kernel) trivial rfl (?_)
        show Ev l d mi_X10_value1 62 [some (.ref 65), some (.int x1), some (.int x2), some (.int x3), some (.int x4), none] [.int x4, .int x3, .ref 65] (hp q9.2) 0 0 _
        obtain ⟨q12, hq12, hf⟩ := bd_some hf
        refine Ev.callV (o := 65) (M' := mi_X10_canGo) (d' := d - 1) (As := [.int x3, .int x4]) (rest := []) (r' := (some (.int q12.1), hp q12.2)) (e_X10_canGo (d := d - 1) (by omega) x3 x4 q9.2 _ hq12) (by omega) wm_X10_canGo wi_X10_canGo wv_X10_canGo km_10_474 (kc rfl rfl) (Nat.le_of_ble_eq_true rfl) rfl rfl rfl (Nat.le_of_ble_eq_true rfl) ⟨Nat.le_of_ble_eq_true rfl, Nat.le_of_ble_eq_true rfl⟩ (by decide +kernel) ?_
        show Ev l d mi_X10_value1 65 [some (.ref 65), some (.int x1), some (.int x2), some (.int x3), some (.int x4), none] [.int q12.1] (hp q12.2) 0 0 _
        refine Ev.if_ne (off := 6) (tgt := 71) (by decide +kernel) (by decide) (fun b13 => ?_) (fun b13 => ?_)
        · have hf := (if_neg b13).symm.trans hf
          refine Ev.blk (pc' := 76) [(.aload_n 0, 0, 0, 0), (.iconst 1, 0, 0, 0), (.iload_n 3, 0, 0, 0), (.iload 4, 0, 0, 0)] (by decide +kernel) trivial rfl (?_)
          show Ev l d mi_X10_value1 76 [some (.ref 65), some (.int x1), some (.int x2), some (.int x3), some (.int x4), none] [.int x4, .int x3, .int (Int32.ofInt 1), .ref 65] (hp q12.2) 0 0 _
          obtain ⟨q14, hq14, hf⟩ := bd_some hf
          refine Ev.callV (o := 65) (M' := mi_X10_does) (d' := d - 1) (As := [.int (Int32.ofInt 1), .int x3, .int x4]) (rest := []) (r' := (none, hp q14)) (e_X10_does (d := d - 1) (by omega) (Int32.ofInt 1) x3 x4 q12.2 _ hq14) (by omega) wm_X10_does wi_X10_does wv_X10_does km_10_496 (kc rfl rfl) (Nat.le_of_ble_eq_true rfl) rfl rfl rfl (Nat.le_of_ble_eq_true rfl) ⟨Nat.le_of_ble_eq_true rfl, Nat.le_of_ble_eq_true rfl⟩ (by decide +kernel) ?_
          show Ev l d mi_X10_value1 79 [some (.ref 65), some (.int x1), some (.int x2), some (.int x3), some (.int x4), none] [] (hp q14) 0 0 _
          refine Ev.blk (pc' := 80) [(.aload_n 0, 0, 0, 0)] (by decide +kernel) trivial rfl (?_)
          show Ev l d mi_X10_value1 80 [some (.ref 65), some (.int x1), some (.int x2), some (.int x3), some (.int x4), none] [.ref 65] (hp q14) 0 0 _
          obtain ⟨q15, hq15, hf⟩ := bd_some hf
          refine Ev.callV (o := 65) (M' := mi_X10_value0) (d' := d - 1) (As := []) (rest := []) (r' := (some (.int q15.1), hp q15.2)) (e_X10_value0 (d := d - 1) (by omega) q14 _ hq15) (by omega) wm_X10_value0 wi_X10_value0 wv_X10_value0 km_10_500 (kc rfl rfl) (Nat.le_of_ble_eq_true rfl) rfl rfl rfl (Nat.le_of_ble_eq_true rfl) ⟨Nat.le_of_ble_eq_true rfl, Nat.le_of_ble_eq_true rfl⟩ (by decide +kernel) ?_
          show Ev l d mi_X10_value1 83 [some (.ref 65), some (.int x1), some (.int x2), some (.int x3), some (.int x4), none] [.int q15.1] (hp q15.2) 0 0 _
          refine Ev.blk (pc' := 88) [(.ineg, 0, 0, 0), (.istore 5, 0, 0, 0), (.aload_n 0, 0, 0, 0), (.iconst 1, 0, 0, 0)] (by decide +kernel) trivial rfl (And.intro (Nat.le_of_ble_eq_true rfl) (?_))
          show Ev l d mi_X10_value1 88 [some (.ref 65), some (.int x1), some (.int x2), some (.int x3), some (.int x4), some (.int (-q15.1))] [.int (Int32.ofInt 1), .ref 65] (hp q15.2) 0 0 _
          obtain ⟨q16, hq16, hf⟩ := bd_some hf
          refine Ev.callV (o := 65) (M' := mi_X10_undoes) (d' := d - 1) (As := [.int (Int32.ofInt 1)]) (rest := []) (r' := (none, hp q16)) (e_X10_undoes (d := d - 1) (by omega) (Int32.ofInt 1) q15.2 _ hq16) (by omega) wm_X10_undoes wi_X10_undoes wv_X10_undoes km_10_503 (kc rfl rfl) (Nat.le_of_ble_eq_true rfl) rfl rfl rfl (Nat.le_of_ble_eq_true rfl) ⟨Nat.le_of_ble_eq_true rfl, Nat.le_of_ble_eq_true rfl⟩ (by decide +kernel) ?_
          show Ev l d mi_X10_value1 91 [some (.ref 65), some (.int x1), some (.int x2), some (.int x3), some (.int x4), some (.int (-q15.1))] [] (hp q16) 0 0 _
          refine Ev.blk (pc' := 92) [(.iload_n 2, 0, 0, 0)] (by decide +kernel) trivial rfl (?_)
          show Ev l d mi_X10_value1 92 [some (.ref 65), some (.int x1), some (.int x2), some (.int x3), some (.int x4), some (.int (-q15.1))] [.int x2] (hp q16) 0 0 _
          refine Ev.if_eq (off := 12) (tgt := 104) (by decide +kernel) (by decide) (fun b17 => ?_) (fun b17 => ?_)
          · have hf := (if_pos b17).symm.trans hf
            exact Ev.wk ((e_X10_value1_j104 hd (f_X10_value1_L35 k24 n) ih) x3 x4 (-q15.1) q16 _ hf) (And.intro (Or.inr rfl) (And.intro (Or.inl rfl) (And.intro (Or.inl rfl) (And.intro (Or.inr rfl) (And.intro (Or.inr rfl) (And.intro (Or.inr rfl) (trivial)))))))
          · have hf := (if_neg b17).symm.trans hf
            refine Ev.blk (pc' := 98) [(.iload 5, 0, 0, 0), (.iload_n 1, 0, 0, 0)] (by decide +kernel) trivial rfl (?_)
            show Ev l d mi_X10_value1 98 [some (.ref 65), some (.int x1), some (.int x2), some (.int x3), some (.int x4), some (.int (-q15.1))] [.int x1, .int (-q15.1)] (hp q16) 0 0 _
            refine Ev.icmp_gt (off := 6) (tgt := 104) (by decide +kernel) (by decide) (fun b18 => ?_) (fun b18 => ?_)
            · have hf := (if_pos b18).symm.trans hf
              exact Ev.wk ((e_X10_value1_j104 hd (f_X10_value1_L35 k24 n) ih) x3 x4 (-q15.1) q16 _ hf) (And.intro (Or.inr rfl) (And.intro (Or.inl rfl) (And.intro (Or.inl rfl) (And.intro (Or.inr rfl) (And.intro (Or.inr rfl) (And.intro (Or.inr rfl) (trivial)))))))
            · have hf := (if_neg b18).symm.trans hf
              refine Ev.goto (off := 8) (tgt := 109) (by decide +kernel) (by decide) ?_
              refine Ev.blk (pc' := 112) [(.iinc 4 1, 0, 0, 0)] (by decide +kernel) trivial rfl (And.intro (Nat.le_of_ble_eq_true rfl) (?_))
              show Ev l d mi_X10_value1 112 [some (.ref 65), some (.int x1), some (.int x2), some (.int x3), some (.int (x4 + Int32.ofInt 1)), some (.int (-q15.1))] [] (hp q16) 0 0 _
              refine Ev.goto (off := -77) (tgt := 35) (by decide +kernel) (by decide) ?_
              exact Ev.wk (ih x1 x2 x3 (x4 + Int32.ofInt 1) q16 _ hf) (And.intro (Or.inr rfl) (And.intro (Or.inr rfl) (And.intro (Or.inr rfl) (And.intro (Or.inr rfl) (And.intro (Or.inr rfl) (And.intro (Or.inl rfl) (trivial)))))))
        · have hf := (if_pos b13).symm.trans hf
          refine Ev.goto (off := 41) (tgt := 109) (by decide +kernel) (by decide) ?_
          refine Ev.blk (pc' := 112) [(.iinc 4 1, 0, 0, 0)] (by decide +kernel) trivial rfl (And.intro (Nat.le_of_ble_eq_true rfl) (?_))
          show Ev l d mi_X10_value1 112 [some (.ref 65), some (.int x1), some (.int x2), some (.int x3), some (.int (x4 + Int32.ofInt 1)), none] [] (hp q12.2) 0 0 _
          refine Ev.goto (off := -77) (tgt := 35) (by decide +kernel) (by decide) ?_
          exact ih x1 x2 x3 (x4 + Int32.ofInt 1) q12.2 _ hf
def f_X10_value1_L24 : Nat → Int32 → Int32 → Int32 → ST → Option (Int32 × ST)
  | 0, _, _, _, _ => none
  | n + 1, x1, x2, x3, s => (f_X10_manMany s).bind (fun q5 => (if q5.1 ≤ x3 then some (x1, q5.2) else (f_X10_value1_L35 (f_X10_value1_L24 n) fuel) x1 x2 x3 (Int32.ofInt 0) q5.2))
set_option maxHeartbeats 2000000 in
set_option maxRecDepth 20000 in
theorem e_X10_value1_L24 {l : Launch} {d : Nat} (hd : 5 ≤ d) : ∀ (n : Nat) (x1 : Int32) (x2 : Int32) (x3 : Int32) (s : ST) (r : Int32 × ST), f_X10_value1_L24 n x1 x2 x3 s = some r → Ev l d mi_X10_value1 24 [some (.ref 65), some (.int x1), some (.int x2), some (.int x3), none, none] [] (hp s) 0 0 (some (.int r.1), hp r.2) := by
  intro n
  induction n with
  | zero =>
    intro x1 x2 x3 s r hf
    cases hf
  | succ n ih =>
    intro x1 x2 x3 s r hf
    unfold f_X10_value1_L24 at hf
    refine Ev.blk (pc' := 26) [(.iload_n 3, 0, 0, 0), (.aload_n 0, 0, 0, 0)] (by decide +kernel) trivial rfl (?_)
    show Ev l d mi_X10_value1 26 [some (.ref 65), some (.int x1), some (.int x2), some (.int x3), none, none] [.ref 65, .int x3] (hp s) 0 0 _
    obtain ⟨q5, hq5, hf⟩ := bd_some hf
    refine Ev.callV (o := 65) (M' := mi_X10_manMany) (d' := d - 1) (As := []) (rest := [.int x3]) (r' := (some (.int q5.1), hp q5.2)) (e_X10_manMany (d := d - 1) (by omega) s _ hq5) (by omega) wm_X10_manMany wi_X10_manMany wv_X10_manMany km_10_433 (kc rfl rfl) (Nat.le_of_ble_eq_true rfl) rfl rfl rfl (Nat.le_of_ble_eq_true rfl) ⟨Nat.le_of_ble_eq_true rfl, Nat.le_of_ble_eq_true rfl⟩ (by decide +kernel) ?_
    show Ev l d mi_X10_value1 29 [some (.ref 65), some (.int x1), some (.int x2), some (.int x3), none, none] [.int q5.1, .int x3] (hp q5.2) 0 0 _
    refine Ev.icmp_ge (off := 92) (tgt := 121) (by decide +kernel) (by decide) (fun b6 => ?_) (fun b6 => ?_)
    · have hf := (if_pos b6).symm.trans hf
      refine Ev.blk (pc' := 122) [(.iload_n 1, 0, 0, 0)] (by decide +kernel) trivial rfl (?_)
      show Ev l d mi_X10_value1 122 [some (.ref 65), some (.int x1), some (.int x2), some (.int x3), none, none] [.int x1] (hp q5.2) 0 0 _
      cases hf
      exact Ev.iret .int rfl rfl (by decide +kernel) (Nat.le_refl _) (Nat.le_refl _)
    · have hf := (if_neg b6).symm.trans hf
      refine Ev.blk (pc' := 35) [(.iconst 0, 0, 0, 0), (.istore 4, 0, 0, 0)] (by decide +kernel) trivial rfl (And.intro (Nat.le_of_ble_eq_true rfl) (?_))
      show Ev l d mi_X10_value1 35 [some (.ref 65), some (.int x1), some (.int x2), some (.int x3), some (.int (Int32.ofInt 0)), none] [] (hp q5.2) 0 0 _
      exact (e_X10_value1_L35 hd (f_X10_value1_L24 n) ih fuel) x1 x2 x3 (Int32.ofInt 0) q5.2 _ hf
def f_X10_value1 (s : ST) : Option (Int32 × ST) := gd (ib (Int32.ofInt 1) 225) ((f_X10_balanceOf (s.1 112 (Int32.ofInt 1).toNatClampNeg) s).bind (fun q2 => (f_X10_isCrownTaken q2.2).bind (fun q3 => (if q3.1 = 0 then (f_X10_value1_L24 fuel) q2.1 (Int32.ofInt 0) (Int32.ofInt 0) q3.2 else some (q2.1, q3.2)))))
set_option maxHeartbeats 2000000 in
set_option maxRecDepth 20000 in
theorem e_X10_value1 {l : Launch} {d : Nat} (hd : 5 ≤ d) (s : ST) (r : Int32 × ST) (hf : f_X10_value1 s = some r) : Cl l d mi_X10_value1 [.ref 65] (hp s) (some (.int r.1), hp r.2) := by
  refine Ev.entry (by decide +kernel) rfl rfl ?_
  show Ev l d mi_X10_value1 0 [some (.ref 65), none, none, none, none, none] [] (hp s) 0 0 _
  unfold f_X10_value1 at hf
  obtain ⟨c1, hf⟩ := gd_some hf
  refine Ev.blk (pc' := 7) [(.aload_n 0, 0, 0, 0), (.aload_n 0, 0, 0, 0), (.getfield 154, 0, 10, 62), (.iconst 1, 0, 0, 0), (.iaload, 0, 0, 0)] (by decide +kernel) ⟨kf_10_154, trivial⟩ rfl (And.intro (kc rfl rfl) (Exists.intro 112 (And.intro rfl (And.intro (kc rfl rfl) (And.intro (ib_ok c1) (?_))))))
  show Ev l d mi_X10_value1 7 [some (.ref 65), none, none, none, none, none] [.int (s.1 112 (Int32.ofInt 1).toNatClampNeg), .ref 65] (hp s) 0 0 _
  obtain ⟨q2, hq2, hf⟩ := bd_some hf
  refine Ev.callV (o := 65) (M' := mi_X10_balanceOf) (d' := d - 1) (As := [.int (s.1 112 (Int32.ofInt 1).toNatClampNeg)]) (rest := []) (r' := (some (.int q2.1), hp q2.2)) (e_X10_balanceOf (d := d - 1) (by omega) (s.1 112 (Int32.ofInt 1).toNatClampNeg) s _ hq2) (by omega) wm_X10_balanceOf wi_X10_balanceOf wv_X10_balanceOf km_10_493 (kc rfl rfl) (Nat.le_of_ble_eq_true rfl) rfl rfl rfl (Nat.le_of_ble_eq_true rfl) ⟨Nat.le_of_ble_eq_true rfl, Nat.le_of_ble_eq_true rfl⟩ (by decide +kernel) ?_
  show Ev l d mi_X10_value1 10 [some (.ref 65), none, none, none, none, none] [.int q2.1] (hp q2.2) 0 0 _
  refine Ev.blk (pc' := 12) [(.istore_n 1, 0, 0, 0), (.aload_n 0, 0, 0, 0)] (by decide +kernel) trivial rfl (And.intro (Nat.le_of_ble_eq_true rfl) (?_))
  show Ev l d mi_X10_value1 12 [some (.ref 65), some (.int q2.1), none, none, none, none] [.ref 65] (hp q2.2) 0 0 _
  obtain ⟨q3, hq3, hf⟩ := bd_some hf
  refine Ev.callV (o := 65) (M' := mi_X10_isCrownTaken) (d' := d - 1) (As := []) (rest := []) (r' := (some (.int q3.1), hp q3.2)) (e_X10_isCrownTaken (d := d - 1) (by omega) q2.2 _ hq3) (by omega) wm_X10_isCrownTaken wi_X10_isCrownTaken wv_X10_isCrownTaken km_10_484 (kc rfl rfl) (Nat.le_of_ble_eq_true rfl) rfl rfl rfl (Nat.le_of_ble_eq_true rfl) ⟨Nat.le_of_ble_eq_true rfl, Nat.le_of_ble_eq_true rfl⟩ (by decide +kernel) ?_
  show Ev l d mi_X10_value1 15 [some (.ref 65), some (.int q2.1), none, none, none, none] [.int q3.1] (hp q3.2) 0 0 _
  refine Ev.if_eq (off := 5) (tgt := 20) (by decide +kernel) (by decide) (fun b4 => ?_) (fun b4 => ?_)
  · have hf := (if_pos b4).symm.trans hf
    refine Ev.blk (pc' := 24) [(.iconst 0, 0, 0, 0), (.istore_n 2, 0, 0, 0), (.iconst 0, 0, 0, 0), (.istore_n 3, 0, 0, 0)] (by decide +kernel) trivial rfl (And.intro (Nat.le_of_ble_eq_true rfl) (And.intro (Nat.le_of_ble_eq_true rfl) (?_)))
    show Ev l d mi_X10_value1 24 [some (.ref 65), some (.int q2.1), some (.int (Int32.ofInt 0)), some (.int (Int32.ofInt 0)), none, none] [] (hp q3.2) 0 0 _
    exact (e_X10_value1_L24 hd fuel) q2.1 (Int32.ofInt 0) (Int32.ofInt 0) q3.2 _ hf
  · have hf := (if_neg b4).symm.trans hf
    refine Ev.blk (pc' := 19) [(.iload_n 1, 0, 0, 0)] (by decide +kernel) trivial rfl (?_)
    show Ev l d mi_X10_value1 19 [some (.ref 65), some (.int q2.1), none, none, none, none] [.int q2.1] (hp q3.2) 0 0 _
    cases hf
    exact Ev.iret .int rfl rfl (by decide +kernel) (Nat.le_refl _) (Nat.le_refl _)
def f_X10_value2_j104 (k35 : Int32 → Int32 → Int32 → Int32 → ST → Option (Int32 × ST)) (x3 : Int32) (x4 : Int32) (x5 : Int32) (s : ST) : Option (Int32 × ST) := k35 x5 (Int32.ofInt 1) x3 (x4 + Int32.ofInt 1) s
set_option maxHeartbeats 2000000 in
set_option maxRecDepth 20000 in
theorem e_X10_value2_j104 {l : Launch} {d : Nat} (hd : 6 ≤ d) (k35 : Int32 → Int32 → Int32 → Int32 → ST → Option (Int32 × ST)) (hk35 : ∀ (x1 : Int32) (x2 : Int32) (x3 : Int32) (x4 : Int32) (s : ST) (r : Int32 × ST), k35 x1 x2 x3 x4 s = some r → Ev l d mi_X10_value2 35 [some (.ref 65), some (.int x1), some (.int x2), some (.int x3), some (.int x4), none] [] (hp s) 0 0 (some (.int r.1), hp r.2)) (x3 : Int32) (x4 : Int32) (x5 : Int32) (s : ST) (r : Int32 × ST) (hf : f_X10_value2_j104 k35 x3 x4 x5 s = some r) : Ev l d mi_X10_value2 104 [some (.ref 65), none, none, some (.int x3), some (.int x4), some (.int x5)] [] (hp s) 0 0 (some (.int r.1), hp r.2) := by
  unfold f_X10_value2_j104 at hf
  refine Ev.blk (pc' := 112) [(.iconst 1, 0, 0, 0), (.istore_n 2, 0, 0, 0), (.iload 5, 0, 0, 0), (.istore_n 1, 0, 0, 0), (.iinc 4 1, 0, 0, 0)] (by decide +kernel) trivial rfl (And.intro (Nat.le_of_ble_eq_true rfl) (And.intro (Nat.le_of_ble_eq_true rfl) (And.intro (Nat.le_of_ble_eq_true rfl) (?_))))
  show Ev l d mi_X10_value2 112 [some (.ref 65), some (.int x5), some (.int (Int32.ofInt 1)), some (.int x3), some (.int (x4 + Int32.ofInt 1)), some (.int x5)] [] (hp s) 0 0 _
  refine Ev.goto (off := -77) (tgt := 35) (by decide +kernel) (by decide) ?_
  exact Ev.wk (hk35 x5 (Int32.ofInt 1) x3 (x4 + Int32.ofInt 1) s _ hf) (And.intro (Or.inr rfl) (And.intro (Or.inr rfl) (And.intro (Or.inr rfl) (And.intro (Or.inr rfl) (And.intro (Or.inr rfl) (And.intro (Or.inl rfl) (trivial)))))))
def f_X10_value2_L35 (k24 : Int32 → Int32 → Int32 → ST → Option (Int32 × ST)) : Nat → Int32 → Int32 → Int32 → Int32 → ST → Option (Int32 × ST)
  | 0, _, _, _, _, _ => none
  | n + 1, x1, x2, x3, x4, s => (f_X10_places s).bind (fun q7 => (if q7.1 ≤ x4 then k24 x1 x2 (x3 + Int32.ofInt 1) q7.2 else (f_X10_sideOf x3 q7.2).bind (fun q9 => gd (ib (Int32.ofInt 1) 225) ((if q9.1 = (q9.2.1 112 (Int32.ofInt 1).toNatClampNeg) then (f_X10_canGo x3 x4 q9.2).bind (fun q12 => (if q12.1 = 0 then (f_X10_value2_L35 k24 n) x1 x2 x3 (x4 + Int32.ofInt 1) q12.2 else (f_X10_does (Int32.ofInt 2) x3 x4 q12.2).bind (fun q14 => (f_X10_value1 q14).bind (fun q15 => (f_X10_undoes (Int32.ofInt 2) q15.2).bind (fun q16 => (if x2 = 0 then (f_X10_value2_j104 (f_X10_value2_L35 k24 n)) x3 x4 (-q15.1) q16 else (if x1 < (-q15.1) then (f_X10_value2_j104 (f_X10_value2_L35 k24 n)) x3 x4 (-q15.1) q16 else (f_X10_value2_L35 k24 n) x1 x2 x3 (x4 + Int32.ofInt 1) q16))))))) else (f_X10_value2_L35 k24 n) x1 x2 x3 (x4 + Int32.ofInt 1) q9.2)))))
set_option maxHeartbeats 2000000 in
set_option maxRecDepth 20000 in
theorem e_X10_value2_L35 {l : Launch} {d : Nat} (hd : 6 ≤ d) (k24 : Int32 → Int32 → Int32 → ST → Option (Int32 × ST)) (hk24 : ∀ (x1 : Int32) (x2 : Int32) (x3 : Int32) (s : ST) (r : Int32 × ST), k24 x1 x2 x3 s = some r → Ev l d mi_X10_value2 24 [some (.ref 65), some (.int x1), some (.int x2), some (.int x3), none, none] [] (hp s) 0 0 (some (.int r.1), hp r.2)) : ∀ (n : Nat) (x1 : Int32) (x2 : Int32) (x3 : Int32) (x4 : Int32) (s : ST) (r : Int32 × ST), f_X10_value2_L35 k24 n x1 x2 x3 x4 s = some r → Ev l d mi_X10_value2 35 [some (.ref 65), some (.int x1), some (.int x2), some (.int x3), some (.int x4), none] [] (hp s) 0 0 (some (.int r.1), hp r.2) := by
  intro n
  induction n with
  | zero =>
    intro x1 x2 x3 x4 s r hf
    cases hf
  | succ n ih =>
    intro x1 x2 x3 x4 s r hf
    unfold f_X10_value2_L35 at hf
    refine Ev.blk (pc' := 38) [(.iload 4, 0, 0, 0), (.aload_n 0, 0, 0, 0)] (by decide +kernel) trivial rfl (?_)
    show Ev l d mi_X10_value2 38 [some (.ref 65), some (.int x1), some (.int x2), some (.int x3), some (.int x4), none] [.ref 65, .int x4] (hp s) 0 0 _
    obtain ⟨q7, hq7, hf⟩ := bd_some hf
    refine Ev.callV (o := 65) (M' := mi_X10_places) (d' := d - 1) (As := []) (rest := [.int x4]) (r' := (some (.int q7.1), hp q7.2)) (e_X10_places (d := d - 1) (by omega) s _ hq7) (by omega) wm_X10_places wi_X10_places wv_X10_places km_10_471 (kc rfl rfl) (Nat.le_of_ble_eq_true rfl) rfl rfl rfl (Nat.le_of_ble_eq_true rfl) ⟨Nat.le_of_ble_eq_true rfl, Nat.le_of_ble_eq_true rfl⟩ (by decide +kernel) ?_
    show Ev l d mi_X10_value2 41 [some (.ref 65), some (.int x1), some (.int x2), some (.int x3), some (.int x4), none] [.int q7.1, .int x4] (hp q7.2) 0 0 _
    refine Ev.icmp_ge (off := 74) (tgt := 115) (by decide +kernel) (by decide) (fun b8 => ?_) (fun b8 => ?_)
    · have hf := (if_pos b8).symm.trans hf
      refine Ev.blk (pc' := 118) [(.iinc 3 1, 0, 0, 0)] (by decide +kernel) trivial rfl (And.intro (Nat.le_of_ble_eq_true rfl) (?_))
      show Ev l d mi_X10_value2 118 [some (.ref 65), some (.int x1), some (.int x2), some (.int (x3 + Int32.ofInt 1)), some (.int x4), none] [] (hp q7.2) 0 0 _
      refine Ev.goto (off := -94) (tgt := 24) (by decide +kernel) (by decide) ?_
      exact Ev.wk (hk24 x1 x2 (x3 + Int32.ofInt 1) q7.2 _ hf) (And.intro (Or.inr rfl) (And.intro (Or.inr rfl) (And.intro (Or.inr rfl) (And.intro (Or.inr rfl) (And.intro (Or.inl rfl) (And.intro (Or.inr rfl) (trivial)))))))
    · have hf := (if_neg b8).symm.trans hf
      refine Ev.blk (pc' := 46) [(.aload_n 0, 0, 0, 0), (.iload_n 3, 0, 0, 0)] (by decide +kernel) trivial rfl (?_)
      show Ev l d mi_X10_value2 46 [some (.ref 65), some (.int x1), some (.int x2), some (.int x3), some (.int x4), none] [.int x3, .ref 65] (hp q7.2) 0 0 _
      obtain ⟨q9, hq9, hf⟩ := bd_some hf
      refine Ev.callV (o := 65) (M' := mi_X10_sideOf) (d' := d - 1) (As := [.int x3]) (rest := []) (r' := (some (.int q9.1), hp q9.2)) (e_X10_sideOf (d := d - 1) (by omega) x3 q7.2 _ hq9) (by omega) wm_X10_sideOf wi_X10_sideOf wv_X10_sideOf km_10_468 (kc rfl rfl) (Nat.le_of_ble_eq_true rfl) rfl rfl rfl (Nat.le_of_ble_eq_true rfl) ⟨Nat.le_of_ble_eq_true rfl, Nat.le_of_ble_eq_true rfl⟩ (by decide +kernel) ?_
      show Ev l d mi_X10_value2 49 [some (.ref 65), some (.int x1), some (.int x2), some (.int x3), some (.int x4), none] [.int q9.1] (hp q9.2) 0 0 _
      obtain ⟨c10, hf⟩ := gd_some hf
      refine Ev.blk (pc' := 55) [(.aload_n 0, 0, 0, 0), (.getfield 154, 0, 10, 62), (.iconst 1, 0, 0, 0), (.iaload, 0, 0, 0)] (by decide +kernel) ⟨kf_10_154, trivial⟩ rfl (And.intro (kc rfl rfl) (Exists.intro 112 (And.intro rfl (And.intro (kc rfl rfl) (And.intro (ib_ok c10) (?_))))))
      show Ev l d mi_X10_value2 55 [some (.ref 65), some (.int x1), some (.int x2), some (.int x3), some (.int x4), none] [.int (q9.2.1 112 (Int32.ofInt 1).toNatClampNeg), .int q9.1] (hp q9.2) 0 0 _
      refine Ev.icmp_ne (off := 54) (tgt := 109) (by decide +kernel) (by decide) (fun b11 => ?_) (fun b11 => ?_)
      · have hf := (if_neg b11).symm.trans hf
        refine Ev.blk (pc' := 112) [(.iinc 4 1, 0, 0, 0)] (by decide +kernel) trivial rfl (And.intro (Nat.le_of_ble_eq_true rfl) (?_))
        show Ev l d mi_X10_value2 112 [some (.ref 65), some (.int x1), some (.int x2), some (.int x3), some (.int (x4 + Int32.ofInt 1)), none] [] (hp q9.2) 0 0 _
        refine Ev.goto (off := -77) (tgt := 35) (by decide +kernel) (by decide) ?_
        exact ih x1 x2 x3 (x4 + Int32.ofInt 1) q9.2 _ hf
      · have hf := (if_pos b11).symm.trans hf
        refine Ev.blk (pc' := 62) [(.aload_n 0, 0, 0, 0), (.iload_n 3, 0, 0, 0), (.iload 4, 0, 0, 0)] (by decide +kernel) trivial rfl (?_)
        show Ev l d mi_X10_value2 62 [some (.ref 65), some (.int x1), some (.int x2), some (.int x3), some (.int x4), none] [.int x4, .int x3, .ref 65] (hp q9.2) 0 0 _
        obtain ⟨q12, hq12, hf⟩ := bd_some hf
        refine Ev.callV (o := 65) (M' := mi_X10_canGo) (d' := d - 1) (As := [.int x3, .int x4]) (rest := []) (r' := (some (.int q12.1), hp q12.2)) (e_X10_canGo (d := d - 1) (by omega) x3 x4 q9.2 _ hq12) (by omega) wm_X10_canGo wi_X10_canGo wv_X10_canGo km_10_474 (kc rfl rfl) (Nat.le_of_ble_eq_true rfl) rfl rfl rfl (Nat.le_of_ble_eq_true rfl) ⟨Nat.le_of_ble_eq_true rfl, Nat.le_of_ble_eq_true rfl⟩ (by decide +kernel) ?_
        show Ev l d mi_X10_value2 65 [some (.ref 65), some (.int x1), some (.int x2), some (.int x3), some (.int x4), none] [.int q12.1] (hp q12.2) 0 0 _
        refine Ev.if_ne (off := 6) (tgt := 71) (by decide +kernel) (by decide) (fun b13 => ?_) (fun b13 => ?_)
        · have hf := (if_neg b13).symm.trans hf
          refine Ev.blk (pc' := 76) [(.aload_n 0, 0, 0, 0), (.iconst 2, 0, 0, 0), (.iload_n 3, 0, 0, 0), (.iload 4, 0, 0, 0)] (by decide +kernel) trivial rfl (?_)
          show Ev l d mi_X10_value2 76 [some (.ref 65), some (.int x1), some (.int x2), some (.int x3), some (.int x4), none] [.int x4, .int x3, .int (Int32.ofInt 2), .ref 65] (hp q12.2) 0 0 _
          obtain ⟨q14, hq14, hf⟩ := bd_some hf
          refine Ev.callV (o := 65) (M' := mi_X10_does) (d' := d - 1) (As := [.int (Int32.ofInt 2), .int x3, .int x4]) (rest := []) (r' := (none, hp q14)) (e_X10_does (d := d - 1) (by omega) (Int32.ofInt 2) x3 x4 q12.2 _ hq14) (by omega) wm_X10_does wi_X10_does wv_X10_does km_10_496 (kc rfl rfl) (Nat.le_of_ble_eq_true rfl) rfl rfl rfl (Nat.le_of_ble_eq_true rfl) ⟨Nat.le_of_ble_eq_true rfl, Nat.le_of_ble_eq_true rfl⟩ (by decide +kernel) ?_
          show Ev l d mi_X10_value2 79 [some (.ref 65), some (.int x1), some (.int x2), some (.int x3), some (.int x4), none] [] (hp q14) 0 0 _
          refine Ev.blk (pc' := 80) [(.aload_n 0, 0, 0, 0)] (by decide +kernel) trivial rfl (?_)
          show Ev l d mi_X10_value2 80 [some (.ref 65), some (.int x1), some (.int x2), some (.int x3), some (.int x4), none] [.ref 65] (hp q14) 0 0 _
          obtain ⟨q15, hq15, hf⟩ := bd_some hf
          refine Ev.callV (o := 65) (M' := mi_X10_value1) (d' := d - 1) (As := []) (rest := []) (r' := (some (.int q15.1), hp q15.2)) (e_X10_value1 (d := d - 1) (by omega) q14 _ hq15) (by omega) wm_X10_value1 wi_X10_value1 wv_X10_value1 km_10_506 (kc rfl rfl) (Nat.le_of_ble_eq_true rfl) rfl rfl rfl (Nat.le_of_ble_eq_true rfl) ⟨Nat.le_of_ble_eq_true rfl, Nat.le_of_ble_eq_true rfl⟩ (by decide +kernel) ?_
          show Ev l d mi_X10_value2 83 [some (.ref 65), some (.int x1), some (.int x2), some (.int x3), some (.int x4), none] [.int q15.1] (hp q15.2) 0 0 _
          refine Ev.blk (pc' := 88) [(.ineg, 0, 0, 0), (.istore 5, 0, 0, 0), (.aload_n 0, 0, 0, 0), (.iconst 2, 0, 0, 0)] (by decide +kernel) trivial rfl (And.intro (Nat.le_of_ble_eq_true rfl) (?_))
          show Ev l d mi_X10_value2 88 [some (.ref 65), some (.int x1), some (.int x2), some (.int x3), some (.int x4), some (.int (-q15.1))] [.int (Int32.ofInt 2), .ref 65] (hp q15.2) 0 0 _
          obtain ⟨q16, hq16, hf⟩ := bd_some hf
          refine Ev.callV (o := 65) (M' := mi_X10_undoes) (d' := d - 1) (As := [.int (Int32.ofInt 2)]) (rest := []) (r' := (none, hp q16)) (e_X10_undoes (d := d - 1) (by omega) (Int32.ofInt 2) q15.2 _ hq16) (by omega) wm_X10_undoes wi_X10_undoes wv_X10_undoes km_10_503 (kc rfl rfl) (Nat.le_of_ble_eq_true rfl) rfl rfl rfl (Nat.le_of_ble_eq_true rfl) ⟨Nat.le_of_ble_eq_true rfl, Nat.le_of_ble_eq_true rfl⟩ (by decide +kernel) ?_
          show Ev l d mi_X10_value2 91 [some (.ref 65), some (.int x1), some (.int x2), some (.int x3), some (.int x4), some (.int (-q15.1))] [] (hp q16) 0 0 _
          refine Ev.blk (pc' := 92) [(.iload_n 2, 0, 0, 0)] (by decide +kernel) trivial rfl (?_)
          show Ev l d mi_X10_value2 92 [some (.ref 65), some (.int x1), some (.int x2), some (.int x3), some (.int x4), some (.int (-q15.1))] [.int x2] (hp q16) 0 0 _
          refine Ev.if_eq (off := 12) (tgt := 104) (by decide +kernel) (by decide) (fun b17 => ?_) (fun b17 => ?_)
          · have hf := (if_pos b17).symm.trans hf
            exact Ev.wk ((e_X10_value2_j104 hd (f_X10_value2_L35 k24 n) ih) x3 x4 (-q15.1) q16 _ hf) (And.intro (Or.inr rfl) (And.intro (Or.inl rfl) (And.intro (Or.inl rfl) (And.intro (Or.inr rfl) (And.intro (Or.inr rfl) (And.intro (Or.inr rfl) (trivial)))))))
          · have hf := (if_neg b17).symm.trans hf
            refine Ev.blk (pc' := 98) [(.iload 5, 0, 0, 0), (.iload_n 1, 0, 0, 0)] (by decide +kernel) trivial rfl (?_)
            show Ev l d mi_X10_value2 98 [some (.ref 65), some (.int x1), some (.int x2), some (.int x3), some (.int x4), some (.int (-q15.1))] [.int x1, .int (-q15.1)] (hp q16) 0 0 _
            refine Ev.icmp_gt (off := 6) (tgt := 104) (by decide +kernel) (by decide) (fun b18 => ?_) (fun b18 => ?_)
            · have hf := (if_pos b18).symm.trans hf
              exact Ev.wk ((e_X10_value2_j104 hd (f_X10_value2_L35 k24 n) ih) x3 x4 (-q15.1) q16 _ hf) (And.intro (Or.inr rfl) (And.intro (Or.inl rfl) (And.intro (Or.inl rfl) (And.intro (Or.inr rfl) (And.intro (Or.inr rfl) (And.intro (Or.inr rfl) (trivial)))))))
            · have hf := (if_neg b18).symm.trans hf
              refine Ev.goto (off := 8) (tgt := 109) (by decide +kernel) (by decide) ?_
              refine Ev.blk (pc' := 112) [(.iinc 4 1, 0, 0, 0)] (by decide +kernel) trivial rfl (And.intro (Nat.le_of_ble_eq_true rfl) (?_))
              show Ev l d mi_X10_value2 112 [some (.ref 65), some (.int x1), some (.int x2), some (.int x3), some (.int (x4 + Int32.ofInt 1)), some (.int (-q15.1))] [] (hp q16) 0 0 _
              refine Ev.goto (off := -77) (tgt := 35) (by decide +kernel) (by decide) ?_
              exact Ev.wk (ih x1 x2 x3 (x4 + Int32.ofInt 1) q16 _ hf) (And.intro (Or.inr rfl) (And.intro (Or.inr rfl) (And.intro (Or.inr rfl) (And.intro (Or.inr rfl) (And.intro (Or.inr rfl) (And.intro (Or.inl rfl) (trivial)))))))
        · have hf := (if_pos b13).symm.trans hf
          refine Ev.goto (off := 41) (tgt := 109) (by decide +kernel) (by decide) ?_
          refine Ev.blk (pc' := 112) [(.iinc 4 1, 0, 0, 0)] (by decide +kernel) trivial rfl (And.intro (Nat.le_of_ble_eq_true rfl) (?_))
          show Ev l d mi_X10_value2 112 [some (.ref 65), some (.int x1), some (.int x2), some (.int x3), some (.int (x4 + Int32.ofInt 1)), none] [] (hp q12.2) 0 0 _
          refine Ev.goto (off := -77) (tgt := 35) (by decide +kernel) (by decide) ?_
          exact ih x1 x2 x3 (x4 + Int32.ofInt 1) q12.2 _ hf
def f_X10_value2_L24 : Nat → Int32 → Int32 → Int32 → ST → Option (Int32 × ST)
  | 0, _, _, _, _ => none
  | n + 1, x1, x2, x3, s => (f_X10_manMany s).bind (fun q5 => (if q5.1 ≤ x3 then some (x1, q5.2) else (f_X10_value2_L35 (f_X10_value2_L24 n) fuel) x1 x2 x3 (Int32.ofInt 0) q5.2))
set_option maxHeartbeats 2000000 in
set_option maxRecDepth 20000 in
theorem e_X10_value2_L24 {l : Launch} {d : Nat} (hd : 6 ≤ d) : ∀ (n : Nat) (x1 : Int32) (x2 : Int32) (x3 : Int32) (s : ST) (r : Int32 × ST), f_X10_value2_L24 n x1 x2 x3 s = some r → Ev l d mi_X10_value2 24 [some (.ref 65), some (.int x1), some (.int x2), some (.int x3), none, none] [] (hp s) 0 0 (some (.int r.1), hp r.2) := by
  intro n
  induction n with
  | zero =>
    intro x1 x2 x3 s r hf
    cases hf
  | succ n ih =>
    intro x1 x2 x3 s r hf
    unfold f_X10_value2_L24 at hf
    refine Ev.blk (pc' := 26) [(.iload_n 3, 0, 0, 0), (.aload_n 0, 0, 0, 0)] (by decide +kernel) trivial rfl (?_)
    show Ev l d mi_X10_value2 26 [some (.ref 65), some (.int x1), some (.int x2), some (.int x3), none, none] [.ref 65, .int x3] (hp s) 0 0 _
    obtain ⟨q5, hq5, hf⟩ := bd_some hf
    refine Ev.callV (o := 65) (M' := mi_X10_manMany) (d' := d - 1) (As := []) (rest := [.int x3]) (r' := (some (.int q5.1), hp q5.2)) (e_X10_manMany (d := d - 1) (by omega) s _ hq5) (by omega) wm_X10_manMany wi_X10_manMany wv_X10_manMany km_10_433 (kc rfl rfl) (Nat.le_of_ble_eq_true rfl) rfl rfl rfl (Nat.le_of_ble_eq_true rfl) ⟨Nat.le_of_ble_eq_true rfl, Nat.le_of_ble_eq_true rfl⟩ (by decide +kernel) ?_
    show Ev l d mi_X10_value2 29 [some (.ref 65), some (.int x1), some (.int x2), some (.int x3), none, none] [.int q5.1, .int x3] (hp q5.2) 0 0 _
    refine Ev.icmp_ge (off := 92) (tgt := 121) (by decide +kernel) (by decide) (fun b6 => ?_) (fun b6 => ?_)
    · have hf := (if_pos b6).symm.trans hf
      refine Ev.blk (pc' := 122) [(.iload_n 1, 0, 0, 0)] (by decide +kernel) trivial rfl (?_)
      show Ev l d mi_X10_value2 122 [some (.ref 65), some (.int x1), some (.int x2), some (.int x3), none, none] [.int x1] (hp q5.2) 0 0 _
      cases hf
      exact Ev.iret .int rfl rfl (by decide +kernel) (Nat.le_refl _) (Nat.le_refl _)
    · have hf := (if_neg b6).symm.trans hf
      refine Ev.blk (pc' := 35) [(.iconst 0, 0, 0, 0), (.istore 4, 0, 0, 0)] (by decide +kernel) trivial rfl (And.intro (Nat.le_of_ble_eq_true rfl) (?_))
      show Ev l d mi_X10_value2 35 [some (.ref 65), some (.int x1), some (.int x2), some (.int x3), some (.int (Int32.ofInt 0)), none] [] (hp q5.2) 0 0 _
      exact (e_X10_value2_L35 hd (f_X10_value2_L24 n) ih fuel) x1 x2 x3 (Int32.ofInt 0) q5.2 _ hf
def f_X10_value2 (s : ST) : Option (Int32 × ST) := gd (ib (Int32.ofInt 1) 225) ((f_X10_balanceOf (s.1 112 (Int32.ofInt 1).toNatClampNeg) s).bind (fun q2 => (f_X10_isCrownTaken q2.2).bind (fun q3 => (if q3.1 = 0 then (f_X10_value2_L24 fuel) q2.1 (Int32.ofInt 0) (Int32.ofInt 0) q3.2 else some (q2.1, q3.2)))))
set_option maxHeartbeats 2000000 in
set_option maxRecDepth 20000 in
theorem e_X10_value2 {l : Launch} {d : Nat} (hd : 6 ≤ d) (s : ST) (r : Int32 × ST) (hf : f_X10_value2 s = some r) : Cl l d mi_X10_value2 [.ref 65] (hp s) (some (.int r.1), hp r.2) := by
  refine Ev.entry (by decide +kernel) rfl rfl ?_
  show Ev l d mi_X10_value2 0 [some (.ref 65), none, none, none, none, none] [] (hp s) 0 0 _
  unfold f_X10_value2 at hf
  obtain ⟨c1, hf⟩ := gd_some hf
  refine Ev.blk (pc' := 7) [(.aload_n 0, 0, 0, 0), (.aload_n 0, 0, 0, 0), (.getfield 154, 0, 10, 62), (.iconst 1, 0, 0, 0), (.iaload, 0, 0, 0)] (by decide +kernel) ⟨kf_10_154, trivial⟩ rfl (And.intro (kc rfl rfl) (Exists.intro 112 (And.intro rfl (And.intro (kc rfl rfl) (And.intro (ib_ok c1) (?_))))))
  show Ev l d mi_X10_value2 7 [some (.ref 65), none, none, none, none, none] [.int (s.1 112 (Int32.ofInt 1).toNatClampNeg), .ref 65] (hp s) 0 0 _
  obtain ⟨q2, hq2, hf⟩ := bd_some hf
  refine Ev.callV (o := 65) (M' := mi_X10_balanceOf) (d' := d - 1) (As := [.int (s.1 112 (Int32.ofInt 1).toNatClampNeg)]) (rest := []) (r' := (some (.int q2.1), hp q2.2)) (e_X10_balanceOf (d := d - 1) (by omega) (s.1 112 (Int32.ofInt 1).toNatClampNeg) s _ hq2) (by omega) wm_X10_balanceOf wi_X10_balanceOf wv_X10_balanceOf km_10_493 (kc rfl rfl) (Nat.le_of_ble_eq_true rfl) rfl rfl rfl (Nat.le_of_ble_eq_true rfl) ⟨Nat.le_of_ble_eq_true rfl, Nat.le_of_ble_eq_true rfl⟩ (by decide +kernel) ?_
  show Ev l d mi_X10_value2 10 [some (.ref 65), none, none, none, none, none] [.int q2.1] (hp q2.2) 0 0 _
  refine Ev.blk (pc' := 12) [(.istore_n 1, 0, 0, 0), (.aload_n 0, 0, 0, 0)] (by decide +kernel) trivial rfl (And.intro (Nat.le_of_ble_eq_true rfl) (?_))
  show Ev l d mi_X10_value2 12 [some (.ref 65), some (.int q2.1), none, none, none, none] [.ref 65] (hp q2.2) 0 0 _
  obtain ⟨q3, hq3, hf⟩ := bd_some hf
  refine Ev.callV (o := 65) (M' := mi_X10_isCrownTaken) (d' := d - 1) (As := []) (rest := []) (r' := (some (.int q3.1), hp q3.2)) (e_X10_isCrownTaken (d := d - 1) (by omega) q2.2 _ hq3) (by omega) wm_X10_isCrownTaken wi_X10_isCrownTaken wv_X10_isCrownTaken km_10_484 (kc rfl rfl) (Nat.le_of_ble_eq_true rfl) rfl rfl rfl (Nat.le_of_ble_eq_true rfl) ⟨Nat.le_of_ble_eq_true rfl, Nat.le_of_ble_eq_true rfl⟩ (by decide +kernel) ?_
  show Ev l d mi_X10_value2 15 [some (.ref 65), some (.int q2.1), none, none, none, none] [.int q3.1] (hp q3.2) 0 0 _
  refine Ev.if_eq (off := 5) (tgt := 20) (by decide +kernel) (by decide) (fun b4 => ?_) (fun b4 => ?_)
  · have hf := (if_pos b4).symm.trans hf
    refine Ev.blk (pc' := 24) [(.iconst 0, 0, 0, 0), (.istore_n 2, 0, 0, 0), (.iconst 0, 0, 0, 0), (.istore_n 3, 0, 0, 0)] (by decide +kernel) trivial rfl (And.intro (Nat.le_of_ble_eq_true rfl) (And.intro (Nat.le_of_ble_eq_true rfl) (?_)))
    show Ev l d mi_X10_value2 24 [some (.ref 65), some (.int q2.1), some (.int (Int32.ofInt 0)), some (.int (Int32.ofInt 0)), none, none] [] (hp q3.2) 0 0 _
    exact (e_X10_value2_L24 hd fuel) q2.1 (Int32.ofInt 0) (Int32.ofInt 0) q3.2 _ hf
  · have hf := (if_neg b4).symm.trans hf
    refine Ev.blk (pc' := 19) [(.iload_n 1, 0, 0, 0)] (by decide +kernel) trivial rfl (?_)
    show Ev l d mi_X10_value2 19 [some (.ref 65), some (.int q2.1), none, none, none, none] [.int q2.1] (hp q3.2) 0 0 _
    cases hf
    exact Ev.iret .int rfl rfl (by decide +kernel) (Nat.le_refl _) (Nat.le_refl _)
def f_X10_value3_j104 (k35 : Int32 → Int32 → Int32 → Int32 → ST → Option (Int32 × ST)) (x3 : Int32) (x4 : Int32) (x5 : Int32) (s : ST) : Option (Int32 × ST) := k35 x5 (Int32.ofInt 1) x3 (x4 + Int32.ofInt 1) s
set_option maxHeartbeats 2000000 in
set_option maxRecDepth 20000 in
theorem e_X10_value3_j104 {l : Launch} {d : Nat} (hd : 7 ≤ d) (k35 : Int32 → Int32 → Int32 → Int32 → ST → Option (Int32 × ST)) (hk35 : ∀ (x1 : Int32) (x2 : Int32) (x3 : Int32) (x4 : Int32) (s : ST) (r : Int32 × ST), k35 x1 x2 x3 x4 s = some r → Ev l d mi_X10_value3 35 [some (.ref 65), some (.int x1), some (.int x2), some (.int x3), some (.int x4), none] [] (hp s) 0 0 (some (.int r.1), hp r.2)) (x3 : Int32) (x4 : Int32) (x5 : Int32) (s : ST) (r : Int32 × ST) (hf : f_X10_value3_j104 k35 x3 x4 x5 s = some r) : Ev l d mi_X10_value3 104 [some (.ref 65), none, none, some (.int x3), some (.int x4), some (.int x5)] [] (hp s) 0 0 (some (.int r.1), hp r.2) := by
  unfold f_X10_value3_j104 at hf
  refine Ev.blk (pc' := 112) [(.iconst 1, 0, 0, 0), (.istore_n 2, 0, 0, 0), (.iload 5, 0, 0, 0), (.istore_n 1, 0, 0, 0), (.iinc 4 1, 0, 0, 0)] (by decide +kernel) trivial rfl (And.intro (Nat.le_of_ble_eq_true rfl) (And.intro (Nat.le_of_ble_eq_true rfl) (And.intro (Nat.le_of_ble_eq_true rfl) (?_))))
  show Ev l d mi_X10_value3 112 [some (.ref 65), some (.int x5), some (.int (Int32.ofInt 1)), some (.int x3), some (.int (x4 + Int32.ofInt 1)), some (.int x5)] [] (hp s) 0 0 _
  refine Ev.goto (off := -77) (tgt := 35) (by decide +kernel) (by decide) ?_
  exact Ev.wk (hk35 x5 (Int32.ofInt 1) x3 (x4 + Int32.ofInt 1) s _ hf) (And.intro (Or.inr rfl) (And.intro (Or.inr rfl) (And.intro (Or.inr rfl) (And.intro (Or.inr rfl) (And.intro (Or.inr rfl) (And.intro (Or.inl rfl) (trivial)))))))
def f_X10_value3_L35 (k24 : Int32 → Int32 → Int32 → ST → Option (Int32 × ST)) : Nat → Int32 → Int32 → Int32 → Int32 → ST → Option (Int32 × ST)
  | 0, _, _, _, _, _ => none
  | n + 1, x1, x2, x3, x4, s => (f_X10_places s).bind (fun q7 => (if q7.1 ≤ x4 then k24 x1 x2 (x3 + Int32.ofInt 1) q7.2 else (f_X10_sideOf x3 q7.2).bind (fun q9 => gd (ib (Int32.ofInt 1) 225) ((if q9.1 = (q9.2.1 112 (Int32.ofInt 1).toNatClampNeg) then (f_X10_canGo x3 x4 q9.2).bind (fun q12 => (if q12.1 = 0 then (f_X10_value3_L35 k24 n) x1 x2 x3 (x4 + Int32.ofInt 1) q12.2 else (f_X10_does (Int32.ofInt 3) x3 x4 q12.2).bind (fun q14 => (f_X10_value2 q14).bind (fun q15 => (f_X10_undoes (Int32.ofInt 3) q15.2).bind (fun q16 => (if x2 = 0 then (f_X10_value3_j104 (f_X10_value3_L35 k24 n)) x3 x4 (-q15.1) q16 else (if x1 < (-q15.1) then (f_X10_value3_j104 (f_X10_value3_L35 k24 n)) x3 x4 (-q15.1) q16 else (f_X10_value3_L35 k24 n) x1 x2 x3 (x4 + Int32.ofInt 1) q16))))))) else (f_X10_value3_L35 k24 n) x1 x2 x3 (x4 + Int32.ofInt 1) q9.2)))))
set_option maxHeartbeats 2000000 in
set_option maxRecDepth 20000 in
theorem e_X10_value3_L35 {l : Launch} {d : Nat} (hd : 7 ≤ d) (k24 : Int32 → Int32 → Int32 → ST → Option (Int32 × ST)) (hk24 : ∀ (x1 : Int32) (x2 : Int32) (x3 : Int32) (s : ST) (r : Int32 × ST), k24 x1 x2 x3 s = some r → Ev l d mi_X10_value3 24 [some (.ref 65), some (.int x1), some (.int x2), some (.int x3), none, none] [] (hp s) 0 0 (some (.int r.1), hp r.2)) : ∀ (n : Nat) (x1 : Int32) (x2 : Int32) (x3 : Int32) (x4 : Int32) (s : ST) (r : Int32 × ST), f_X10_value3_L35 k24 n x1 x2 x3 x4 s = some r → Ev l d mi_X10_value3 35 [some (.ref 65), some (.int x1), some (.int x2), some (.int x3), some (.int x4), none] [] (hp s) 0 0 (some (.int r.1), hp r.2) := by
  intro n
  induction n with
  | zero =>
    intro x1 x2 x3 x4 s r hf
    cases hf
  | succ n ih =>
    intro x1 x2 x3 x4 s r hf
    unfold f_X10_value3_L35 at hf
    refine Ev.blk (pc' := 38) [(.iload 4, 0, 0, 0), (.aload_n 0, 0, 0, 0)] (by decide +kernel) trivial rfl (?_)
    show Ev l d mi_X10_value3 38 [some (.ref 65), some (.int x1), some (.int x2), some (.int x3), some (.int x4), none] [.ref 65, .int x4] (hp s) 0 0 _
    obtain ⟨q7, hq7, hf⟩ := bd_some hf
    refine Ev.callV (o := 65) (M' := mi_X10_places) (d' := d - 1) (As := []) (rest := [.int x4]) (r' := (some (.int q7.1), hp q7.2)) (e_X10_places (d := d - 1) (by omega) s _ hq7) (by omega) wm_X10_places wi_X10_places wv_X10_places km_10_471 (kc rfl rfl) (Nat.le_of_ble_eq_true rfl) rfl rfl rfl (Nat.le_of_ble_eq_true rfl) ⟨Nat.le_of_ble_eq_true rfl, Nat.le_of_ble_eq_true rfl⟩ (by decide +kernel) ?_
    show Ev l d mi_X10_value3 41 [some (.ref 65), some (.int x1), some (.int x2), some (.int x3), some (.int x4), none] [.int q7.1, .int x4] (hp q7.2) 0 0 _
    refine Ev.icmp_ge (off := 74) (tgt := 115) (by decide +kernel) (by decide) (fun b8 => ?_) (fun b8 => ?_)
    · have hf := (if_pos b8).symm.trans hf
      refine Ev.blk (pc' := 118) [(.iinc 3 1, 0, 0, 0)] (by decide +kernel) trivial rfl (And.intro (Nat.le_of_ble_eq_true rfl) (?_))
      show Ev l d mi_X10_value3 118 [some (.ref 65), some (.int x1), some (.int x2), some (.int (x3 + Int32.ofInt 1)), some (.int x4), none] [] (hp q7.2) 0 0 _
      refine Ev.goto (off := -94) (tgt := 24) (by decide +kernel) (by decide) ?_
      exact Ev.wk (hk24 x1 x2 (x3 + Int32.ofInt 1) q7.2 _ hf) (And.intro (Or.inr rfl) (And.intro (Or.inr rfl) (And.intro (Or.inr rfl) (And.intro (Or.inr rfl) (And.intro (Or.inl rfl) (And.intro (Or.inr rfl) (trivial)))))))
    · have hf := (if_neg b8).symm.trans hf
      refine Ev.blk (pc' := 46) [(.aload_n 0, 0, 0, 0), (.iload_n 3, 0, 0, 0)] (by decide +kernel) trivial rfl (?_)
      show Ev l d mi_X10_value3 46 [some (.ref 65), some (.int x1), some (.int x2), some (.int x3), some (.int x4), none] [.int x3, .ref 65] (hp q7.2) 0 0 _
      obtain ⟨q9, hq9, hf⟩ := bd_some hf
      refine Ev.callV (o := 65) (M' := mi_X10_sideOf) (d' := d - 1) (As := [.int x3]) (rest := []) (r' := (some (.int q9.1), hp q9.2)) (e_X10_sideOf (d := d - 1) (by omega) x3 q7.2 _ hq9) (by omega) wm_X10_sideOf wi_X10_sideOf wv_X10_sideOf km_10_468 (kc rfl rfl) (Nat.le_of_ble_eq_true rfl) rfl rfl rfl (Nat.le_of_ble_eq_true rfl) ⟨Nat.le_of_ble_eq_true rfl, Nat.le_of_ble_eq_true rfl⟩ (by decide +kernel) ?_
      show Ev l d mi_X10_value3 49 [some (.ref 65), some (.int x1), some (.int x2), some (.int x3), some (.int x4), none] [.int q9.1] (hp q9.2) 0 0 _
      obtain ⟨c10, hf⟩ := gd_some hf
      refine Ev.blk (pc' := 55) [(.aload_n 0, 0, 0, 0), (.getfield 154, 0, 10, 62), (.iconst 1, 0, 0, 0), (.iaload, 0, 0, 0)] (by decide +kernel) ⟨kf_10_154, trivial⟩ rfl (And.intro (kc rfl rfl) (Exists.intro 112 (And.intro rfl (And.intro (kc rfl rfl) (And.intro (ib_ok c10) (?_))))))
      show Ev l d mi_X10_value3 55 [some (.ref 65), some (.int x1), some (.int x2), some (.int x3), some (.int x4), none] [.int (q9.2.1 112 (Int32.ofInt 1).toNatClampNeg), .int q9.1] (hp q9.2) 0 0 _
      refine Ev.icmp_ne (off := 54) (tgt := 109) (by decide +kernel) (by decide) (fun b11 => ?_) (fun b11 => ?_)
      · have hf := (if_neg b11).symm.trans hf
        refine Ev.blk (pc' := 112) [(.iinc 4 1, 0, 0, 0)] (by decide +kernel) trivial rfl (And.intro (Nat.le_of_ble_eq_true rfl) (?_))
        show Ev l d mi_X10_value3 112 [some (.ref 65), some (.int x1), some (.int x2), some (.int x3), some (.int (x4 + Int32.ofInt 1)), none] [] (hp q9.2) 0 0 _
        refine Ev.goto (off := -77) (tgt := 35) (by decide +kernel) (by decide) ?_
        exact ih x1 x2 x3 (x4 + Int32.ofInt 1) q9.2 _ hf
      · have hf := (if_pos b11).symm.trans hf
        refine Ev.blk (pc' := 62) [(.aload_n 0, 0, 0, 0), (.iload_n 3, 0, 0, 0), (.iload 4, 0, 0, 0)] (by decide +kernel) trivial rfl (?_)
        show Ev l d mi_X10_value3 62 [some (.ref 65), some (.int x1), some (.int x2), some (.int x3), some (.int x4), none] [.int x4, .int x3, .ref 65] (hp q9.2) 0 0 _
        obtain ⟨q12, hq12, hf⟩ := bd_some hf
        refine Ev.callV (o := 65) (M' := mi_X10_canGo) (d' := d - 1) (As := [.int x3, .int x4]) (rest := []) (r' := (some (.int q12.1), hp q12.2)) (e_X10_canGo (d := d - 1) (by omega) x3 x4 q9.2 _ hq12) (by omega) wm_X10_canGo wi_X10_canGo wv_X10_canGo km_10_474 (kc rfl rfl) (Nat.le_of_ble_eq_true rfl) rfl rfl rfl (Nat.le_of_ble_eq_true rfl) ⟨Nat.le_of_ble_eq_true rfl, Nat.le_of_ble_eq_true rfl⟩ (by decide +kernel) ?_
        show Ev l d mi_X10_value3 65 [some (.ref 65), some (.int x1), some (.int x2), some (.int x3), some (.int x4), none] [.int q12.1] (hp q12.2) 0 0 _
        refine Ev.if_ne (off := 6) (tgt := 71) (by decide +kernel) (by decide) (fun b13 => ?_) (fun b13 => ?_)
        · have hf := (if_neg b13).symm.trans hf
          refine Ev.blk (pc' := 76) [(.aload_n 0, 0, 0, 0), (.iconst 3, 0, 0, 0), (.iload_n 3, 0, 0, 0), (.iload 4, 0, 0, 0)] (by decide +kernel) trivial rfl (?_)
          show Ev l d mi_X10_value3 76 [some (.ref 65), some (.int x1), some (.int x2), some (.int x3), some (.int x4), none] [.int x4, .int x3, .int (Int32.ofInt 3), .ref 65] (hp q12.2) 0 0 _
          obtain ⟨q14, hq14, hf⟩ := bd_some hf
          refine Ev.callV (o := 65) (M' := mi_X10_does) (d' := d - 1) (As := [.int (Int32.ofInt 3), .int x3, .int x4]) (rest := []) (r' := (none, hp q14)) (e_X10_does (d := d - 1) (by omega) (Int32.ofInt 3) x3 x4 q12.2 _ hq14) (by omega) wm_X10_does wi_X10_does wv_X10_does km_10_496 (kc rfl rfl) (Nat.le_of_ble_eq_true rfl) rfl rfl rfl (Nat.le_of_ble_eq_true rfl) ⟨Nat.le_of_ble_eq_true rfl, Nat.le_of_ble_eq_true rfl⟩ (by decide +kernel) ?_
          show Ev l d mi_X10_value3 79 [some (.ref 65), some (.int x1), some (.int x2), some (.int x3), some (.int x4), none] [] (hp q14) 0 0 _
          refine Ev.blk (pc' := 80) [(.aload_n 0, 0, 0, 0)] (by decide +kernel) trivial rfl (?_)
          show Ev l d mi_X10_value3 80 [some (.ref 65), some (.int x1), some (.int x2), some (.int x3), some (.int x4), none] [.ref 65] (hp q14) 0 0 _
          obtain ⟨q15, hq15, hf⟩ := bd_some hf
          refine Ev.callV (o := 65) (M' := mi_X10_value2) (d' := d - 1) (As := []) (rest := []) (r' := (some (.int q15.1), hp q15.2)) (e_X10_value2 (d := d - 1) (by omega) q14 _ hq15) (by omega) wm_X10_value2 wi_X10_value2 wv_X10_value2 km_10_509 (kc rfl rfl) (Nat.le_of_ble_eq_true rfl) rfl rfl rfl (Nat.le_of_ble_eq_true rfl) ⟨Nat.le_of_ble_eq_true rfl, Nat.le_of_ble_eq_true rfl⟩ (by decide +kernel) ?_
          show Ev l d mi_X10_value3 83 [some (.ref 65), some (.int x1), some (.int x2), some (.int x3), some (.int x4), none] [.int q15.1] (hp q15.2) 0 0 _
          refine Ev.blk (pc' := 88) [(.ineg, 0, 0, 0), (.istore 5, 0, 0, 0), (.aload_n 0, 0, 0, 0), (.iconst 3, 0, 0, 0)] (by decide +kernel) trivial rfl (And.intro (Nat.le_of_ble_eq_true rfl) (?_))
          show Ev l d mi_X10_value3 88 [some (.ref 65), some (.int x1), some (.int x2), some (.int x3), some (.int x4), some (.int (-q15.1))] [.int (Int32.ofInt 3), .ref 65] (hp q15.2) 0 0 _
          obtain ⟨q16, hq16, hf⟩ := bd_some hf
          refine Ev.callV (o := 65) (M' := mi_X10_undoes) (d' := d - 1) (As := [.int (Int32.ofInt 3)]) (rest := []) (r' := (none, hp q16)) (e_X10_undoes (d := d - 1) (by omega) (Int32.ofInt 3) q15.2 _ hq16) (by omega) wm_X10_undoes wi_X10_undoes wv_X10_undoes km_10_503 (kc rfl rfl) (Nat.le_of_ble_eq_true rfl) rfl rfl rfl (Nat.le_of_ble_eq_true rfl) ⟨Nat.le_of_ble_eq_true rfl, Nat.le_of_ble_eq_true rfl⟩ (by decide +kernel) ?_
          show Ev l d mi_X10_value3 91 [some (.ref 65), some (.int x1), some (.int x2), some (.int x3), some (.int x4), some (.int (-q15.1))] [] (hp q16) 0 0 _
          refine Ev.blk (pc' := 92) [(.iload_n 2, 0, 0, 0)] (by decide +kernel) trivial rfl (?_)
          show Ev l d mi_X10_value3 92 [some (.ref 65), some (.int x1), some (.int x2), some (.int x3), some (.int x4), some (.int (-q15.1))] [.int x2] (hp q16) 0 0 _
          refine Ev.if_eq (off := 12) (tgt := 104) (by decide +kernel) (by decide) (fun b17 => ?_) (fun b17 => ?_)
          · have hf := (if_pos b17).symm.trans hf
            exact Ev.wk ((e_X10_value3_j104 hd (f_X10_value3_L35 k24 n) ih) x3 x4 (-q15.1) q16 _ hf) (And.intro (Or.inr rfl) (And.intro (Or.inl rfl) (And.intro (Or.inl rfl) (And.intro (Or.inr rfl) (And.intro (Or.inr rfl) (And.intro (Or.inr rfl) (trivial)))))))
          · have hf := (if_neg b17).symm.trans hf
            refine Ev.blk (pc' := 98) [(.iload 5, 0, 0, 0), (.iload_n 1, 0, 0, 0)] (by decide +kernel) trivial rfl (?_)
            show Ev l d mi_X10_value3 98 [some (.ref 65), some (.int x1), some (.int x2), some (.int x3), some (.int x4), some (.int (-q15.1))] [.int x1, .int (-q15.1)] (hp q16) 0 0 _
            refine Ev.icmp_gt (off := 6) (tgt := 104) (by decide +kernel) (by decide) (fun b18 => ?_) (fun b18 => ?_)
            · have hf := (if_pos b18).symm.trans hf
              exact Ev.wk ((e_X10_value3_j104 hd (f_X10_value3_L35 k24 n) ih) x3 x4 (-q15.1) q16 _ hf) (And.intro (Or.inr rfl) (And.intro (Or.inl rfl) (And.intro (Or.inl rfl) (And.intro (Or.inr rfl) (And.intro (Or.inr rfl) (And.intro (Or.inr rfl) (trivial)))))))
            · have hf := (if_neg b18).symm.trans hf
              refine Ev.goto (off := 8) (tgt := 109) (by decide +kernel) (by decide) ?_
              refine Ev.blk (pc' := 112) [(.iinc 4 1, 0, 0, 0)] (by decide +kernel) trivial rfl (And.intro (Nat.le_of_ble_eq_true rfl) (?_))
              show Ev l d mi_X10_value3 112 [some (.ref 65), some (.int x1), some (.int x2), some (.int x3), some (.int (x4 + Int32.ofInt 1)), some (.int (-q15.1))] [] (hp q16) 0 0 _
              refine Ev.goto (off := -77) (tgt := 35) (by decide +kernel) (by decide) ?_
              exact Ev.wk (ih x1 x2 x3 (x4 + Int32.ofInt 1) q16 _ hf) (And.intro (Or.inr rfl) (And.intro (Or.inr rfl) (And.intro (Or.inr rfl) (And.intro (Or.inr rfl) (And.intro (Or.inr rfl) (And.intro (Or.inl rfl) (trivial)))))))
        · have hf := (if_pos b13).symm.trans hf
          refine Ev.goto (off := 41) (tgt := 109) (by decide +kernel) (by decide) ?_
          refine Ev.blk (pc' := 112) [(.iinc 4 1, 0, 0, 0)] (by decide +kernel) trivial rfl (And.intro (Nat.le_of_ble_eq_true rfl) (?_))
          show Ev l d mi_X10_value3 112 [some (.ref 65), some (.int x1), some (.int x2), some (.int x3), some (.int (x4 + Int32.ofInt 1)), none] [] (hp q12.2) 0 0 _
          refine Ev.goto (off := -77) (tgt := 35) (by decide +kernel) (by decide) ?_
          exact ih x1 x2 x3 (x4 + Int32.ofInt 1) q12.2 _ hf
def f_X10_value3_L24 : Nat → Int32 → Int32 → Int32 → ST → Option (Int32 × ST)
  | 0, _, _, _, _ => none
  | n + 1, x1, x2, x3, s => (f_X10_manMany s).bind (fun q5 => (if q5.1 ≤ x3 then some (x1, q5.2) else (f_X10_value3_L35 (f_X10_value3_L24 n) fuel) x1 x2 x3 (Int32.ofInt 0) q5.2))
set_option maxHeartbeats 2000000 in
set_option maxRecDepth 20000 in
theorem e_X10_value3_L24 {l : Launch} {d : Nat} (hd : 7 ≤ d) : ∀ (n : Nat) (x1 : Int32) (x2 : Int32) (x3 : Int32) (s : ST) (r : Int32 × ST), f_X10_value3_L24 n x1 x2 x3 s = some r → Ev l d mi_X10_value3 24 [some (.ref 65), some (.int x1), some (.int x2), some (.int x3), none, none] [] (hp s) 0 0 (some (.int r.1), hp r.2) := by
  intro n
  induction n with
  | zero =>
    intro x1 x2 x3 s r hf
    cases hf
  | succ n ih =>
    intro x1 x2 x3 s r hf
    unfold f_X10_value3_L24 at hf
    refine Ev.blk (pc' := 26) [(.iload_n 3, 0, 0, 0), (.aload_n 0, 0, 0, 0)] (by decide +kernel) trivial rfl (?_)
    show Ev l d mi_X10_value3 26 [some (.ref 65), some (.int x1), some (.int x2), some (.int x3), none, none] [.ref 65, .int x3] (hp s) 0 0 _
    obtain ⟨q5, hq5, hf⟩ := bd_some hf
    refine Ev.callV (o := 65) (M' := mi_X10_manMany) (d' := d - 1) (As := []) (rest := [.int x3]) (r' := (some (.int q5.1), hp q5.2)) (e_X10_manMany (d := d - 1) (by omega) s _ hq5) (by omega) wm_X10_manMany wi_X10_manMany wv_X10_manMany km_10_433 (kc rfl rfl) (Nat.le_of_ble_eq_true rfl) rfl rfl rfl (Nat.le_of_ble_eq_true rfl) ⟨Nat.le_of_ble_eq_true rfl, Nat.le_of_ble_eq_true rfl⟩ (by decide +kernel) ?_
    show Ev l d mi_X10_value3 29 [some (.ref 65), some (.int x1), some (.int x2), some (.int x3), none, none] [.int q5.1, .int x3] (hp q5.2) 0 0 _
    refine Ev.icmp_ge (off := 92) (tgt := 121) (by decide +kernel) (by decide) (fun b6 => ?_) (fun b6 => ?_)
    · have hf := (if_pos b6).symm.trans hf
      refine Ev.blk (pc' := 122) [(.iload_n 1, 0, 0, 0)] (by decide +kernel) trivial rfl (?_)
      show Ev l d mi_X10_value3 122 [some (.ref 65), some (.int x1), some (.int x2), some (.int x3), none, none] [.int x1] (hp q5.2) 0 0 _
      cases hf
      exact Ev.iret .int rfl rfl (by decide +kernel) (Nat.le_refl _) (Nat.le_refl _)
    · have hf := (if_neg b6).symm.trans hf
      refine Ev.blk (pc' := 35) [(.iconst 0, 0, 0, 0), (.istore 4, 0, 0, 0)] (by decide +kernel) trivial rfl (And.intro (Nat.le_of_ble_eq_true rfl) (?_))
      show Ev l d mi_X10_value3 35 [some (.ref 65), some (.int x1), some (.int x2), some (.int x3), some (.int (Int32.ofInt 0)), none] [] (hp q5.2) 0 0 _
      exact (e_X10_value3_L35 hd (f_X10_value3_L24 n) ih fuel) x1 x2 x3 (Int32.ofInt 0) q5.2 _ hf
def f_X10_value3 (s : ST) : Option (Int32 × ST) := gd (ib (Int32.ofInt 1) 225) ((f_X10_balanceOf (s.1 112 (Int32.ofInt 1).toNatClampNeg) s).bind (fun q2 => (f_X10_isCrownTaken q2.2).bind (fun q3 => (if q3.1 = 0 then (f_X10_value3_L24 fuel) q2.1 (Int32.ofInt 0) (Int32.ofInt 0) q3.2 else some (q2.1, q3.2)))))
set_option maxHeartbeats 2000000 in
set_option maxRecDepth 20000 in
theorem e_X10_value3 {l : Launch} {d : Nat} (hd : 7 ≤ d) (s : ST) (r : Int32 × ST) (hf : f_X10_value3 s = some r) : Cl l d mi_X10_value3 [.ref 65] (hp s) (some (.int r.1), hp r.2) := by
  refine Ev.entry (by decide +kernel) rfl rfl ?_
  show Ev l d mi_X10_value3 0 [some (.ref 65), none, none, none, none, none] [] (hp s) 0 0 _
  unfold f_X10_value3 at hf
  obtain ⟨c1, hf⟩ := gd_some hf
  refine Ev.blk (pc' := 7) [(.aload_n 0, 0, 0, 0), (.aload_n 0, 0, 0, 0), (.getfield 154, 0, 10, 62), (.iconst 1, 0, 0, 0), (.iaload, 0, 0, 0)] (by decide +kernel) ⟨kf_10_154, trivial⟩ rfl (And.intro (kc rfl rfl) (Exists.intro 112 (And.intro rfl (And.intro (kc rfl rfl) (And.intro (ib_ok c1) (?_))))))
  show Ev l d mi_X10_value3 7 [some (.ref 65), none, none, none, none, none] [.int (s.1 112 (Int32.ofInt 1).toNatClampNeg), .ref 65] (hp s) 0 0 _
  obtain ⟨q2, hq2, hf⟩ := bd_some hf
  refine Ev.callV (o := 65) (M' := mi_X10_balanceOf) (d' := d - 1) (As := [.int (s.1 112 (Int32.ofInt 1).toNatClampNeg)]) (rest := []) (r' := (some (.int q2.1), hp q2.2)) (e_X10_balanceOf (d := d - 1) (by omega) (s.1 112 (Int32.ofInt 1).toNatClampNeg) s _ hq2) (by omega) wm_X10_balanceOf wi_X10_balanceOf wv_X10_balanceOf km_10_493 (kc rfl rfl) (Nat.le_of_ble_eq_true rfl) rfl rfl rfl (Nat.le_of_ble_eq_true rfl) ⟨Nat.le_of_ble_eq_true rfl, Nat.le_of_ble_eq_true rfl⟩ (by decide +kernel) ?_
  show Ev l d mi_X10_value3 10 [some (.ref 65), none, none, none, none, none] [.int q2.1] (hp q2.2) 0 0 _
  refine Ev.blk (pc' := 12) [(.istore_n 1, 0, 0, 0), (.aload_n 0, 0, 0, 0)] (by decide +kernel) trivial rfl (And.intro (Nat.le_of_ble_eq_true rfl) (?_))
  show Ev l d mi_X10_value3 12 [some (.ref 65), some (.int q2.1), none, none, none, none] [.ref 65] (hp q2.2) 0 0 _
  obtain ⟨q3, hq3, hf⟩ := bd_some hf
  refine Ev.callV (o := 65) (M' := mi_X10_isCrownTaken) (d' := d - 1) (As := []) (rest := []) (r' := (some (.int q3.1), hp q3.2)) (e_X10_isCrownTaken (d := d - 1) (by omega) q2.2 _ hq3) (by omega) wm_X10_isCrownTaken wi_X10_isCrownTaken wv_X10_isCrownTaken km_10_484 (kc rfl rfl) (Nat.le_of_ble_eq_true rfl) rfl rfl rfl (Nat.le_of_ble_eq_true rfl) ⟨Nat.le_of_ble_eq_true rfl, Nat.le_of_ble_eq_true rfl⟩ (by decide +kernel) ?_
  show Ev l d mi_X10_value3 15 [some (.ref 65), some (.int q2.1), none, none, none, none] [.int q3.1] (hp q3.2) 0 0 _
  refine Ev.if_eq (off := 5) (tgt := 20) (by decide +kernel) (by decide) (fun b4 => ?_) (fun b4 => ?_)
  · have hf := (if_pos b4).symm.trans hf
    refine Ev.blk (pc' := 24) [(.iconst 0, 0, 0, 0), (.istore_n 2, 0, 0, 0), (.iconst 0, 0, 0, 0), (.istore_n 3, 0, 0, 0)] (by decide +kernel) trivial rfl (And.intro (Nat.le_of_ble_eq_true rfl) (And.intro (Nat.le_of_ble_eq_true rfl) (?_)))
    show Ev l d mi_X10_value3 24 [some (.ref 65), some (.int q2.1), some (.int (Int32.ofInt 0)), some (.int (Int32.ofInt 0)), none, none] [] (hp q3.2) 0 0 _
    exact (e_X10_value3_L24 hd fuel) q2.1 (Int32.ofInt 0) (Int32.ofInt 0) q3.2 _ hf
  · have hf := (if_neg b4).symm.trans hf
    refine Ev.blk (pc' := 19) [(.iload_n 1, 0, 0, 0)] (by decide +kernel) trivial rfl (?_)
    show Ev l d mi_X10_value3 19 [some (.ref 65), some (.int q2.1), none, none, none, none] [.int q2.1] (hp q3.2) 0 0 _
    cases hf
    exact Ev.iret .int rfl rfl (by decide +kernel) (Nat.le_refl _) (Nat.le_refl _)
def f_X10_valueBy (p0 : Int32) (s : ST) : Option (Int32 × ST) := (if p0 = 0 then (f_X10_value0 s).bind (fun q7 => some (q7.1, q7.2)) else (if p0 = (Int32.ofInt 1) then (f_X10_value1 s).bind (fun q6 => some (q6.1, q6.2)) else (if p0 = (Int32.ofInt 2) then (f_X10_value2 s).bind (fun q5 => some (q5.1, q5.2)) else (f_X10_value3 s).bind (fun q4 => some (q4.1, q4.2)))))
set_option maxHeartbeats 2000000 in
set_option maxRecDepth 20000 in
theorem e_X10_valueBy {l : Launch} {d : Nat} (hd : 8 ≤ d) (p0 : Int32) (s : ST) (r : Int32 × ST) (hf : f_X10_valueBy p0 s = some r) : Cl l d mi_X10_valueBy [.ref 65, .int p0] (hp s) (some (.int r.1), hp r.2) := by
  refine Ev.entry (by decide +kernel) rfl rfl ?_
  show Ev l d mi_X10_valueBy 0 [some (.ref 65), some (.int p0)] [] (hp s) 0 0 _
  unfold f_X10_valueBy at hf
  refine Ev.blk (pc' := 1) [(.iload_n 1, 0, 0, 0)] (by decide +kernel) trivial rfl (?_)
  show Ev l d mi_X10_valueBy 1 [some (.ref 65), some (.int p0)] [.int p0] (hp s) 0 0 _
  refine Ev.if_ne (off := 10) (tgt := 11) (by decide +kernel) (by decide) (fun b1 => ?_) (fun b1 => ?_)
  · have hf := (if_neg b1).symm.trans hf
    refine Ev.blk (pc' := 13) [(.iload_n 1, 0, 0, 0), (.iconst 1, 0, 0, 0)] (by decide +kernel) trivial rfl (?_)
    show Ev l d mi_X10_valueBy 13 [some (.ref 65), some (.int p0)] [.int (Int32.ofInt 1), .int p0] (hp s) 0 0 _
    refine Ev.icmp_ne (off := 10) (tgt := 23) (by decide +kernel) (by decide) (fun b2 => ?_) (fun b2 => ?_)
    · have hf := (if_neg b2).symm.trans hf
      refine Ev.blk (pc' := 25) [(.iload_n 1, 0, 0, 0), (.iconst 2, 0, 0, 0)] (by decide +kernel) trivial rfl (?_)
      show Ev l d mi_X10_valueBy 25 [some (.ref 65), some (.int p0)] [.int (Int32.ofInt 2), .int p0] (hp s) 0 0 _
      refine Ev.icmp_ne (off := 10) (tgt := 35) (by decide +kernel) (by decide) (fun b3 => ?_) (fun b3 => ?_)
      · have hf := (if_neg b3).symm.trans hf
        refine Ev.blk (pc' := 36) [(.aload_n 0, 0, 0, 0)] (by decide +kernel) trivial rfl (?_)
        show Ev l d mi_X10_valueBy 36 [some (.ref 65), some (.int p0)] [.ref 65] (hp s) 0 0 _
        obtain ⟨q4, hq4, hf⟩ := bd_some hf
        refine Ev.callV (o := 65) (M' := mi_X10_value3) (d' := d - 1) (As := []) (rest := []) (r' := (some (.int q4.1), hp q4.2)) (e_X10_value3 (d := d - 1) (by omega) s _ hq4) (by omega) wm_X10_value3 wi_X10_value3 wv_X10_value3 km_10_512 (kc rfl rfl) (Nat.le_of_ble_eq_true rfl) rfl rfl rfl (Nat.le_of_ble_eq_true rfl) ⟨Nat.le_of_ble_eq_true rfl, Nat.le_of_ble_eq_true rfl⟩ (by decide +kernel) ?_
        show Ev l d mi_X10_valueBy 39 [some (.ref 65), some (.int p0)] [.int q4.1] (hp q4.2) 0 0 _
        cases hf
        exact Ev.iret .int rfl rfl (by decide +kernel) (Nat.le_refl _) (Nat.le_refl _)
      · have hf := (if_pos b3).symm.trans hf
        refine Ev.blk (pc' := 29) [(.aload_n 0, 0, 0, 0)] (by decide +kernel) trivial rfl (?_)
        show Ev l d mi_X10_valueBy 29 [some (.ref 65), some (.int p0)] [.ref 65] (hp s) 0 0 _
        obtain ⟨q5, hq5, hf⟩ := bd_some hf
        refine Ev.callV (o := 65) (M' := mi_X10_value2) (d' := d - 1) (As := []) (rest := []) (r' := (some (.int q5.1), hp q5.2)) (e_X10_value2 (d := d - 1) (by omega) s _ hq5) (by omega) wm_X10_value2 wi_X10_value2 wv_X10_value2 km_10_509 (kc rfl rfl) (Nat.le_of_ble_eq_true rfl) rfl rfl rfl (Nat.le_of_ble_eq_true rfl) ⟨Nat.le_of_ble_eq_true rfl, Nat.le_of_ble_eq_true rfl⟩ (by decide +kernel) ?_
        show Ev l d mi_X10_valueBy 32 [some (.ref 65), some (.int p0)] [.int q5.1] (hp q5.2) 0 0 _
        refine Ev.goto (off := 7) (tgt := 39) (by decide +kernel) (by decide) ?_
        cases hf
        exact Ev.iret .int rfl rfl (by decide +kernel) (Nat.le_refl _) (Nat.le_refl _)
    · have hf := (if_pos b2).symm.trans hf
      refine Ev.blk (pc' := 17) [(.aload_n 0, 0, 0, 0)] (by decide +kernel) trivial rfl (?_)
      show Ev l d mi_X10_valueBy 17 [some (.ref 65), some (.int p0)] [.ref 65] (hp s) 0 0 _
      obtain ⟨q6, hq6, hf⟩ := bd_some hf
      refine Ev.callV (o := 65) (M' := mi_X10_value1) (d' := d - 1) (As := []) (rest := []) (r' := (some (.int q6.1), hp q6.2)) (e_X10_value1 (d := d - 1) (by omega) s _ hq6) (by omega) wm_X10_value1 wi_X10_value1 wv_X10_value1 km_10_506 (kc rfl rfl) (Nat.le_of_ble_eq_true rfl) rfl rfl rfl (Nat.le_of_ble_eq_true rfl) ⟨Nat.le_of_ble_eq_true rfl, Nat.le_of_ble_eq_true rfl⟩ (by decide +kernel) ?_
      show Ev l d mi_X10_valueBy 20 [some (.ref 65), some (.int p0)] [.int q6.1] (hp q6.2) 0 0 _
      refine Ev.goto (off := 19) (tgt := 39) (by decide +kernel) (by decide) ?_
      cases hf
      exact Ev.iret .int rfl rfl (by decide +kernel) (Nat.le_refl _) (Nat.le_refl _)
  · have hf := (if_pos b1).symm.trans hf
    refine Ev.blk (pc' := 5) [(.aload_n 0, 0, 0, 0)] (by decide +kernel) trivial rfl (?_)
    show Ev l d mi_X10_valueBy 5 [some (.ref 65), some (.int p0)] [.ref 65] (hp s) 0 0 _
    obtain ⟨q7, hq7, hf⟩ := bd_some hf
    refine Ev.callV (o := 65) (M' := mi_X10_value0) (d' := d - 1) (As := []) (rest := []) (r' := (some (.int q7.1), hp q7.2)) (e_X10_value0 (d := d - 1) (by omega) s _ hq7) (by omega) wm_X10_value0 wi_X10_value0 wv_X10_value0 km_10_500 (kc rfl rfl) (Nat.le_of_ble_eq_true rfl) rfl rfl rfl (Nat.le_of_ble_eq_true rfl) ⟨Nat.le_of_ble_eq_true rfl, Nat.le_of_ble_eq_true rfl⟩ (by decide +kernel) ?_
    show Ev l d mi_X10_valueBy 8 [some (.ref 65), some (.int p0)] [.int q7.1] (hp q7.2) 0 0 _
    refine Ev.goto (off := 31) (tgt := 39) (by decide +kernel) (by decide) ?_
    cases hf
    exact Ev.iret .int rfl rfl (by decide +kernel) (Nat.le_refl _) (Nat.le_refl _)
def f_X10_choosesBest_j108 (k32 : Int32 → Int32 → Int32 → Int32 → Int32 → ST → Option (ST)) (x1 : Int32) (x3 : Int32) (x4 : Int32) (x5 : Int32) (x6 : Int32) (s : ST) : Option (ST) := lt (uI (uI (uI s 65 68 x3) 65 69 x4) 65 70 x5) (fun s18 => k32 x1 x6 (x3 + Int32.ofInt 1) x4 (x5 + Int32.ofInt 1) s18)
set_option maxHeartbeats 2000000 in
set_option maxRecDepth 20000 in
theorem e_X10_choosesBest_j108 {l : Launch} {d : Nat} (hd : 9 ≤ d) (k32 : Int32 → Int32 → Int32 → Int32 → Int32 → ST → Option (ST)) (hk32 : ∀ (x1 : Int32) (x2 : Int32) (x3 : Int32) (x4 : Int32) (x5 : Int32) (s : ST) (r : ST), k32 x1 x2 x3 x4 x5 s = some r → Ev l d mi_X10_choosesBest 32 [some (.ref 65), some (.int x1), some (.int x2), some (.int x3), some (.int x4), some (.int x5), none] [] (hp s) 0 0 (none, hp r)) (x1 : Int32) (x3 : Int32) (x4 : Int32) (x5 : Int32) (x6 : Int32) (s : ST) (r : ST) (hf : f_X10_choosesBest_j108 k32 x1 x3 x4 x5 x6 s = some r) : Ev l d mi_X10_choosesBest 108 [some (.ref 65), some (.int x1), none, some (.int x3), some (.int x4), some (.int x5), some (.int x6)] [] (hp s) 0 0 (none, hp r) := by
  unfold f_X10_choosesBest_j108 at hf
  obtain ⟨s18, hs18, hf⟩ := lt_some hf
  refine Ev.blk (pc' := 134) [(.iload 6, 0, 0, 0), (.istore_n 2, 0, 0, 0), (.aload_n 0, 0, 0, 0), (.iload_n 3, 0, 0, 0), (.putfield 515, 0, 10, 68), (.aload_n 0, 0, 0, 0), (.iload 4, 0, 0, 0), (.putfield 521, 0, 10, 69), (.aload_n 0, 0, 0, 0), (.iload 5, 0, 0, 0), (.putfield 524, 0, 10, 70), (.iinc 3 1, 0, 0, 0), (.iinc 5 1, 0, 0, 0)] (by decide +kernel) ⟨⟨kf_10_515, Or.inl rfl⟩, ⟨⟨kf_10_521, Or.inl rfl⟩, ⟨⟨kf_10_524, Or.inl rfl⟩, trivial⟩⟩⟩ rfl (And.intro (Nat.le_of_ble_eq_true rfl) (And.intro (kc rfl rfl) (And.intro (kc rfl rfl) (And.intro (kc rfl rfl) (And.intro (Nat.le_of_ble_eq_true rfl) (And.intro (Nat.le_of_ble_eq_true rfl) (?_)))))))
  show Ev l d mi_X10_choosesBest 134 [some (.ref 65), some (.int x1), some (.int x6), some (.int (x3 + Int32.ofInt 1)), some (.int x4), some (.int (x5 + Int32.ofInt 1)), some (.int x6)] [] (hp (uI (uI (uI s 65 68 x3) 65 69 x4) 65 70 x5)) 0 0 _
  rw [← hs18]
  refine Ev.goto (off := -102) (tgt := 32) (by decide +kernel) (by decide) ?_
  exact Ev.wk (hk32 x1 x6 (x3 + Int32.ofInt 1) x4 (x5 + Int32.ofInt 1) s18 _ hf) (And.intro (Or.inr rfl) (And.intro (Or.inr rfl) (And.intro (Or.inr rfl) (And.intro (Or.inr rfl) (And.intro (Or.inr rfl) (And.intro (Or.inr rfl) (And.intro (Or.inl rfl) (trivial))))))))
def f_X10_choosesBest_L32 (k20 : Int32 → Int32 → Int32 → Int32 → ST → Option (ST)) : Nat → Int32 → Int32 → Int32 → Int32 → Int32 → ST → Option (ST)
  | 0, _, _, _, _, _, _ => none
  | n + 1, x1, x2, x3, x4, x5, s => (f_X10_places s).bind (fun q6 => (if q6.1 ≤ x5 then k20 x1 x2 x3 (x4 + Int32.ofInt 1) q6.2 else (f_X10_sideOf x4 q6.2).bind (fun q8 => gd (ib (Int32.ofInt 1) 225) ((if q8.1 = (q8.2.1 112 (Int32.ofInt 1).toNatClampNeg) then (f_X10_canGo x4 x5 q8.2).bind (fun q11 => (if q11.1 = 0 then (f_X10_choosesBest_L32 k20 n) x1 x2 x3 x4 (x5 + Int32.ofInt 1) q11.2 else (f_X10_does (Int32.ofInt 0) x4 x5 q11.2).bind (fun q13 => (f_X10_valueBy (x1 - (Int32.ofInt 1)) q13).bind (fun q14 => (f_X10_undoes (Int32.ofInt 0) q14.2).bind (fun q15 => (if (q15.1 65 68) = (Int32.ofInt (-1)) then (f_X10_choosesBest_j108 (f_X10_choosesBest_L32 k20 n)) x1 x3 x4 x5 (-q14.1) q15 else (if (-q14.1) ≤ x2 then (f_X10_choosesBest_L32 k20 n) x1 x2 (x3 + Int32.ofInt 1) x4 (x5 + Int32.ofInt 1) q15 else (f_X10_choosesBest_j108 (f_X10_choosesBest_L32 k20 n)) x1 x3 x4 x5 (-q14.1) q15))))))) else (f_X10_choosesBest_L32 k20 n) x1 x2 x3 x4 (x5 + Int32.ofInt 1) q8.2)))))
set_option maxHeartbeats 2000000 in
set_option maxRecDepth 20000 in
theorem e_X10_choosesBest_L32 {l : Launch} {d : Nat} (hd : 9 ≤ d) (k20 : Int32 → Int32 → Int32 → Int32 → ST → Option (ST)) (hk20 : ∀ (x1 : Int32) (x2 : Int32) (x3 : Int32) (x4 : Int32) (s : ST) (r : ST), k20 x1 x2 x3 x4 s = some r → Ev l d mi_X10_choosesBest 20 [some (.ref 65), some (.int x1), some (.int x2), some (.int x3), some (.int x4), none, none] [] (hp s) 0 0 (none, hp r)) : ∀ (n : Nat) (x1 : Int32) (x2 : Int32) (x3 : Int32) (x4 : Int32) (x5 : Int32) (s : ST) (r : ST), f_X10_choosesBest_L32 k20 n x1 x2 x3 x4 x5 s = some r → Ev l d mi_X10_choosesBest 32 [some (.ref 65), some (.int x1), some (.int x2), some (.int x3), some (.int x4), some (.int x5), none] [] (hp s) 0 0 (none, hp r) := by
  intro n
  induction n with
  | zero =>
    intro x1 x2 x3 x4 x5 s r hf
    cases hf
  | succ n ih =>
    intro x1 x2 x3 x4 x5 s r hf
    unfold f_X10_choosesBest_L32 at hf
    refine Ev.blk (pc' := 35) [(.iload 5, 0, 0, 0), (.aload_n 0, 0, 0, 0)] (by decide +kernel) trivial rfl (?_)
    show Ev l d mi_X10_choosesBest 35 [some (.ref 65), some (.int x1), some (.int x2), some (.int x3), some (.int x4), some (.int x5), none] [.ref 65, .int x5] (hp s) 0 0 _
    obtain ⟨q6, hq6, hf⟩ := bd_some hf
    refine Ev.callV (o := 65) (M' := mi_X10_places) (d' := d - 1) (As := []) (rest := [.int x5]) (r' := (some (.int q6.1), hp q6.2)) (e_X10_places (d := d - 1) (by omega) s _ hq6) (by omega) wm_X10_places wi_X10_places wv_X10_places km_10_471 (kc rfl rfl) (Nat.le_of_ble_eq_true rfl) rfl rfl rfl (Nat.le_of_ble_eq_true rfl) ⟨Nat.le_of_ble_eq_true rfl, Nat.le_of_ble_eq_true rfl⟩ (by decide +kernel) ?_
    show Ev l d mi_X10_choosesBest 38 [some (.ref 65), some (.int x1), some (.int x2), some (.int x3), some (.int x4), some (.int x5), none] [.int q6.1, .int x5] (hp q6.2) 0 0 _
    refine Ev.icmp_ge (off := 99) (tgt := 137) (by decide +kernel) (by decide) (fun b7 => ?_) (fun b7 => ?_)
    · have hf := (if_pos b7).symm.trans hf
      refine Ev.blk (pc' := 140) [(.iinc 4 1, 0, 0, 0)] (by decide +kernel) trivial rfl (And.intro (Nat.le_of_ble_eq_true rfl) (?_))
      show Ev l d mi_X10_choosesBest 140 [some (.ref 65), some (.int x1), some (.int x2), some (.int x3), some (.int (x4 + Int32.ofInt 1)), some (.int x5), none] [] (hp q6.2) 0 0 _
      refine Ev.goto (off := -120) (tgt := 20) (by decide +kernel) (by decide) ?_
      exact Ev.wk (hk20 x1 x2 x3 (x4 + Int32.ofInt 1) q6.2 _ hf) (And.intro (Or.inr rfl) (And.intro (Or.inr rfl) (And.intro (Or.inr rfl) (And.intro (Or.inr rfl) (And.intro (Or.inr rfl) (And.intro (Or.inl rfl) (And.intro (Or.inr rfl) (trivial))))))))
    · have hf := (if_neg b7).symm.trans hf
      refine Ev.blk (pc' := 44) [(.aload_n 0, 0, 0, 0), (.iload 4, 0, 0, 0)] (by decide +kernel) trivial rfl (?_)
      show Ev l d mi_X10_choosesBest 44 [some (.ref 65), some (.int x1), some (.int x2), some (.int x3), some (.int x4), some (.int x5), none] [.int x4, .ref 65] (hp q6.2) 0 0 _
      obtain ⟨q8, hq8, hf⟩ := bd_some hf
      refine Ev.callV (o := 65) (M' := mi_X10_sideOf) (d' := d - 1) (As := [.int x4]) (rest := []) (r' := (some (.int q8.1), hp q8.2)) (e_X10_sideOf (d := d - 1) (by omega) x4 q6.2 _ hq8) (by omega) wm_X10_sideOf wi_X10_sideOf wv_X10_sideOf km_10_468 (kc rfl rfl) (Nat.le_of_ble_eq_true rfl) rfl rfl rfl (Nat.le_of_ble_eq_true rfl) ⟨Nat.le_of_ble_eq_true rfl, Nat.le_of_ble_eq_true rfl⟩ (by decide +kernel) ?_
      show Ev l d mi_X10_choosesBest 47 [some (.ref 65), some (.int x1), some (.int x2), some (.int x3), some (.int x4), some (.int x5), none] [.int q8.1] (hp q8.2) 0 0 _
      obtain ⟨c9, hf⟩ := gd_some hf
      refine Ev.blk (pc' := 53) [(.aload_n 0, 0, 0, 0), (.getfield 154, 0, 10, 62), (.iconst 1, 0, 0, 0), (.iaload, 0, 0, 0)] (by decide +kernel) ⟨kf_10_154, trivial⟩ rfl (And.intro (kc rfl rfl) (Exists.intro 112 (And.intro rfl (And.intro (kc rfl rfl) (And.intro (ib_ok c9) (?_))))))
      show Ev l d mi_X10_choosesBest 53 [some (.ref 65), some (.int x1), some (.int x2), some (.int x3), some (.int x4), some (.int x5), none] [.int (q8.2.1 112 (Int32.ofInt 1).toNatClampNeg), .int q8.1] (hp q8.2) 0 0 _
      refine Ev.icmp_ne (off := 78) (tgt := 131) (by decide +kernel) (by decide) (fun b10 => ?_) (fun b10 => ?_)
      · have hf := (if_neg b10).symm.trans hf
        refine Ev.blk (pc' := 134) [(.iinc 5 1, 0, 0, 0)] (by decide +kernel) trivial rfl (And.intro (Nat.le_of_ble_eq_true rfl) (?_))
        show Ev l d mi_X10_choosesBest 134 [some (.ref 65), some (.int x1), some (.int x2), some (.int x3), some (.int x4), some (.int (x5 + Int32.ofInt 1)), none] [] (hp q8.2) 0 0 _
        refine Ev.goto (off := -102) (tgt := 32) (by decide +kernel) (by decide) ?_
        exact ih x1 x2 x3 x4 (x5 + Int32.ofInt 1) q8.2 _ hf
      · have hf := (if_pos b10).symm.trans hf
        refine Ev.blk (pc' := 61) [(.aload_n 0, 0, 0, 0), (.iload 4, 0, 0, 0), (.iload 5, 0, 0, 0)] (by decide +kernel) trivial rfl (?_)
        show Ev l d mi_X10_choosesBest 61 [some (.ref 65), some (.int x1), some (.int x2), some (.int x3), some (.int x4), some (.int x5), none] [.int x5, .int x4, .ref 65] (hp q8.2) 0 0 _
        obtain ⟨q11, hq11, hf⟩ := bd_some hf
        refine Ev.callV (o := 65) (M' := mi_X10_canGo) (d' := d - 1) (As := [.int x4, .int x5]) (rest := []) (r' := (some (.int q11.1), hp q11.2)) (e_X10_canGo (d := d - 1) (by omega) x4 x5 q8.2 _ hq11) (by omega) wm_X10_canGo wi_X10_canGo wv_X10_canGo km_10_474 (kc rfl rfl) (Nat.le_of_ble_eq_true rfl) rfl rfl rfl (Nat.le_of_ble_eq_true rfl) ⟨Nat.le_of_ble_eq_true rfl, Nat.le_of_ble_eq_true rfl⟩ (by decide +kernel) ?_
        show Ev l d mi_X10_choosesBest 64 [some (.ref 65), some (.int x1), some (.int x2), some (.int x3), some (.int x4), some (.int x5), none] [.int q11.1] (hp q11.2) 0 0 _
        refine Ev.if_ne (off := 6) (tgt := 70) (by decide +kernel) (by decide) (fun b12 => ?_) (fun b12 => ?_)
        · have hf := (if_neg b12).symm.trans hf
          refine Ev.blk (pc' := 76) [(.aload_n 0, 0, 0, 0), (.iconst 0, 0, 0, 0), (.iload 4, 0, 0, 0), (.iload 5, 0, 0, 0)] (by decide +kernel) trivial rfl (?_)
          show Ev l d mi_X10_choosesBest 76 [some (.ref 65), some (.int x1), some (.int x2), some (.int x3), some (.int x4), some (.int x5), none] [.int x5, .int x4, .int (Int32.ofInt 0), .ref 65] (hp q11.2) 0 0 _
          obtain ⟨q13, hq13, hf⟩ := bd_some hf
          refine Ev.callV (o := 65) (M' := mi_X10_does) (d' := d - 1) (As := [.int (Int32.ofInt 0), .int x4, .int x5]) (rest := []) (r' := (none, hp q13)) (e_X10_does (d := d - 1) (by omega) (Int32.ofInt 0) x4 x5 q11.2 _ hq13) (by omega) wm_X10_does wi_X10_does wv_X10_does km_10_496 (kc rfl rfl) (Nat.le_of_ble_eq_true rfl) rfl rfl rfl (Nat.le_of_ble_eq_true rfl) ⟨Nat.le_of_ble_eq_true rfl, Nat.le_of_ble_eq_true rfl⟩ (by decide +kernel) ?_
          show Ev l d mi_X10_choosesBest 79 [some (.ref 65), some (.int x1), some (.int x2), some (.int x3), some (.int x4), some (.int x5), none] [] (hp q13) 0 0 _
          refine Ev.blk (pc' := 83) [(.aload_n 0, 0, 0, 0), (.iload_n 1, 0, 0, 0), (.iconst 1, 0, 0, 0), (.isub, 0, 0, 0)] (by decide +kernel) trivial rfl (?_)
          show Ev l d mi_X10_choosesBest 83 [some (.ref 65), some (.int x1), some (.int x2), some (.int x3), some (.int x4), some (.int x5), none] [.int (x1 - (Int32.ofInt 1)), .ref 65] (hp q13) 0 0 _
          obtain ⟨q14, hq14, hf⟩ := bd_some hf
          refine Ev.callV (o := 65) (M' := mi_X10_valueBy) (d' := d - 1) (As := [.int (x1 - (Int32.ofInt 1))]) (rest := []) (r' := (some (.int q14.1), hp q14.2)) (e_X10_valueBy (d := d - 1) (by omega) (x1 - (Int32.ofInt 1)) q13 _ hq14) (by omega) wm_X10_valueBy wi_X10_valueBy wv_X10_valueBy km_10_518 (kc rfl rfl) (Nat.le_of_ble_eq_true rfl) rfl rfl rfl (Nat.le_of_ble_eq_true rfl) ⟨Nat.le_of_ble_eq_true rfl, Nat.le_of_ble_eq_true rfl⟩ (by decide +kernel) ?_
          show Ev l d mi_X10_choosesBest 86 [some (.ref 65), some (.int x1), some (.int x2), some (.int x3), some (.int x4), some (.int x5), none] [.int q14.1] (hp q14.2) 0 0 _
          refine Ev.blk (pc' := 91) [(.ineg, 0, 0, 0), (.istore 6, 0, 0, 0), (.aload_n 0, 0, 0, 0), (.iconst 0, 0, 0, 0)] (by decide +kernel) trivial rfl (And.intro (Nat.le_of_ble_eq_true rfl) (?_))
          show Ev l d mi_X10_choosesBest 91 [some (.ref 65), some (.int x1), some (.int x2), some (.int x3), some (.int x4), some (.int x5), some (.int (-q14.1))] [.int (Int32.ofInt 0), .ref 65] (hp q14.2) 0 0 _
          obtain ⟨q15, hq15, hf⟩ := bd_some hf
          refine Ev.callV (o := 65) (M' := mi_X10_undoes) (d' := d - 1) (As := [.int (Int32.ofInt 0)]) (rest := []) (r' := (none, hp q15)) (e_X10_undoes (d := d - 1) (by omega) (Int32.ofInt 0) q14.2 _ hq15) (by omega) wm_X10_undoes wi_X10_undoes wv_X10_undoes km_10_503 (kc rfl rfl) (Nat.le_of_ble_eq_true rfl) rfl rfl rfl (Nat.le_of_ble_eq_true rfl) ⟨Nat.le_of_ble_eq_true rfl, Nat.le_of_ble_eq_true rfl⟩ (by decide +kernel) ?_
          show Ev l d mi_X10_choosesBest 94 [some (.ref 65), some (.int x1), some (.int x2), some (.int x3), some (.int x4), some (.int x5), some (.int (-q14.1))] [] (hp q15) 0 0 _
          refine Ev.blk (pc' := 99) [(.aload_n 0, 0, 0, 0), (.getfield 515, 0, 10, 68), (.iconst (-1), 0, 0, 0)] (by decide +kernel) ⟨kf_10_515, trivial⟩ rfl (And.intro (kc rfl rfl) (?_))
          show Ev l d mi_X10_choosesBest 99 [some (.ref 65), some (.int x1), some (.int x2), some (.int x3), some (.int x4), some (.int x5), some (.int (-q14.1))] [.int (Int32.ofInt (-1)), .int (q15.1 65 68)] (hp q15) 0 0 _
          refine Ev.icmp_eq (off := 9) (tgt := 108) (by decide +kernel) (by decide) (fun b16 => ?_) (fun b16 => ?_)
          · have hf := (if_pos b16).symm.trans hf
            exact Ev.wk ((e_X10_choosesBest_j108 hd (f_X10_choosesBest_L32 k20 n) ih) x1 x3 x4 x5 (-q14.1) q15 _ hf) (And.intro (Or.inr rfl) (And.intro (Or.inr rfl) (And.intro (Or.inl rfl) (And.intro (Or.inr rfl) (And.intro (Or.inr rfl) (And.intro (Or.inr rfl) (And.intro (Or.inr rfl) (trivial))))))))
          · have hf := (if_neg b16).symm.trans hf
            refine Ev.blk (pc' := 105) [(.iload 6, 0, 0, 0), (.iload_n 2, 0, 0, 0)] (by decide +kernel) trivial rfl (?_)
            show Ev l d mi_X10_choosesBest 105 [some (.ref 65), some (.int x1), some (.int x2), some (.int x3), some (.int x4), some (.int x5), some (.int (-q14.1))] [.int x2, .int (-q14.1)] (hp q15) 0 0 _
            refine Ev.icmp_le (off := 23) (tgt := 128) (by decide +kernel) (by decide) (fun b17 => ?_) (fun b17 => ?_)
            · have hf := (if_pos b17).symm.trans hf
              refine Ev.blk (pc' := 134) [(.iinc 3 1, 0, 0, 0), (.iinc 5 1, 0, 0, 0)] (by decide +kernel) trivial rfl (And.intro (Nat.le_of_ble_eq_true rfl) (And.intro (Nat.le_of_ble_eq_true rfl) (?_)))
              show Ev l d mi_X10_choosesBest 134 [some (.ref 65), some (.int x1), some (.int x2), some (.int (x3 + Int32.ofInt 1)), some (.int x4), some (.int (x5 + Int32.ofInt 1)), some (.int (-q14.1))] [] (hp q15) 0 0 _
              refine Ev.goto (off := -102) (tgt := 32) (by decide +kernel) (by decide) ?_
              exact Ev.wk (ih x1 x2 (x3 + Int32.ofInt 1) x4 (x5 + Int32.ofInt 1) q15 _ hf) (And.intro (Or.inr rfl) (And.intro (Or.inr rfl) (And.intro (Or.inr rfl) (And.intro (Or.inr rfl) (And.intro (Or.inr rfl) (And.intro (Or.inr rfl) (And.intro (Or.inl rfl) (trivial))))))))
            · have hf := (if_neg b17).symm.trans hf
              exact Ev.wk ((e_X10_choosesBest_j108 hd (f_X10_choosesBest_L32 k20 n) ih) x1 x3 x4 x5 (-q14.1) q15 _ hf) (And.intro (Or.inr rfl) (And.intro (Or.inr rfl) (And.intro (Or.inl rfl) (And.intro (Or.inr rfl) (And.intro (Or.inr rfl) (And.intro (Or.inr rfl) (And.intro (Or.inr rfl) (trivial))))))))
        · have hf := (if_pos b12).symm.trans hf
          refine Ev.goto (off := 64) (tgt := 131) (by decide +kernel) (by decide) ?_
          refine Ev.blk (pc' := 134) [(.iinc 5 1, 0, 0, 0)] (by decide +kernel) trivial rfl (And.intro (Nat.le_of_ble_eq_true rfl) (?_))
          show Ev l d mi_X10_choosesBest 134 [some (.ref 65), some (.int x1), some (.int x2), some (.int x3), some (.int x4), some (.int (x5 + Int32.ofInt 1)), none] [] (hp q11.2) 0 0 _
          refine Ev.goto (off := -102) (tgt := 32) (by decide +kernel) (by decide) ?_
          exact ih x1 x2 x3 x4 (x5 + Int32.ofInt 1) q11.2 _ hf
def f_X10_choosesBest_L20 : Nat → Int32 → Int32 → Int32 → Int32 → ST → Option (ST)
  | 0, _, _, _, _, _ => none
  | n + 1, x1, x2, x3, x4, s => (f_X10_manMany s).bind (fun q4 => (if q4.1 ≤ x4 then some q4.2 else (f_X10_choosesBest_L32 (f_X10_choosesBest_L20 n) fuel) x1 x2 x3 x4 (Int32.ofInt 0) q4.2))
set_option maxHeartbeats 2000000 in
set_option maxRecDepth 20000 in
theorem e_X10_choosesBest_L20 {l : Launch} {d : Nat} (hd : 9 ≤ d) : ∀ (n : Nat) (x1 : Int32) (x2 : Int32) (x3 : Int32) (x4 : Int32) (s : ST) (r : ST), f_X10_choosesBest_L20 n x1 x2 x3 x4 s = some r → Ev l d mi_X10_choosesBest 20 [some (.ref 65), some (.int x1), some (.int x2), some (.int x3), some (.int x4), none, none] [] (hp s) 0 0 (none, hp r) := by
  intro n
  induction n with
  | zero =>
    intro x1 x2 x3 x4 s r hf
    cases hf
  | succ n ih =>
    intro x1 x2 x3 x4 s r hf
    unfold f_X10_choosesBest_L20 at hf
    refine Ev.blk (pc' := 23) [(.iload 4, 0, 0, 0), (.aload_n 0, 0, 0, 0)] (by decide +kernel) trivial rfl (?_)
    show Ev l d mi_X10_choosesBest 23 [some (.ref 65), some (.int x1), some (.int x2), some (.int x3), some (.int x4), none, none] [.ref 65, .int x4] (hp s) 0 0 _
    obtain ⟨q4, hq4, hf⟩ := bd_some hf
    refine Ev.callV (o := 65) (M' := mi_X10_manMany) (d' := d - 1) (As := []) (rest := [.int x4]) (r' := (some (.int q4.1), hp q4.2)) (e_X10_manMany (d := d - 1) (by omega) s _ hq4) (by omega) wm_X10_manMany wi_X10_manMany wv_X10_manMany km_10_433 (kc rfl rfl) (Nat.le_of_ble_eq_true rfl) rfl rfl rfl (Nat.le_of_ble_eq_true rfl) ⟨Nat.le_of_ble_eq_true rfl, Nat.le_of_ble_eq_true rfl⟩ (by decide +kernel) ?_
    show Ev l d mi_X10_choosesBest 26 [some (.ref 65), some (.int x1), some (.int x2), some (.int x3), some (.int x4), none, none] [.int q4.1, .int x4] (hp q4.2) 0 0 _
    refine Ev.icmp_ge (off := 117) (tgt := 143) (by decide +kernel) (by decide) (fun b5 => ?_) (fun b5 => ?_)
    · have hf := (if_pos b5).symm.trans hf
      cases hf
      exact Ev.vret rfl (by decide +kernel) (Nat.le_refl _) (Nat.le_refl _)
    · have hf := (if_neg b5).symm.trans hf
      refine Ev.blk (pc' := 32) [(.iconst 0, 0, 0, 0), (.istore 5, 0, 0, 0)] (by decide +kernel) trivial rfl (And.intro (Nat.le_of_ble_eq_true rfl) (?_))
      show Ev l d mi_X10_choosesBest 32 [some (.ref 65), some (.int x1), some (.int x2), some (.int x3), some (.int x4), some (.int (Int32.ofInt 0)), none] [] (hp q4.2) 0 0 _
      exact (e_X10_choosesBest_L32 hd (f_X10_choosesBest_L20 n) ih fuel) x1 x2 x3 x4 (Int32.ofInt 0) q4.2 _ hf
def f_X10_choosesBest (p0 : Int32) (s : ST) : Option (ST) := lt (uI s 65 68 (Int32.ofInt (-1))) (fun s1 => (f_X10_isCrownTaken s1).bind (fun q2 => (if q2.1 = 0 then (f_X10_choosesBest_L20 fuel) p0 (Int32.ofInt 0) (Int32.ofInt 0) (Int32.ofInt 0) q2.2 else some q2.2)))
set_option maxHeartbeats 2000000 in
set_option maxRecDepth 20000 in
theorem e_X10_choosesBest {l : Launch} {d : Nat} (hd : 9 ≤ d) (p0 : Int32) (s : ST) (r : ST) (hf : f_X10_choosesBest p0 s = some r) : Cl l d mi_X10_choosesBest [.ref 65, .int p0] (hp s) (none, hp r) := by
  refine Ev.entry (by decide +kernel) rfl rfl ?_
  show Ev l d mi_X10_choosesBest 0 [some (.ref 65), some (.int p0), none, none, none, none, none] [] (hp s) 0 0 _
  unfold f_X10_choosesBest at hf
  obtain ⟨s1, hs1, hf⟩ := lt_some hf
  refine Ev.blk (pc' := 6) [(.aload_n 0, 0, 0, 0), (.iconst (-1), 0, 0, 0), (.putfield 515, 0, 10, 68), (.aload_n 0, 0, 0, 0)] (by decide +kernel) ⟨⟨kf_10_515, Or.inl rfl⟩, trivial⟩ rfl (And.intro (kc rfl rfl) (?_))
  show Ev l d mi_X10_choosesBest 6 [some (.ref 65), some (.int p0), none, none, none, none, none] [.ref 65] (hp (uI s 65 68 (Int32.ofInt (-1)))) 0 0 _
  rw [← hs1]
  obtain ⟨q2, hq2, hf⟩ := bd_some hf
  refine Ev.callV (o := 65) (M' := mi_X10_isCrownTaken) (d' := d - 1) (As := []) (rest := []) (r' := (some (.int q2.1), hp q2.2)) (e_X10_isCrownTaken (d := d - 1) (by omega) s1 _ hq2) (by omega) wm_X10_isCrownTaken wi_X10_isCrownTaken wv_X10_isCrownTaken km_10_484 (kc rfl rfl) (Nat.le_of_ble_eq_true rfl) rfl rfl rfl (Nat.le_of_ble_eq_true rfl) ⟨Nat.le_of_ble_eq_true rfl, Nat.le_of_ble_eq_true rfl⟩ (by decide +kernel) ?_
  show Ev l d mi_X10_choosesBest 9 [some (.ref 65), some (.int p0), none, none, none, none, none] [.int q2.1] (hp q2.2) 0 0 _
  refine Ev.if_eq (off := 4) (tgt := 13) (by decide +kernel) (by decide) (fun b3 => ?_) (fun b3 => ?_)
  · have hf := (if_pos b3).symm.trans hf
    refine Ev.blk (pc' := 20) [(.iconst 0, 0, 0, 0), (.istore_n 2, 0, 0, 0), (.iconst 0, 0, 0, 0), (.istore_n 3, 0, 0, 0), (.iconst 0, 0, 0, 0), (.istore 4, 0, 0, 0)] (by decide +kernel) trivial rfl (And.intro (Nat.le_of_ble_eq_true rfl) (And.intro (Nat.le_of_ble_eq_true rfl) (And.intro (Nat.le_of_ble_eq_true rfl) (?_))))
    show Ev l d mi_X10_choosesBest 20 [some (.ref 65), some (.int p0), some (.int (Int32.ofInt 0)), some (.int (Int32.ofInt 0)), some (.int (Int32.ofInt 0)), none, none] [] (hp q2.2) 0 0 _
    exact (e_X10_choosesBest_L20 hd fuel) p0 (Int32.ofInt 0) (Int32.ofInt 0) (Int32.ofInt 0) q2.2 _ hf
  · have hf := (if_neg b3).symm.trans hf
    cases hf
    exact Ev.vret rfl (by decide +kernel) (Nat.le_refl _) (Nat.le_refl _)
def f_X10_chooses_L40 (k21 : Int32 → Int32 → Int32 → ST → Option (ST)) : Nat → Int32 → Int32 → Int32 → Int32 → ST → Option (ST)
  | 0, _, _, _, _, _ => none
  | n + 1, x1, x2, x3, x4, s => (f_X10_places s).bind (fun q8 => (if q8.1 ≤ x4 then k21 x1 x2 (x3 + Int32.ofInt 1) q8.2 else (if (q8.2.1 65 68) = (Int32.ofInt (-1)) then (f_X10_sideOf x3 q8.2).bind (fun q11 => gd (ib (Int32.ofInt 1) 225) ((if q11.1 = (q11.2.1 112 (Int32.ofInt 1).toNatClampNeg) then (f_X10_canGo x3 x4 q11.2).bind (fun q14 => (if q14.1 = 0 then (f_X10_chooses_L40 k21 n) x1 x2 x3 (x4 + Int32.ofInt 1) q14.2 else (if x2 = x1 then lt (uI (uI (uI q14.2 65 68 x1) 65 69 x3) 65 70 x4) (fun s17 => (f_X10_chooses_L40 k21 n) x1 (x2 + Int32.ofInt 1) x3 (x4 + Int32.ofInt 1) s17) else (f_X10_chooses_L40 k21 n) x1 (x2 + Int32.ofInt 1) x3 (x4 + Int32.ofInt 1) q14.2))) else (f_X10_chooses_L40 k21 n) x1 x2 x3 (x4 + Int32.ofInt 1) q11.2))) else k21 x1 x2 (x3 + Int32.ofInt 1) q8.2)))
set_option maxHeartbeats 2000000 in
set_option maxRecDepth 20000 in
theorem e_X10_chooses_L40 {l : Launch} {d : Nat} (hd : 5 ≤ d) (k21 : Int32 → Int32 → Int32 → ST → Option (ST)) (hk21 : ∀ (x1 : Int32) (x2 : Int32) (x3 : Int32) (s : ST) (r : ST), k21 x1 x2 x3 s = some r → Ev l d mi_X10_chooses 21 [some (.ref 65), some (.int x1), some (.int x2), some (.int x3), none] [] (hp s) 0 0 (none, hp r)) : ∀ (n : Nat) (x1 : Int32) (x2 : Int32) (x3 : Int32) (x4 : Int32) (s : ST) (r : ST), f_X10_chooses_L40 k21 n x1 x2 x3 x4 s = some r → Ev l d mi_X10_chooses 40 [some (.ref 65), some (.int x1), some (.int x2), some (.int x3), some (.int x4)] [] (hp s) 0 0 (none, hp r) := by
  intro n
  induction n with
  | zero =>
    intro x1 x2 x3 x4 s r hf
    cases hf
  | succ n ih =>
    intro x1 x2 x3 x4 s r hf
    unfold f_X10_chooses_L40 at hf
    refine Ev.blk (pc' := 43) [(.iload 4, 0, 0, 0), (.aload_n 0, 0, 0, 0)] (by decide +kernel) trivial rfl (?_)
    show Ev l d mi_X10_chooses 43 [some (.ref 65), some (.int x1), some (.int x2), some (.int x3), some (.int x4)] [.ref 65, .int x4] (hp s) 0 0 _
    obtain ⟨q8, hq8, hf⟩ := bd_some hf
    refine Ev.callV (o := 65) (M' := mi_X10_places) (d' := d - 1) (As := []) (rest := [.int x4]) (r' := (some (.int q8.1), hp q8.2)) (e_X10_places (d := d - 1) (by omega) s _ hq8) (by omega) wm_X10_places wi_X10_places wv_X10_places km_10_471 (kc rfl rfl) (Nat.le_of_ble_eq_true rfl) rfl rfl rfl (Nat.le_of_ble_eq_true rfl) ⟨Nat.le_of_ble_eq_true rfl, Nat.le_of_ble_eq_true rfl⟩ (by decide +kernel) ?_
    show Ev l d mi_X10_chooses 46 [some (.ref 65), some (.int x1), some (.int x2), some (.int x3), some (.int x4)] [.int q8.1, .int x4] (hp q8.2) 0 0 _
    refine Ev.icmp_ge (off := 68) (tgt := 114) (by decide +kernel) (by decide) (fun b9 => ?_) (fun b9 => ?_)
    · have hf := (if_pos b9).symm.trans hf
      refine Ev.blk (pc' := 117) [(.iinc 3 1, 0, 0, 0)] (by decide +kernel) trivial rfl (And.intro (Nat.le_of_ble_eq_true rfl) (?_))
      show Ev l d mi_X10_chooses 117 [some (.ref 65), some (.int x1), some (.int x2), some (.int (x3 + Int32.ofInt 1)), some (.int x4)] [] (hp q8.2) 0 0 _
      refine Ev.goto (off := -96) (tgt := 21) (by decide +kernel) (by decide) ?_
      exact Ev.wk (hk21 x1 x2 (x3 + Int32.ofInt 1) q8.2 _ hf) (And.intro (Or.inr rfl) (And.intro (Or.inr rfl) (And.intro (Or.inr rfl) (And.intro (Or.inr rfl) (And.intro (Or.inl rfl) (trivial))))))
    · have hf := (if_neg b9).symm.trans hf
      refine Ev.blk (pc' := 54) [(.aload_n 0, 0, 0, 0), (.getfield 515, 0, 10, 68), (.iconst (-1), 0, 0, 0)] (by decide +kernel) ⟨kf_10_515, trivial⟩ rfl (And.intro (kc rfl rfl) (?_))
      show Ev l d mi_X10_chooses 54 [some (.ref 65), some (.int x1), some (.int x2), some (.int x3), some (.int x4)] [.int (Int32.ofInt (-1)), .int (q8.2.1 65 68)] (hp q8.2) 0 0 _
      refine Ev.icmp_ne (off := 60) (tgt := 114) (by decide +kernel) (by decide) (fun b10 => ?_) (fun b10 => ?_)
      · have hf := (if_neg b10).symm.trans hf
        refine Ev.blk (pc' := 117) [(.iinc 3 1, 0, 0, 0)] (by decide +kernel) trivial rfl (And.intro (Nat.le_of_ble_eq_true rfl) (?_))
        show Ev l d mi_X10_chooses 117 [some (.ref 65), some (.int x1), some (.int x2), some (.int (x3 + Int32.ofInt 1)), some (.int x4)] [] (hp q8.2) 0 0 _
        refine Ev.goto (off := -96) (tgt := 21) (by decide +kernel) (by decide) ?_
        exact Ev.wk (hk21 x1 x2 (x3 + Int32.ofInt 1) q8.2 _ hf) (And.intro (Or.inr rfl) (And.intro (Or.inr rfl) (And.intro (Or.inr rfl) (And.intro (Or.inr rfl) (And.intro (Or.inl rfl) (trivial))))))
      · have hf := (if_pos b10).symm.trans hf
        refine Ev.blk (pc' := 59) [(.aload_n 0, 0, 0, 0), (.iload_n 3, 0, 0, 0)] (by decide +kernel) trivial rfl (?_)
        show Ev l d mi_X10_chooses 59 [some (.ref 65), some (.int x1), some (.int x2), some (.int x3), some (.int x4)] [.int x3, .ref 65] (hp q8.2) 0 0 _
        obtain ⟨q11, hq11, hf⟩ := bd_some hf
        refine Ev.callV (o := 65) (M' := mi_X10_sideOf) (d' := d - 1) (As := [.int x3]) (rest := []) (r' := (some (.int q11.1), hp q11.2)) (e_X10_sideOf (d := d - 1) (by omega) x3 q8.2 _ hq11) (by omega) wm_X10_sideOf wi_X10_sideOf wv_X10_sideOf km_10_468 (kc rfl rfl) (Nat.le_of_ble_eq_true rfl) rfl rfl rfl (Nat.le_of_ble_eq_true rfl) ⟨Nat.le_of_ble_eq_true rfl, Nat.le_of_ble_eq_true rfl⟩ (by decide +kernel) ?_
        show Ev l d mi_X10_chooses 62 [some (.ref 65), some (.int x1), some (.int x2), some (.int x3), some (.int x4)] [.int q11.1] (hp q11.2) 0 0 _
        obtain ⟨c12, hf⟩ := gd_some hf
        refine Ev.blk (pc' := 68) [(.aload_n 0, 0, 0, 0), (.getfield 154, 0, 10, 62), (.iconst 1, 0, 0, 0), (.iaload, 0, 0, 0)] (by decide +kernel) ⟨kf_10_154, trivial⟩ rfl (And.intro (kc rfl rfl) (Exists.intro 112 (And.intro rfl (And.intro (kc rfl rfl) (And.intro (ib_ok c12) (?_))))))
        show Ev l d mi_X10_chooses 68 [some (.ref 65), some (.int x1), some (.int x2), some (.int x3), some (.int x4)] [.int (q11.2.1 112 (Int32.ofInt 1).toNatClampNeg), .int q11.1] (hp q11.2) 0 0 _
        refine Ev.icmp_ne (off := 40) (tgt := 108) (by decide +kernel) (by decide) (fun b13 => ?_) (fun b13 => ?_)
        · have hf := (if_neg b13).symm.trans hf
          refine Ev.blk (pc' := 111) [(.iinc 4 1, 0, 0, 0)] (by decide +kernel) trivial rfl (And.intro (Nat.le_of_ble_eq_true rfl) (?_))
          show Ev l d mi_X10_chooses 111 [some (.ref 65), some (.int x1), some (.int x2), some (.int x3), some (.int (x4 + Int32.ofInt 1))] [] (hp q11.2) 0 0 _
          refine Ev.goto (off := -71) (tgt := 40) (by decide +kernel) (by decide) ?_
          exact ih x1 x2 x3 (x4 + Int32.ofInt 1) q11.2 _ hf
        · have hf := (if_pos b13).symm.trans hf
          refine Ev.blk (pc' := 75) [(.aload_n 0, 0, 0, 0), (.iload_n 3, 0, 0, 0), (.iload 4, 0, 0, 0)] (by decide +kernel) trivial rfl (?_)
          show Ev l d mi_X10_chooses 75 [some (.ref 65), some (.int x1), some (.int x2), some (.int x3), some (.int x4)] [.int x4, .int x3, .ref 65] (hp q11.2) 0 0 _
          obtain ⟨q14, hq14, hf⟩ := bd_some hf
          refine Ev.callV (o := 65) (M' := mi_X10_canGo) (d' := d - 1) (As := [.int x3, .int x4]) (rest := []) (r' := (some (.int q14.1), hp q14.2)) (e_X10_canGo (d := d - 1) (by omega) x3 x4 q11.2 _ hq14) (by omega) wm_X10_canGo wi_X10_canGo wv_X10_canGo km_10_474 (kc rfl rfl) (Nat.le_of_ble_eq_true rfl) rfl rfl rfl (Nat.le_of_ble_eq_true rfl) ⟨Nat.le_of_ble_eq_true rfl, Nat.le_of_ble_eq_true rfl⟩ (by decide +kernel) ?_
          show Ev l d mi_X10_chooses 78 [some (.ref 65), some (.int x1), some (.int x2), some (.int x3), some (.int x4)] [.int q14.1] (hp q14.2) 0 0 _
          refine Ev.if_ne (off := 6) (tgt := 84) (by decide +kernel) (by decide) (fun b15 => ?_) (fun b15 => ?_)
          · have hf := (if_neg b15).symm.trans hf
            refine Ev.blk (pc' := 86) [(.iload_n 2, 0, 0, 0), (.iload_n 1, 0, 0, 0)] (by decide +kernel) trivial rfl (?_)
            show Ev l d mi_X10_chooses 86 [some (.ref 65), some (.int x1), some (.int x2), some (.int x3), some (.int x4)] [.int x1, .int x2] (hp q14.2) 0 0 _
            refine Ev.icmp_ne (off := 19) (tgt := 105) (by decide +kernel) (by decide) (fun b16 => ?_) (fun b16 => ?_)
            · have hf := (if_neg b16).symm.trans hf
              refine Ev.blk (pc' := 111) [(.iinc 2 1, 0, 0, 0), (.iinc 4 1, 0, 0, 0)] (by decide +kernel) trivial rfl (And.intro (Nat.le_of_ble_eq_true rfl) (And.intro (Nat.le_of_ble_eq_true rfl) (?_)))
              show Ev l d mi_X10_chooses 111 [some (.ref 65), some (.int x1), some (.int (x2 + Int32.ofInt 1)), some (.int x3), some (.int (x4 + Int32.ofInt 1))] [] (hp q14.2) 0 0 _
              refine Ev.goto (off := -71) (tgt := 40) (by decide +kernel) (by decide) ?_
              exact ih x1 (x2 + Int32.ofInt 1) x3 (x4 + Int32.ofInt 1) q14.2 _ hf
            · have hf := (if_pos b16).symm.trans hf
              obtain ⟨s17, hs17, hf⟩ := lt_some hf
              refine Ev.blk (pc' := 111) [(.aload_n 0, 0, 0, 0), (.iload_n 1, 0, 0, 0), (.putfield 515, 0, 10, 68), (.aload_n 0, 0, 0, 0), (.iload_n 3, 0, 0, 0), (.putfield 521, 0, 10, 69), (.aload_n 0, 0, 0, 0), (.iload 4, 0, 0, 0), (.putfield 524, 0, 10, 70), (.iinc 2 1, 0, 0, 0), (.iinc 4 1, 0, 0, 0)] (by decide +kernel) ⟨⟨kf_10_515, Or.inl rfl⟩, ⟨⟨kf_10_521, Or.inl rfl⟩, ⟨⟨kf_10_524, Or.inl rfl⟩, trivial⟩⟩⟩ rfl (And.intro (kc rfl rfl) (And.intro (kc rfl rfl) (And.intro (kc rfl rfl) (And.intro (Nat.le_of_ble_eq_true rfl) (And.intro (Nat.le_of_ble_eq_true rfl) (?_))))))
              show Ev l d mi_X10_chooses 111 [some (.ref 65), some (.int x1), some (.int (x2 + Int32.ofInt 1)), some (.int x3), some (.int (x4 + Int32.ofInt 1))] [] (hp (uI (uI (uI q14.2 65 68 x1) 65 69 x3) 65 70 x4)) 0 0 _
              rw [← hs17]
              refine Ev.goto (off := -71) (tgt := 40) (by decide +kernel) (by decide) ?_
              exact ih x1 (x2 + Int32.ofInt 1) x3 (x4 + Int32.ofInt 1) s17 _ hf
          · have hf := (if_pos b15).symm.trans hf
            refine Ev.goto (off := 27) (tgt := 108) (by decide +kernel) (by decide) ?_
            refine Ev.blk (pc' := 111) [(.iinc 4 1, 0, 0, 0)] (by decide +kernel) trivial rfl (And.intro (Nat.le_of_ble_eq_true rfl) (?_))
            show Ev l d mi_X10_chooses 111 [some (.ref 65), some (.int x1), some (.int x2), some (.int x3), some (.int (x4 + Int32.ofInt 1))] [] (hp q14.2) 0 0 _
            refine Ev.goto (off := -71) (tgt := 40) (by decide +kernel) (by decide) ?_
            exact ih x1 x2 x3 (x4 + Int32.ofInt 1) q14.2 _ hf
def f_X10_chooses_L21 : Nat → Int32 → Int32 → Int32 → ST → Option (ST)
  | 0, _, _, _, _ => none
  | n + 1, x1, x2, x3, s => (f_X10_manMany s).bind (fun q5 => (if q5.1 ≤ x3 then some q5.2 else (if (q5.2.1 65 68) = (Int32.ofInt (-1)) then (f_X10_chooses_L40 (f_X10_chooses_L21 n) fuel) x1 x2 x3 (Int32.ofInt 0) q5.2 else some q5.2)))
set_option maxHeartbeats 2000000 in
set_option maxRecDepth 20000 in
theorem e_X10_chooses_L21 {l : Launch} {d : Nat} (hd : 5 ≤ d) : ∀ (n : Nat) (x1 : Int32) (x2 : Int32) (x3 : Int32) (s : ST) (r : ST), f_X10_chooses_L21 n x1 x2 x3 s = some r → Ev l d mi_X10_chooses 21 [some (.ref 65), some (.int x1), some (.int x2), some (.int x3), none] [] (hp s) 0 0 (none, hp r) := by
  intro n
  induction n with
  | zero =>
    intro x1 x2 x3 s r hf
    cases hf
  | succ n ih =>
    intro x1 x2 x3 s r hf
    unfold f_X10_chooses_L21 at hf
    refine Ev.blk (pc' := 23) [(.iload_n 3, 0, 0, 0), (.aload_n 0, 0, 0, 0)] (by decide +kernel) trivial rfl (?_)
    show Ev l d mi_X10_chooses 23 [some (.ref 65), some (.int x1), some (.int x2), some (.int x3), none] [.ref 65, .int x3] (hp s) 0 0 _
    obtain ⟨q5, hq5, hf⟩ := bd_some hf
    refine Ev.callV (o := 65) (M' := mi_X10_manMany) (d' := d - 1) (As := []) (rest := [.int x3]) (r' := (some (.int q5.1), hp q5.2)) (e_X10_manMany (d := d - 1) (by omega) s _ hq5) (by omega) wm_X10_manMany wi_X10_manMany wv_X10_manMany km_10_433 (kc rfl rfl) (Nat.le_of_ble_eq_true rfl) rfl rfl rfl (Nat.le_of_ble_eq_true rfl) ⟨Nat.le_of_ble_eq_true rfl, Nat.le_of_ble_eq_true rfl⟩ (by decide +kernel) ?_
    show Ev l d mi_X10_chooses 26 [some (.ref 65), some (.int x1), some (.int x2), some (.int x3), none] [.int q5.1, .int x3] (hp q5.2) 0 0 _
    refine Ev.icmp_ge (off := 94) (tgt := 120) (by decide +kernel) (by decide) (fun b6 => ?_) (fun b6 => ?_)
    · have hf := (if_pos b6).symm.trans hf
      cases hf
      exact Ev.vret rfl (by decide +kernel) (Nat.le_refl _) (Nat.le_refl _)
    · have hf := (if_neg b6).symm.trans hf
      refine Ev.blk (pc' := 34) [(.aload_n 0, 0, 0, 0), (.getfield 515, 0, 10, 68), (.iconst (-1), 0, 0, 0)] (by decide +kernel) ⟨kf_10_515, trivial⟩ rfl (And.intro (kc rfl rfl) (?_))
      show Ev l d mi_X10_chooses 34 [some (.ref 65), some (.int x1), some (.int x2), some (.int x3), none] [.int (Int32.ofInt (-1)), .int (q5.2.1 65 68)] (hp q5.2) 0 0 _
      refine Ev.icmp_ne (off := 86) (tgt := 120) (by decide +kernel) (by decide) (fun b7 => ?_) (fun b7 => ?_)
      · have hf := (if_neg b7).symm.trans hf
        cases hf
        exact Ev.vret rfl (by decide +kernel) (Nat.le_refl _) (Nat.le_refl _)
      · have hf := (if_pos b7).symm.trans hf
        refine Ev.blk (pc' := 40) [(.iconst 0, 0, 0, 0), (.istore 4, 0, 0, 0)] (by decide +kernel) trivial rfl (And.intro (Nat.le_of_ble_eq_true rfl) (?_))
        show Ev l d mi_X10_chooses 40 [some (.ref 65), some (.int x1), some (.int x2), some (.int x3), some (.int (Int32.ofInt 0))] [] (hp q5.2) 0 0 _
        exact (e_X10_chooses_L40 hd (f_X10_chooses_L21 n) ih fuel) x1 x2 x3 (Int32.ofInt 0) q5.2 _ hf
def f_X10_chooses (p0 : Int32) (s : ST) : Option (ST) := lt (uI s 65 68 (Int32.ofInt (-1))) (fun s1 => (if p0 < 0 then some s1 else (f_X10_isCrownTaken s1).bind (fun q3 => (if q3.1 = 0 then (f_X10_chooses_L21 fuel) p0 (Int32.ofInt 0) (Int32.ofInt 0) q3.2 else some q3.2))))
set_option maxHeartbeats 2000000 in
set_option maxRecDepth 20000 in
theorem e_X10_chooses {l : Launch} {d : Nat} (hd : 5 ≤ d) (p0 : Int32) (s : ST) (r : ST) (hf : f_X10_chooses p0 s = some r) : Cl l d mi_X10_chooses [.ref 65, .int p0] (hp s) (none, hp r) := by
  refine Ev.entry (by decide +kernel) rfl rfl ?_
  show Ev l d mi_X10_chooses 0 [some (.ref 65), some (.int p0), none, none, none] [] (hp s) 0 0 _
  unfold f_X10_chooses at hf
  obtain ⟨s1, hs1, hf⟩ := lt_some hf
  refine Ev.blk (pc' := 6) [(.aload_n 0, 0, 0, 0), (.iconst (-1), 0, 0, 0), (.putfield 515, 0, 10, 68), (.iload_n 1, 0, 0, 0)] (by decide +kernel) ⟨⟨kf_10_515, Or.inl rfl⟩, trivial⟩ rfl (And.intro (kc rfl rfl) (?_))
  show Ev l d mi_X10_chooses 6 [some (.ref 65), some (.int p0), none, none, none] [.int p0] (hp (uI s 65 68 (Int32.ofInt (-1)))) 0 0 _
  rw [← hs1]
  refine Ev.if_lt (off := 10) (tgt := 16) (by decide +kernel) (by decide) (fun b2 => ?_) (fun b2 => ?_)
  · have hf := (if_pos b2).symm.trans hf
    cases hf
    exact Ev.vret rfl (by decide +kernel) (Nat.le_refl _) (Nat.le_refl _)
  · have hf := (if_neg b2).symm.trans hf
    refine Ev.blk (pc' := 10) [(.aload_n 0, 0, 0, 0)] (by decide +kernel) trivial rfl (?_)
    show Ev l d mi_X10_chooses 10 [some (.ref 65), some (.int p0), none, none, none] [.ref 65] (hp s1) 0 0 _
    obtain ⟨q3, hq3, hf⟩ := bd_some hf
    refine Ev.callV (o := 65) (M' := mi_X10_isCrownTaken) (d' := d - 1) (As := []) (rest := []) (r' := (some (.int q3.1), hp q3.2)) (e_X10_isCrownTaken (d := d - 1) (by omega) s1 _ hq3) (by omega) wm_X10_isCrownTaken wi_X10_isCrownTaken wv_X10_isCrownTaken km_10_484 (kc rfl rfl) (Nat.le_of_ble_eq_true rfl) rfl rfl rfl (Nat.le_of_ble_eq_true rfl) ⟨Nat.le_of_ble_eq_true rfl, Nat.le_of_ble_eq_true rfl⟩ (by decide +kernel) ?_
    show Ev l d mi_X10_chooses 13 [some (.ref 65), some (.int p0), none, none, none] [.int q3.1] (hp q3.2) 0 0 _
    refine Ev.if_eq (off := 4) (tgt := 17) (by decide +kernel) (by decide) (fun b4 => ?_) (fun b4 => ?_)
    · have hf := (if_pos b4).symm.trans hf
      refine Ev.blk (pc' := 21) [(.iconst 0, 0, 0, 0), (.istore_n 2, 0, 0, 0), (.iconst 0, 0, 0, 0), (.istore_n 3, 0, 0, 0)] (by decide +kernel) trivial rfl (And.intro (Nat.le_of_ble_eq_true rfl) (And.intro (Nat.le_of_ble_eq_true rfl) (?_)))
      show Ev l d mi_X10_chooses 21 [some (.ref 65), some (.int p0), some (.int (Int32.ofInt 0)), some (.int (Int32.ofInt 0)), none] [] (hp q3.2) 0 0 _
      exact (e_X10_chooses_L21 hd fuel) p0 (Int32.ofInt 0) (Int32.ofInt 0) q3.2 _ hf
    · have hf := (if_neg b4).symm.trans hf
      cases hf
      exact Ev.vret rfl (by decide +kernel) (Nat.le_refl _) (Nat.le_refl _)
def f_X10_movesNow_L13 : Nat → Int32 → Int32 → ST → Option (Int32 × ST)
  | 0, _, _, _ => none
  | n + 1, x1, x2, s => (f_X10_manMany s).bind (fun q3 => (if q3.1 ≤ x2 then some (x1, q3.2) else (f_X10_sideOf x2 q3.2).bind (fun q5 => gd (ib (Int32.ofInt 1) 225) ((if q5.1 = (q5.2.1 112 (Int32.ofInt 1).toNatClampNeg) then (f_X10_movesOf x2 q5.2).bind (fun q8 => (f_X10_movesNow_L13 n) (x1 + q8.1) (x2 + Int32.ofInt 1) q8.2) else (f_X10_movesNow_L13 n) x1 (x2 + Int32.ofInt 1) q5.2)))))
set_option maxHeartbeats 2000000 in
set_option maxRecDepth 20000 in
theorem e_X10_movesNow_L13 {l : Launch} {d : Nat} (hd : 6 ≤ d) : ∀ (n : Nat) (x1 : Int32) (x2 : Int32) (s : ST) (r : Int32 × ST), f_X10_movesNow_L13 n x1 x2 s = some r → Ev l d mi_X10_movesNow 13 [some (.ref 65), some (.int x1), some (.int x2)] [] (hp s) 0 0 (some (.int r.1), hp r.2) := by
  intro n
  induction n with
  | zero =>
    intro x1 x2 s r hf
    cases hf
  | succ n ih =>
    intro x1 x2 s r hf
    unfold f_X10_movesNow_L13 at hf
    refine Ev.blk (pc' := 15) [(.iload_n 2, 0, 0, 0), (.aload_n 0, 0, 0, 0)] (by decide +kernel) trivial rfl (?_)
    show Ev l d mi_X10_movesNow 15 [some (.ref 65), some (.int x1), some (.int x2)] [.ref 65, .int x2] (hp s) 0 0 _
    obtain ⟨q3, hq3, hf⟩ := bd_some hf
    refine Ev.callV (o := 65) (M' := mi_X10_manMany) (d' := d - 1) (As := []) (rest := [.int x2]) (r' := (some (.int q3.1), hp q3.2)) (e_X10_manMany (d := d - 1) (by omega) s _ hq3) (by omega) wm_X10_manMany wi_X10_manMany wv_X10_manMany km_10_433 (kc rfl rfl) (Nat.le_of_ble_eq_true rfl) rfl rfl rfl (Nat.le_of_ble_eq_true rfl) ⟨Nat.le_of_ble_eq_true rfl, Nat.le_of_ble_eq_true rfl⟩ (by decide +kernel) ?_
    show Ev l d mi_X10_movesNow 18 [some (.ref 65), some (.int x1), some (.int x2)] [.int q3.1, .int x2] (hp q3.2) 0 0 _
    refine Ev.icmp_ge (off := 31) (tgt := 49) (by decide +kernel) (by decide) (fun b4 => ?_) (fun b4 => ?_)
    · have hf := (if_pos b4).symm.trans hf
      refine Ev.blk (pc' := 50) [(.iload_n 1, 0, 0, 0)] (by decide +kernel) trivial rfl (?_)
      show Ev l d mi_X10_movesNow 50 [some (.ref 65), some (.int x1), some (.int x2)] [.int x1] (hp q3.2) 0 0 _
      cases hf
      exact Ev.iret .int rfl rfl (by decide +kernel) (Nat.le_refl _) (Nat.le_refl _)
    · have hf := (if_neg b4).symm.trans hf
      refine Ev.blk (pc' := 23) [(.aload_n 0, 0, 0, 0), (.iload_n 2, 0, 0, 0)] (by decide +kernel) trivial rfl (?_)
      show Ev l d mi_X10_movesNow 23 [some (.ref 65), some (.int x1), some (.int x2)] [.int x2, .ref 65] (hp q3.2) 0 0 _
      obtain ⟨q5, hq5, hf⟩ := bd_some hf
      refine Ev.callV (o := 65) (M' := mi_X10_sideOf) (d' := d - 1) (As := [.int x2]) (rest := []) (r' := (some (.int q5.1), hp q5.2)) (e_X10_sideOf (d := d - 1) (by omega) x2 q3.2 _ hq5) (by omega) wm_X10_sideOf wi_X10_sideOf wv_X10_sideOf km_10_468 (kc rfl rfl) (Nat.le_of_ble_eq_true rfl) rfl rfl rfl (Nat.le_of_ble_eq_true rfl) ⟨Nat.le_of_ble_eq_true rfl, Nat.le_of_ble_eq_true rfl⟩ (by decide +kernel) ?_
      show Ev l d mi_X10_movesNow 26 [some (.ref 65), some (.int x1), some (.int x2)] [.int q5.1] (hp q5.2) 0 0 _
      obtain ⟨c6, hf⟩ := gd_some hf
      refine Ev.blk (pc' := 32) [(.aload_n 0, 0, 0, 0), (.getfield 154, 0, 10, 62), (.iconst 1, 0, 0, 0), (.iaload, 0, 0, 0)] (by decide +kernel) ⟨kf_10_154, trivial⟩ rfl (And.intro (kc rfl rfl) (Exists.intro 112 (And.intro rfl (And.intro (kc rfl rfl) (And.intro (ib_ok c6) (?_))))))
      show Ev l d mi_X10_movesNow 32 [some (.ref 65), some (.int x1), some (.int x2)] [.int (q5.2.1 112 (Int32.ofInt 1).toNatClampNeg), .int q5.1] (hp q5.2) 0 0 _
      refine Ev.icmp_ne (off := 11) (tgt := 43) (by decide +kernel) (by decide) (fun b7 => ?_) (fun b7 => ?_)
      · have hf := (if_neg b7).symm.trans hf
        refine Ev.blk (pc' := 46) [(.iinc 2 1, 0, 0, 0)] (by decide +kernel) trivial rfl (And.intro (Nat.le_of_ble_eq_true rfl) (?_))
        show Ev l d mi_X10_movesNow 46 [some (.ref 65), some (.int x1), some (.int (x2 + Int32.ofInt 1))] [] (hp q5.2) 0 0 _
        refine Ev.goto (off := -33) (tgt := 13) (by decide +kernel) (by decide) ?_
        exact ih x1 (x2 + Int32.ofInt 1) q5.2 _ hf
      · have hf := (if_pos b7).symm.trans hf
        refine Ev.blk (pc' := 38) [(.iload_n 1, 0, 0, 0), (.aload_n 0, 0, 0, 0), (.iload_n 2, 0, 0, 0)] (by decide +kernel) trivial rfl (?_)
        show Ev l d mi_X10_movesNow 38 [some (.ref 65), some (.int x1), some (.int x2)] [.int x2, .ref 65, .int x1] (hp q5.2) 0 0 _
        obtain ⟨q8, hq8, hf⟩ := bd_some hf
        refine Ev.callV (o := 65) (M' := mi_X10_movesOf) (d' := d - 1) (As := [.int x2]) (rest := [.int x1]) (r' := (some (.int q8.1), hp q8.2)) (e_X10_movesOf (d := d - 1) (by omega) x2 q5.2 _ hq8) (by omega) wm_X10_movesOf wi_X10_movesOf wv_X10_movesOf km_10_478 (kc rfl rfl) (Nat.le_of_ble_eq_true rfl) rfl rfl rfl (Nat.le_of_ble_eq_true rfl) ⟨Nat.le_of_ble_eq_true rfl, Nat.le_of_ble_eq_true rfl⟩ (by decide +kernel) ?_
        show Ev l d mi_X10_movesNow 41 [some (.ref 65), some (.int x1), some (.int x2)] [.int q8.1, .int x1] (hp q8.2) 0 0 _
        refine Ev.blk (pc' := 46) [(.iadd, 0, 0, 0), (.istore_n 1, 0, 0, 0), (.iinc 2 1, 0, 0, 0)] (by decide +kernel) trivial rfl (And.intro (Nat.le_of_ble_eq_true rfl) (And.intro (Nat.le_of_ble_eq_true rfl) (?_)))
        show Ev l d mi_X10_movesNow 46 [some (.ref 65), some (.int (x1 + q8.1)), some (.int (x2 + Int32.ofInt 1))] [] (hp q8.2) 0 0 _
        refine Ev.goto (off := -33) (tgt := 13) (by decide +kernel) (by decide) ?_
        exact ih (x1 + q8.1) (x2 + Int32.ofInt 1) q8.2 _ hf
def f_X10_movesNow (s : ST) : Option (Int32 × ST) := (f_X10_isCrownTaken s).bind (fun q1 => (if q1.1 = 0 then (f_X10_movesNow_L13 fuel) (Int32.ofInt 0) (Int32.ofInt 0) q1.2 else some ((Int32.ofInt 0), q1.2)))
set_option maxHeartbeats 2000000 in
set_option maxRecDepth 20000 in
theorem e_X10_movesNow {l : Launch} {d : Nat} (hd : 6 ≤ d) (s : ST) (r : Int32 × ST) (hf : f_X10_movesNow s = some r) : Cl l d mi_X10_movesNow [.ref 65] (hp s) (some (.int r.1), hp r.2) := by
  refine Ev.entry (by decide +kernel) rfl rfl ?_
  show Ev l d mi_X10_movesNow 0 [some (.ref 65), none, none] [] (hp s) 0 0 _
  unfold f_X10_movesNow at hf
  refine Ev.blk (pc' := 3) [(.iconst 0, 0, 0, 0), (.istore_n 1, 0, 0, 0), (.aload_n 0, 0, 0, 0)] (by decide +kernel) trivial rfl (And.intro (Nat.le_of_ble_eq_true rfl) (?_))
  show Ev l d mi_X10_movesNow 3 [some (.ref 65), some (.int (Int32.ofInt 0)), none] [.ref 65] (hp s) 0 0 _
  obtain ⟨q1, hq1, hf⟩ := bd_some hf
  refine Ev.callV (o := 65) (M' := mi_X10_isCrownTaken) (d' := d - 1) (As := []) (rest := []) (r' := (some (.int q1.1), hp q1.2)) (e_X10_isCrownTaken (d := d - 1) (by omega) s _ hq1) (by omega) wm_X10_isCrownTaken wi_X10_isCrownTaken wv_X10_isCrownTaken km_10_484 (kc rfl rfl) (Nat.le_of_ble_eq_true rfl) rfl rfl rfl (Nat.le_of_ble_eq_true rfl) ⟨Nat.le_of_ble_eq_true rfl, Nat.le_of_ble_eq_true rfl⟩ (by decide +kernel) ?_
  show Ev l d mi_X10_movesNow 6 [some (.ref 65), some (.int (Int32.ofInt 0)), none] [.int q1.1] (hp q1.2) 0 0 _
  refine Ev.if_eq (off := 5) (tgt := 11) (by decide +kernel) (by decide) (fun b2 => ?_) (fun b2 => ?_)
  · have hf := (if_pos b2).symm.trans hf
    refine Ev.blk (pc' := 13) [(.iconst 0, 0, 0, 0), (.istore_n 2, 0, 0, 0)] (by decide +kernel) trivial rfl (And.intro (Nat.le_of_ble_eq_true rfl) (?_))
    show Ev l d mi_X10_movesNow 13 [some (.ref 65), some (.int (Int32.ofInt 0)), some (.int (Int32.ofInt 0))] [] (hp q1.2) 0 0 _
    exact (e_X10_movesNow_L13 hd fuel) (Int32.ofInt 0) (Int32.ofInt 0) q1.2 _ hf
  · have hf := (if_neg b2).symm.trans hf
    refine Ev.blk (pc' := 10) [(.iconst 0, 0, 0, 0)] (by decide +kernel) trivial rfl (?_)
    show Ev l d mi_X10_movesNow 10 [some (.ref 65), some (.int (Int32.ofInt 0)), none] [.int (Int32.ofInt 0)] (hp q1.2) 0 0 _
    cases hf
    exact Ev.iret .int rfl rfl (by decide +kernel) (Nat.le_refl _) (Nat.le_refl _)
def f_X10_isCheck_L40 (k2 : Int32 → Int32 → ST → Option (Int32 × ST)) : Nat → Int32 → Int32 → Int32 → ST → Option (Int32 × ST)
  | 0, _, _, _, _ => none
  | n + 1, x1, x2, x3, s => (f_X10_manMany s).bind (fun q9 => (if q9.1 ≤ x3 then k2 x1 (x2 + Int32.ofInt 1) q9.2 else (f_X10_sideOf x3 q9.2).bind (fun q11 => (if q11.1 = x1 then (f_X10_isCheck_L40 k2 n) x1 x2 (x3 + Int32.ofInt 1) q11.2 else (f_X10_columnOf x2 q11.2).bind (fun q13 => gd (ib (Int32.ofInt 4) 8) ((f_X10_rowOf x2 q13.2).bind (fun q15 => lt (q13.1 + ((q13.2.1 103 (Int32.ofInt 4).toNatClampNeg) * q15.1)) (fun v16 => (f_X10_canGo x3 v16 q15.2).bind (fun q17 => (if q17.1 = 0 then (f_X10_isCheck_L40 k2 n) x1 x2 (x3 + Int32.ofInt 1) q17.2 else some ((Int32.ofInt 1), q17.2)))))))))))
set_option maxHeartbeats 2000000 in
set_option maxRecDepth 20000 in
theorem e_X10_isCheck_L40 {l : Launch} {d : Nat} (hd : 5 ≤ d) (k2 : Int32 → Int32 → ST → Option (Int32 × ST)) (hk2 : ∀ (x1 : Int32) (x2 : Int32) (s : ST) (r : Int32 × ST), k2 x1 x2 s = some r → Ev l d mi_X10_isCheck 2 [some (.ref 65), some (.int x1), some (.int x2), none] [] (hp s) 0 0 (some (.int r.1), hp r.2)) : ∀ (n : Nat) (x1 : Int32) (x2 : Int32) (x3 : Int32) (s : ST) (r : Int32 × ST), f_X10_isCheck_L40 k2 n x1 x2 x3 s = some r → Ev l d mi_X10_isCheck 40 [some (.ref 65), some (.int x1), some (.int x2), some (.int x3)] [] (hp s) 0 0 (some (.int r.1), hp r.2) := by
  intro n
  induction n with
  | zero =>
    intro x1 x2 x3 s r hf
    cases hf
  | succ n ih =>
    intro x1 x2 x3 s r hf
    unfold f_X10_isCheck_L40 at hf
    refine Ev.blk (pc' := 42) [(.iload_n 3, 0, 0, 0), (.aload_n 0, 0, 0, 0)] (by decide +kernel) trivial rfl (?_)
    show Ev l d mi_X10_isCheck 42 [some (.ref 65), some (.int x1), some (.int x2), some (.int x3)] [.ref 65, .int x3] (hp s) 0 0 _
    obtain ⟨q9, hq9, hf⟩ := bd_some hf
    refine Ev.callV (o := 65) (M' := mi_X10_manMany) (d' := d - 1) (As := []) (rest := [.int x3]) (r' := (some (.int q9.1), hp q9.2)) (e_X10_manMany (d := d - 1) (by omega) s _ hq9) (by omega) wm_X10_manMany wi_X10_manMany wv_X10_manMany km_10_433 (kc rfl rfl) (Nat.le_of_ble_eq_true rfl) rfl rfl rfl (Nat.le_of_ble_eq_true rfl) ⟨Nat.le_of_ble_eq_true rfl, Nat.le_of_ble_eq_true rfl⟩ (by decide +kernel) ?_
    show Ev l d mi_X10_isCheck 45 [some (.ref 65), some (.int x1), some (.int x2), some (.int x3)] [.int q9.1, .int x3] (hp q9.2) 0 0 _
    refine Ev.icmp_ge (off := 46) (tgt := 91) (by decide +kernel) (by decide) (fun b10 => ?_) (fun b10 => ?_)
    · have hf := (if_pos b10).symm.trans hf
      refine Ev.blk (pc' := 94) [(.iinc 2 1, 0, 0, 0)] (by decide +kernel) trivial rfl (And.intro (Nat.le_of_ble_eq_true rfl) (?_))
      show Ev l d mi_X10_isCheck 94 [some (.ref 65), some (.int x1), some (.int (x2 + Int32.ofInt 1)), some (.int x3)] [] (hp q9.2) 0 0 _
      refine Ev.goto (off := -92) (tgt := 2) (by decide +kernel) (by decide) ?_
      exact Ev.wk (hk2 x1 (x2 + Int32.ofInt 1) q9.2 _ hf) (And.intro (Or.inr rfl) (And.intro (Or.inr rfl) (And.intro (Or.inr rfl) (And.intro (Or.inl rfl) (trivial)))))
    · have hf := (if_neg b10).symm.trans hf
      refine Ev.blk (pc' := 50) [(.aload_n 0, 0, 0, 0), (.iload_n 3, 0, 0, 0)] (by decide +kernel) trivial rfl (?_)
      show Ev l d mi_X10_isCheck 50 [some (.ref 65), some (.int x1), some (.int x2), some (.int x3)] [.int x3, .ref 65] (hp q9.2) 0 0 _
      obtain ⟨q11, hq11, hf⟩ := bd_some hf
      refine Ev.callV (o := 65) (M' := mi_X10_sideOf) (d' := d - 1) (As := [.int x3]) (rest := []) (r' := (some (.int q11.1), hp q11.2)) (e_X10_sideOf (d := d - 1) (by omega) x3 q9.2 _ hq11) (by omega) wm_X10_sideOf wi_X10_sideOf wv_X10_sideOf km_10_468 (kc rfl rfl) (Nat.le_of_ble_eq_true rfl) rfl rfl rfl (Nat.le_of_ble_eq_true rfl) ⟨Nat.le_of_ble_eq_true rfl, Nat.le_of_ble_eq_true rfl⟩ (by decide +kernel) ?_
      show Ev l d mi_X10_isCheck 53 [some (.ref 65), some (.int x1), some (.int x2), some (.int x3)] [.int q11.1] (hp q11.2) 0 0 _
      refine Ev.blk (pc' := 54) [(.iload_n 1, 0, 0, 0)] (by decide +kernel) trivial rfl (?_)
      show Ev l d mi_X10_isCheck 54 [some (.ref 65), some (.int x1), some (.int x2), some (.int x3)] [.int x1, .int q11.1] (hp q11.2) 0 0 _
      refine Ev.icmp_eq (off := 31) (tgt := 85) (by decide +kernel) (by decide) (fun b12 => ?_) (fun b12 => ?_)
      · have hf := (if_pos b12).symm.trans hf
        refine Ev.blk (pc' := 88) [(.iinc 3 1, 0, 0, 0)] (by decide +kernel) trivial rfl (And.intro (Nat.le_of_ble_eq_true rfl) (?_))
        show Ev l d mi_X10_isCheck 88 [some (.ref 65), some (.int x1), some (.int x2), some (.int (x3 + Int32.ofInt 1))] [] (hp q11.2) 0 0 _
        refine Ev.goto (off := -48) (tgt := 40) (by decide +kernel) (by decide) ?_
        exact ih x1 x2 (x3 + Int32.ofInt 1) q11.2 _ hf
      · have hf := (if_neg b12).symm.trans hf
        refine Ev.blk (pc' := 61) [(.aload_n 0, 0, 0, 0), (.iload_n 3, 0, 0, 0), (.aload_n 0, 0, 0, 0), (.iload_n 2, 0, 0, 0)] (by decide +kernel) trivial rfl (?_)
        show Ev l d mi_X10_isCheck 61 [some (.ref 65), some (.int x1), some (.int x2), some (.int x3)] [.int x2, .ref 65, .int x3, .ref 65] (hp q11.2) 0 0 _
        obtain ⟨q13, hq13, hf⟩ := bd_some hf
        refine Ev.callV (o := 65) (M' := mi_X10_columnOf) (d' := d - 1) (As := [.int x2]) (rest := [.int x3, .ref 65]) (r' := (some (.int q13.1), hp q13.2)) (e_X10_columnOf (d := d - 1) (by omega) x2 q11.2 _ hq13) (by omega) wm_X10_columnOf wi_X10_columnOf wv_X10_columnOf km_10_439 (kc rfl rfl) (Nat.le_of_ble_eq_true rfl) rfl rfl rfl (Nat.le_of_ble_eq_true rfl) ⟨Nat.le_of_ble_eq_true rfl, Nat.le_of_ble_eq_true rfl⟩ (by decide +kernel) ?_
        show Ev l d mi_X10_isCheck 64 [some (.ref 65), some (.int x1), some (.int x2), some (.int x3)] [.int q13.1, .int x3, .ref 65] (hp q13.2) 0 0 _
        obtain ⟨c14, hf⟩ := gd_some hf
        refine Ev.blk (pc' := 72) [(.aload_n 0, 0, 0, 0), (.getfield 127, 0, 10, 47), (.iconst 4, 0, 0, 0), (.iaload, 0, 0, 0), (.aload_n 0, 0, 0, 0), (.iload_n 2, 0, 0, 0)] (by decide +kernel) ⟨kf_10_127, trivial⟩ rfl (And.intro (kc rfl rfl) (Exists.intro 103 (And.intro rfl (And.intro (kc rfl rfl) (And.intro (ib_ok c14) (?_))))))
        show Ev l d mi_X10_isCheck 72 [some (.ref 65), some (.int x1), some (.int x2), some (.int x3)] [.int x2, .ref 65, .int (q13.2.1 103 (Int32.ofInt 4).toNatClampNeg), .int q13.1, .int x3, .ref 65] (hp q13.2) 0 0 _
        obtain ⟨q15, hq15, hf⟩ := bd_some hf
        refine Ev.callV (o := 65) (M' := mi_X10_rowOf) (d' := d - 1) (As := [.int x2]) (rest := [.int (q13.2.1 103 (Int32.ofInt 4).toNatClampNeg), .int q13.1, .int x3, .ref 65]) (r' := (some (.int q15.1), hp q15.2)) (e_X10_rowOf (d := d - 1) (by omega) x2 q13.2 _ hq15) (by omega) wm_X10_rowOf wi_X10_rowOf wv_X10_rowOf km_10_446 (kc rfl rfl) (Nat.le_of_ble_eq_true rfl) rfl rfl rfl (Nat.le_of_ble_eq_true rfl) ⟨Nat.le_of_ble_eq_true rfl, Nat.le_of_ble_eq_true rfl⟩ (by decide +kernel) ?_
        show Ev l d mi_X10_isCheck 75 [some (.ref 65), some (.int x1), some (.int x2), some (.int x3)] [.int q15.1, .int (q13.2.1 103 (Int32.ofInt 4).toNatClampNeg), .int q13.1, .int x3, .ref 65] (hp q15.2) 0 0 _
        obtain ⟨v16, hv16, hf⟩ := lt_some hf
        refine Ev.blk (pc' := 77) [(.imul, 0, 0, 0), (.iadd, 0, 0, 0)] (by decide +kernel) trivial rfl (?_)
        show Ev l d mi_X10_isCheck 77 [some (.ref 65), some (.int x1), some (.int x2), some (.int x3)] [.int (q13.1 + ((q13.2.1 103 (Int32.ofInt 4).toNatClampNeg) * q15.1)), .int x3, .ref 65] (hp q15.2) 0 0 _
        rw [← hv16]
        obtain ⟨q17, hq17, hf⟩ := bd_some hf
        refine Ev.callV (o := 65) (M' := mi_X10_canGo) (d' := d - 1) (As := [.int x3, .int v16]) (rest := []) (r' := (some (.int q17.1), hp q17.2)) (e_X10_canGo (d := d - 1) (by omega) x3 v16 q15.2 _ hq17) (by omega) wm_X10_canGo wi_X10_canGo wv_X10_canGo km_10_474 (kc rfl rfl) (Nat.le_of_ble_eq_true rfl) rfl rfl rfl (Nat.le_of_ble_eq_true rfl) ⟨Nat.le_of_ble_eq_true rfl, Nat.le_of_ble_eq_true rfl⟩ (by decide +kernel) ?_
        show Ev l d mi_X10_isCheck 80 [some (.ref 65), some (.int x1), some (.int x2), some (.int x3)] [.int q17.1] (hp q17.2) 0 0 _
        refine Ev.if_eq (off := 5) (tgt := 85) (by decide +kernel) (by decide) (fun b18 => ?_) (fun b18 => ?_)
        · have hf := (if_pos b18).symm.trans hf
          refine Ev.blk (pc' := 88) [(.iinc 3 1, 0, 0, 0)] (by decide +kernel) trivial rfl (And.intro (Nat.le_of_ble_eq_true rfl) (?_))
          show Ev l d mi_X10_isCheck 88 [some (.ref 65), some (.int x1), some (.int x2), some (.int (x3 + Int32.ofInt 1))] [] (hp q17.2) 0 0 _
          refine Ev.goto (off := -48) (tgt := 40) (by decide +kernel) (by decide) ?_
          exact ih x1 x2 (x3 + Int32.ofInt 1) q17.2 _ hf
        · have hf := (if_neg b18).symm.trans hf
          refine Ev.blk (pc' := 84) [(.iconst 1, 0, 0, 0)] (by decide +kernel) trivial rfl (?_)
          show Ev l d mi_X10_isCheck 84 [some (.ref 65), some (.int x1), some (.int x2), some (.int x3)] [.int (Int32.ofInt 1)] (hp q17.2) 0 0 _
          cases hf
          exact Ev.iret .boolean rfl rfl (by decide +kernel) (Nat.le_refl _) (Nat.le_refl _)
def f_X10_isCheck_L2 : Nat → Int32 → Int32 → ST → Option (Int32 × ST)
  | 0, _, _, _ => none
  | n + 1, x1, x2, s => (f_X10_manMany s).bind (fun q1 => (if q1.1 ≤ x2 then some ((Int32.ofInt 0), q1.2) else (f_X10_isCrown x2 q1.2).bind (fun q3 => (if q3.1 = 0 then (f_X10_isCheck_L2 n) x1 (x2 + Int32.ofInt 1) q3.2 else (f_X10_sideOf x2 q3.2).bind (fun q5 => (if q5.1 = x1 then (f_X10_isTaken x2 q5.2).bind (fun q7 => (if q7.1 = 0 then (f_X10_isCheck_L40 (f_X10_isCheck_L2 n) fuel) x1 x2 (Int32.ofInt 0) q7.2 else (f_X10_isCheck_L2 n) x1 (x2 + Int32.ofInt 1) q7.2)) else (f_X10_isCheck_L2 n) x1 (x2 + Int32.ofInt 1) q5.2))))))
set_option maxHeartbeats 2000000 in
set_option maxRecDepth 20000 in
theorem e_X10_isCheck_L2 {l : Launch} {d : Nat} (hd : 5 ≤ d) : ∀ (n : Nat) (x1 : Int32) (x2 : Int32) (s : ST) (r : Int32 × ST), f_X10_isCheck_L2 n x1 x2 s = some r → Ev l d mi_X10_isCheck 2 [some (.ref 65), some (.int x1), some (.int x2), none] [] (hp s) 0 0 (some (.int r.1), hp r.2) := by
  intro n
  induction n with
  | zero =>
    intro x1 x2 s r hf
    cases hf
  | succ n ih =>
    intro x1 x2 s r hf
    unfold f_X10_isCheck_L2 at hf
    refine Ev.blk (pc' := 4) [(.iload_n 2, 0, 0, 0), (.aload_n 0, 0, 0, 0)] (by decide +kernel) trivial rfl (?_)
    show Ev l d mi_X10_isCheck 4 [some (.ref 65), some (.int x1), some (.int x2), none] [.ref 65, .int x2] (hp s) 0 0 _
    obtain ⟨q1, hq1, hf⟩ := bd_some hf
    refine Ev.callV (o := 65) (M' := mi_X10_manMany) (d' := d - 1) (As := []) (rest := [.int x2]) (r' := (some (.int q1.1), hp q1.2)) (e_X10_manMany (d := d - 1) (by omega) s _ hq1) (by omega) wm_X10_manMany wi_X10_manMany wv_X10_manMany km_10_433 (kc rfl rfl) (Nat.le_of_ble_eq_true rfl) rfl rfl rfl (Nat.le_of_ble_eq_true rfl) ⟨Nat.le_of_ble_eq_true rfl, Nat.le_of_ble_eq_true rfl⟩ (by decide +kernel) ?_
    show Ev l d mi_X10_isCheck 7 [some (.ref 65), some (.int x1), some (.int x2), none] [.int q1.1, .int x2] (hp q1.2) 0 0 _
    refine Ev.icmp_ge (off := 90) (tgt := 97) (by decide +kernel) (by decide) (fun b2 => ?_) (fun b2 => ?_)
    · have hf := (if_pos b2).symm.trans hf
      refine Ev.blk (pc' := 98) [(.iconst 0, 0, 0, 0)] (by decide +kernel) trivial rfl (?_)
      show Ev l d mi_X10_isCheck 98 [some (.ref 65), some (.int x1), some (.int x2), none] [.int (Int32.ofInt 0)] (hp q1.2) 0 0 _
      cases hf
      exact Ev.iret .boolean rfl rfl (by decide +kernel) (Nat.le_refl _) (Nat.le_refl _)
    · have hf := (if_neg b2).symm.trans hf
      refine Ev.blk (pc' := 12) [(.aload_n 0, 0, 0, 0), (.iload_n 2, 0, 0, 0)] (by decide +kernel) trivial rfl (?_)
      show Ev l d mi_X10_isCheck 12 [some (.ref 65), some (.int x1), some (.int x2), none] [.int x2, .ref 65] (hp q1.2) 0 0 _
      obtain ⟨q3, hq3, hf⟩ := bd_some hf
      refine Ev.callV (o := 65) (M' := mi_X10_isCrown) (d' := d - 1) (As := [.int x2]) (rest := []) (r' := (some (.int q3.1), hp q3.2)) (e_X10_isCrown (d := d - 1) (by omega) x2 q1.2 _ hq3) (by omega) wm_X10_isCrown wi_X10_isCrown wv_X10_isCrown km_10_481 (kc rfl rfl) (Nat.le_of_ble_eq_true rfl) rfl rfl rfl (Nat.le_of_ble_eq_true rfl) ⟨Nat.le_of_ble_eq_true rfl, Nat.le_of_ble_eq_true rfl⟩ (by decide +kernel) ?_
      show Ev l d mi_X10_isCheck 15 [some (.ref 65), some (.int x1), some (.int x2), none] [.int q3.1] (hp q3.2) 0 0 _
      refine Ev.if_eq (off := 76) (tgt := 91) (by decide +kernel) (by decide) (fun b4 => ?_) (fun b4 => ?_)
      · have hf := (if_pos b4).symm.trans hf
        refine Ev.blk (pc' := 94) [(.iinc 2 1, 0, 0, 0)] (by decide +kernel) trivial rfl (And.intro (Nat.le_of_ble_eq_true rfl) (?_))
        show Ev l d mi_X10_isCheck 94 [some (.ref 65), some (.int x1), some (.int (x2 + Int32.ofInt 1)), none] [] (hp q3.2) 0 0 _
        refine Ev.goto (off := -92) (tgt := 2) (by decide +kernel) (by decide) ?_
        exact ih x1 (x2 + Int32.ofInt 1) q3.2 _ hf
      · have hf := (if_neg b4).symm.trans hf
        refine Ev.blk (pc' := 20) [(.aload_n 0, 0, 0, 0), (.iload_n 2, 0, 0, 0)] (by decide +kernel) trivial rfl (?_)
        show Ev l d mi_X10_isCheck 20 [some (.ref 65), some (.int x1), some (.int x2), none] [.int x2, .ref 65] (hp q3.2) 0 0 _
        obtain ⟨q5, hq5, hf⟩ := bd_some hf
        refine Ev.callV (o := 65) (M' := mi_X10_sideOf) (d' := d - 1) (As := [.int x2]) (rest := []) (r' := (some (.int q5.1), hp q5.2)) (e_X10_sideOf (d := d - 1) (by omega) x2 q3.2 _ hq5) (by omega) wm_X10_sideOf wi_X10_sideOf wv_X10_sideOf km_10_468 (kc rfl rfl) (Nat.le_of_ble_eq_true rfl) rfl rfl rfl (Nat.le_of_ble_eq_true rfl) ⟨Nat.le_of_ble_eq_true rfl, Nat.le_of_ble_eq_true rfl⟩ (by decide +kernel) ?_
        show Ev l d mi_X10_isCheck 23 [some (.ref 65), some (.int x1), some (.int x2), none] [.int q5.1] (hp q5.2) 0 0 _
        refine Ev.blk (pc' := 24) [(.iload_n 1, 0, 0, 0)] (by decide +kernel) trivial rfl (?_)
        show Ev l d mi_X10_isCheck 24 [some (.ref 65), some (.int x1), some (.int x2), none] [.int x1, .int q5.1] (hp q5.2) 0 0 _
        refine Ev.icmp_ne (off := 67) (tgt := 91) (by decide +kernel) (by decide) (fun b6 => ?_) (fun b6 => ?_)
        · have hf := (if_neg b6).symm.trans hf
          refine Ev.blk (pc' := 94) [(.iinc 2 1, 0, 0, 0)] (by decide +kernel) trivial rfl (And.intro (Nat.le_of_ble_eq_true rfl) (?_))
          show Ev l d mi_X10_isCheck 94 [some (.ref 65), some (.int x1), some (.int (x2 + Int32.ofInt 1)), none] [] (hp q5.2) 0 0 _
          refine Ev.goto (off := -92) (tgt := 2) (by decide +kernel) (by decide) ?_
          exact ih x1 (x2 + Int32.ofInt 1) q5.2 _ hf
        · have hf := (if_pos b6).symm.trans hf
          refine Ev.blk (pc' := 29) [(.aload_n 0, 0, 0, 0), (.iload_n 2, 0, 0, 0)] (by decide +kernel) trivial rfl (?_)
          show Ev l d mi_X10_isCheck 29 [some (.ref 65), some (.int x1), some (.int x2), none] [.int x2, .ref 65] (hp q5.2) 0 0 _
          obtain ⟨q7, hq7, hf⟩ := bd_some hf
          refine Ev.callV (o := 65) (M' := mi_X10_isTaken) (d' := d - 1) (As := [.int x2]) (rest := []) (r' := (some (.int q7.1), hp q7.2)) (e_X10_isTaken (d := d - 1) (by omega) x2 q5.2 _ hq7) (by omega) wm_X10_isTaken wi_X10_isTaken wv_X10_isTaken km_10_458 (kc rfl rfl) (Nat.le_of_ble_eq_true rfl) rfl rfl rfl (Nat.le_of_ble_eq_true rfl) ⟨Nat.le_of_ble_eq_true rfl, Nat.le_of_ble_eq_true rfl⟩ (by decide +kernel) ?_
          show Ev l d mi_X10_isCheck 32 [some (.ref 65), some (.int x1), some (.int x2), none] [.int q7.1] (hp q7.2) 0 0 _
          refine Ev.if_eq (off := 6) (tgt := 38) (by decide +kernel) (by decide) (fun b8 => ?_) (fun b8 => ?_)
          · have hf := (if_pos b8).symm.trans hf
            refine Ev.blk (pc' := 40) [(.iconst 0, 0, 0, 0), (.istore_n 3, 0, 0, 0)] (by decide +kernel) trivial rfl (And.intro (Nat.le_of_ble_eq_true rfl) (?_))
            show Ev l d mi_X10_isCheck 40 [some (.ref 65), some (.int x1), some (.int x2), some (.int (Int32.ofInt 0))] [] (hp q7.2) 0 0 _
            exact (e_X10_isCheck_L40 hd (f_X10_isCheck_L2 n) ih fuel) x1 x2 (Int32.ofInt 0) q7.2 _ hf
          · have hf := (if_neg b8).symm.trans hf
            refine Ev.goto (off := 56) (tgt := 91) (by decide +kernel) (by decide) ?_
            refine Ev.blk (pc' := 94) [(.iinc 2 1, 0, 0, 0)] (by decide +kernel) trivial rfl (And.intro (Nat.le_of_ble_eq_true rfl) (?_))
            show Ev l d mi_X10_isCheck 94 [some (.ref 65), some (.int x1), some (.int (x2 + Int32.ofInt 1)), none] [] (hp q7.2) 0 0 _
            refine Ev.goto (off := -92) (tgt := 2) (by decide +kernel) (by decide) ?_
            exact ih x1 (x2 + Int32.ofInt 1) q7.2 _ hf
def f_X10_isCheck (p0 : Int32) (s : ST) : Option (Int32 × ST) := (f_X10_isCheck_L2 fuel) p0 (Int32.ofInt 0) s
set_option maxHeartbeats 2000000 in
set_option maxRecDepth 20000 in
theorem e_X10_isCheck {l : Launch} {d : Nat} (hd : 5 ≤ d) (p0 : Int32) (s : ST) (r : Int32 × ST) (hf : f_X10_isCheck p0 s = some r) : Cl l d mi_X10_isCheck [.ref 65, .int p0] (hp s) (some (.int r.1), hp r.2) := by
  refine Ev.entry (by decide +kernel) rfl rfl ?_
  show Ev l d mi_X10_isCheck 0 [some (.ref 65), some (.int p0), none, none] [] (hp s) 0 0 _
  unfold f_X10_isCheck at hf
  refine Ev.blk (pc' := 2) [(.iconst 0, 0, 0, 0), (.istore_n 2, 0, 0, 0)] (by decide +kernel) trivial rfl (And.intro (Nat.le_of_ble_eq_true rfl) (?_))
  show Ev l d mi_X10_isCheck 2 [some (.ref 65), some (.int p0), some (.int (Int32.ofInt 0)), none] [] (hp s) 0 0 _
  exact (e_X10_isCheck_L2 hd fuel) p0 (Int32.ofInt 0) s _ hf
def f_X10_qClip (p0 : Int64) (s : ST) : Option (Int64 × ST) := (if (lg_cmp p0 (Int64.ofInt 1000000)) ≤ 0 then (if 0 ≤ (lg_cmp p0 (Int64.ofInt (-1000000))) then some (p0, s) else some ((Int64.ofInt (-1000000)), s)) else some ((Int64.ofInt 1000000), s))
set_option maxHeartbeats 2000000 in
set_option maxRecDepth 20000 in
theorem e_X10_qClip {l : Launch} {d : Nat} (hd : 1 ≤ d) (p0 : Int64) (s : ST) (r : Int64 × ST) (hf : f_X10_qClip p0 s = some r) : Cl l d mi_X10_qClip [.long p0] (hp s) (some (.long r.1), hp r.2) := by
  refine Ev.entry (by decide +kernel) rfl rfl ?_
  show Ev l d mi_X10_qClip 0 [some (.long p0), none] [] (hp s) 0 0 _
  unfold f_X10_qClip at hf
  refine Ev.blk (pc' := 5) [(.lload_n 0, 0, 0, 0), (.ldc2_w 733, 1000000, 0, 0), (.lcmp, 0, 0, 0)] (by decide +kernel) ⟨kl_10_733, trivial⟩ rfl (?_)
  show Ev l d mi_X10_qClip 5 [some (.long p0), none] [.int (lg_cmp p0 (Int64.ofInt 1000000))] (hp s) 0 0 _
  refine Ev.if_le (off := 9) (tgt := 14) (by decide +kernel) (by decide) (fun b1 => ?_) (fun b1 => ?_)
  · have hf := (if_pos b1).symm.trans hf
    refine Ev.blk (pc' := 19) [(.lload_n 0, 0, 0, 0), (.ldc2_w 735, (-1000000), 0, 0), (.lcmp, 0, 0, 0)] (by decide +kernel) ⟨kl_10_735, trivial⟩ rfl (?_)
    show Ev l d mi_X10_qClip 19 [some (.long p0), none] [.int (lg_cmp p0 (Int64.ofInt (-1000000)))] (hp s) 0 0 _
    refine Ev.if_ge (off := 9) (tgt := 28) (by decide +kernel) (by decide) (fun b2 => ?_) (fun b2 => ?_)
    · have hf := (if_pos b2).symm.trans hf
      refine Ev.blk (pc' := 29) [(.lload_n 0, 0, 0, 0)] (by decide +kernel) trivial rfl (?_)
      show Ev l d mi_X10_qClip 29 [some (.long p0), none] [.long p0] (hp s) 0 0 _
      cases hf
      exact Ev.lret rfl (by decide +kernel) (Nat.le_refl _) (Nat.le_refl _)
    · have hf := (if_neg b2).symm.trans hf
      refine Ev.blk (pc' := 25) [(.ldc2_w 735, (-1000000), 0, 0)] (by decide +kernel) ⟨kl_10_735, trivial⟩ rfl (?_)
      show Ev l d mi_X10_qClip 25 [some (.long p0), none] [.long (Int64.ofInt (-1000000))] (hp s) 0 0 _
      refine Ev.goto (off := 4) (tgt := 29) (by decide +kernel) (by decide) ?_
      cases hf
      exact Ev.lret rfl (by decide +kernel) (Nat.le_refl _) (Nat.le_refl _)
  · have hf := (if_neg b1).symm.trans hf
    refine Ev.blk (pc' := 11) [(.ldc2_w 733, 1000000, 0, 0)] (by decide +kernel) ⟨kl_10_733, trivial⟩ rfl (?_)
    show Ev l d mi_X10_qClip 11 [some (.long p0), none] [.long (Int64.ofInt 1000000)] (hp s) 0 0 _
    refine Ev.goto (off := 18) (tgt := 29) (by decide +kernel) (by decide) ?_
    cases hf
    exact Ev.lret rfl (by decide +kernel) (Nat.le_refl _) (Nat.le_refl _)
def f_X10_qFloor_j43 (x4 : Int64) (y0 : Int32) (y1 : Int32) (s : ST) : Option (Int64 × ST) := (if y0 = y1 then some (x4, s) else some ((x4 - (Int64.ofNat ((1 : Fin 2) : Nat))), s))
set_option maxHeartbeats 2000000 in
set_option maxRecDepth 20000 in
theorem e_X10_qFloor_j43 {l : Launch} {d : Nat} (hd : 1 ≤ d) (x4 : Int64) (y0 : Int32) (y1 : Int32) (s : ST) (r : Int64 × ST) (hf : f_X10_qFloor_j43 x4 y0 y1 s = some r) : Ev l d mi_X10_qFloor 43 [none, none, none, none, some (.long x4), none] [.int y1, .int y0] (hp s) 0 0 (some (.long r.1), hp r.2) := by
  unfold f_X10_qFloor_j43 at hf
  refine Ev.icmp_eq (off := 10) (tgt := 53) (by decide +kernel) (by decide) (fun b8 => ?_) (fun b8 => ?_)
  · have hf := (if_pos b8).symm.trans hf
    refine Ev.blk (pc' := 55) [(.lload 4, 0, 0, 0)] (by decide +kernel) trivial rfl (?_)
    show Ev l d mi_X10_qFloor 55 [none, none, none, none, some (.long x4), none] [.long x4] (hp s) 0 0 _
    cases hf
    exact Ev.lret rfl (by decide +kernel) (Nat.le_refl _) (Nat.le_refl _)
  · have hf := (if_neg b8).symm.trans hf
    refine Ev.blk (pc' := 50) [(.lload 4, 0, 0, 0), (.lconst 1, 0, 0, 0), (.lsub, 0, 0, 0)] (by decide +kernel) trivial rfl (?_)
    show Ev l d mi_X10_qFloor 50 [none, none, none, none, some (.long x4), none] [.long (x4 - (Int64.ofNat ((1 : Fin 2) : Nat)))] (hp s) 0 0 _
    refine Ev.goto (off := 5) (tgt := 55) (by decide +kernel) (by decide) ?_
    cases hf
    exact Ev.lret rfl (by decide +kernel) (Nat.le_refl _) (Nat.le_refl _)
def f_X10_qFloor_j32 (x2 : Int64) (x4 : Int64) (y0 : Int32) (s : ST) : Option (Int64 × ST) := (if 0 ≤ (lg_cmp x2 (Int64.ofNat ((0 : Fin 2) : Nat))) then f_X10_qFloor_j43 x4 y0 (Int32.ofInt 0) s else f_X10_qFloor_j43 x4 y0 (Int32.ofInt 1) s)
set_option maxHeartbeats 2000000 in
set_option maxRecDepth 20000 in
theorem e_X10_qFloor_j32 {l : Launch} {d : Nat} (hd : 1 ≤ d) (x2 : Int64) (x4 : Int64) (y0 : Int32) (s : ST) (r : Int64 × ST) (hf : f_X10_qFloor_j32 x2 x4 y0 s = some r) : Ev l d mi_X10_qFloor 32 [none, none, some (.long x2), none, some (.long x4), none] [.int y0] (hp s) 0 0 (some (.long r.1), hp r.2) := by
  unfold f_X10_qFloor_j32 at hf
  refine Ev.blk (pc' := 35) [(.lload_n 2, 0, 0, 0), (.lconst 0, 0, 0, 0), (.lcmp, 0, 0, 0)] (by decide +kernel) trivial rfl (?_)
  show Ev l d mi_X10_qFloor 35 [none, none, some (.long x2), none, some (.long x4), none] [.int (lg_cmp x2 (Int64.ofNat ((0 : Fin 2) : Nat))), .int y0] (hp s) 0 0 _
  refine Ev.if_ge (off := 7) (tgt := 42) (by decide +kernel) (by decide) (fun b7 => ?_) (fun b7 => ?_)
  · have hf := (if_pos b7).symm.trans hf
    refine Ev.blk (pc' := 43) [(.iconst 0, 0, 0, 0)] (by decide +kernel) trivial rfl (?_)
    show Ev l d mi_X10_qFloor 43 [none, none, some (.long x2), none, some (.long x4), none] [.int (Int32.ofInt 0), .int y0] (hp s) 0 0 _
    exact Ev.wk ((e_X10_qFloor_j43 hd) x4 y0 (Int32.ofInt 0) s _ hf) (And.intro (Or.inr rfl) (And.intro (Or.inr rfl) (And.intro (Or.inl rfl) (And.intro (Or.inr rfl) (And.intro (Or.inr rfl) (And.intro (Or.inr rfl) (trivial)))))))
  · have hf := (if_neg b7).symm.trans hf
    refine Ev.blk (pc' := 39) [(.iconst 1, 0, 0, 0)] (by decide +kernel) trivial rfl (?_)
    show Ev l d mi_X10_qFloor 39 [none, none, some (.long x2), none, some (.long x4), none] [.int (Int32.ofInt 1), .int y0] (hp s) 0 0 _
    refine Ev.goto (off := 4) (tgt := 43) (by decide +kernel) (by decide) ?_
    exact Ev.wk ((e_X10_qFloor_j43 hd) x4 y0 (Int32.ofInt 1) s _ hf) (And.intro (Or.inr rfl) (And.intro (Or.inr rfl) (And.intro (Or.inl rfl) (And.intro (Or.inr rfl) (And.intro (Or.inr rfl) (And.intro (Or.inr rfl) (trivial)))))))
def f_X10_qFloor (p0 : Int64) (p1 : Int64) (s : ST) : Option (Int64 × ST) := (if (lg_cmp p1 (Int64.ofNat ((0 : Fin 2) : Nat))) = 0 then some ((Int64.ofNat ((0 : Fin 2) : Nat)), s) else gd (nzl p1) (gd (nzl p1) (lt (lg_cmp (p0 - p0 / p1 * p1) (Int64.ofNat ((0 : Fin 2) : Nat))) (fun v4 => (if v4 = 0 then some ((p0 / p1), s) else (if 0 ≤ (lg_cmp p0 (Int64.ofNat ((0 : Fin 2) : Nat))) then f_X10_qFloor_j32 p1 (p0 / p1) (Int32.ofInt 0) s else f_X10_qFloor_j32 p1 (p0 / p1) (Int32.ofInt 1) s))))))
set_option maxHeartbeats 2000000 in
set_option maxRecDepth 20000 in
theorem e_X10_qFloor {l : Launch} {d : Nat} (hd : 1 ≤ d) (p0 : Int64) (p1 : Int64) (s : ST) (r : Int64 × ST) (hf : f_X10_qFloor p0 p1 s = some r) : Cl l d mi_X10_qFloor [.long p0, .long p1] (hp s) (some (.long r.1), hp r.2) := by
  refine Ev.entry (by decide +kernel) rfl rfl ?_
  show Ev l d mi_X10_qFloor 0 [some (.long p0), none, some (.long p1), none, none, none] [] (hp s) 0 0 _
  unfold f_X10_qFloor at hf
  refine Ev.blk (pc' := 3) [(.lload_n 2, 0, 0, 0), (.lconst 0, 0, 0, 0), (.lcmp, 0, 0, 0)] (by decide +kernel) trivial rfl (?_)
  show Ev l d mi_X10_qFloor 3 [some (.long p0), none, some (.long p1), none, none, none] [.int (lg_cmp p1 (Int64.ofNat ((0 : Fin 2) : Nat)))] (hp s) 0 0 _
  refine Ev.if_ne (off := 5) (tgt := 8) (by decide +kernel) (by decide) (fun b1 => ?_) (fun b1 => ?_)
  · have hf := (if_neg b1).symm.trans hf
    obtain ⟨c2, hf⟩ := gd_some hf
    obtain ⟨c3, hf⟩ := gd_some hf
    obtain ⟨v4, hv4, hf⟩ := lt_some hf
    refine Ev.blk (pc' := 18) [(.lload_n 0, 0, 0, 0), (.lload_n 2, 0, 0, 0), (.ldiv, 0, 0, 0), (.lstore 4, 0, 0, 0), (.lload_n 0, 0, 0, 0), (.lload_n 2, 0, 0, 0), (.lrem, 0, 0, 0), (.lconst 0, 0, 0, 0), (.lcmp, 0, 0, 0)] (by decide +kernel) trivial rfl (And.intro (nzl_ok c2) (And.intro (Nat.le_of_ble_eq_true rfl) (And.intro (nzl_ok c3) (?_))))
    show Ev l d mi_X10_qFloor 18 [some (.long p0), none, some (.long p1), none, some (.long (p0 / p1)), none] [.int (lg_cmp (p0 - p0 / p1 * p1) (Int64.ofNat ((0 : Fin 2) : Nat)))] (hp s) 0 0 _
    rw [← hv4]
    refine Ev.if_eq (off := 35) (tgt := 53) (by decide +kernel) (by decide) (fun b5 => ?_) (fun b5 => ?_)
    · have hf := (if_pos b5).symm.trans hf
      refine Ev.blk (pc' := 55) [(.lload 4, 0, 0, 0)] (by decide +kernel) trivial rfl (?_)
      show Ev l d mi_X10_qFloor 55 [some (.long p0), none, some (.long p1), none, some (.long (p0 / p1)), none] [.long (p0 / p1)] (hp s) 0 0 _
      cases hf
      exact Ev.lret rfl (by decide +kernel) (Nat.le_refl _) (Nat.le_refl _)
    · have hf := (if_neg b5).symm.trans hf
      refine Ev.blk (pc' := 24) [(.lload_n 0, 0, 0, 0), (.lconst 0, 0, 0, 0), (.lcmp, 0, 0, 0)] (by decide +kernel) trivial rfl (?_)
      show Ev l d mi_X10_qFloor 24 [some (.long p0), none, some (.long p1), none, some (.long (p0 / p1)), none] [.int (lg_cmp p0 (Int64.ofNat ((0 : Fin 2) : Nat)))] (hp s) 0 0 _
      refine Ev.if_ge (off := 7) (tgt := 31) (by decide +kernel) (by decide) (fun b6 => ?_) (fun b6 => ?_)
      · have hf := (if_pos b6).symm.trans hf
        refine Ev.blk (pc' := 32) [(.iconst 0, 0, 0, 0)] (by decide +kernel) trivial rfl (?_)
        show Ev l d mi_X10_qFloor 32 [some (.long p0), none, some (.long p1), none, some (.long (p0 / p1)), none] [.int (Int32.ofInt 0)] (hp s) 0 0 _
        exact Ev.wk ((e_X10_qFloor_j32 hd) p1 (p0 / p1) (Int32.ofInt 0) s _ hf) (And.intro (Or.inl rfl) (And.intro (Or.inr rfl) (And.intro (Or.inr rfl) (And.intro (Or.inr rfl) (And.intro (Or.inr rfl) (And.intro (Or.inr rfl) (trivial)))))))
      · have hf := (if_neg b6).symm.trans hf
        refine Ev.blk (pc' := 28) [(.iconst 1, 0, 0, 0)] (by decide +kernel) trivial rfl (?_)
        show Ev l d mi_X10_qFloor 28 [some (.long p0), none, some (.long p1), none, some (.long (p0 / p1)), none] [.int (Int32.ofInt 1)] (hp s) 0 0 _
        refine Ev.goto (off := 4) (tgt := 32) (by decide +kernel) (by decide) ?_
        exact Ev.wk ((e_X10_qFloor_j32 hd) p1 (p0 / p1) (Int32.ofInt 1) s _ hf) (And.intro (Or.inl rfl) (And.intro (Or.inr rfl) (And.intro (Or.inr rfl) (And.intro (Or.inr rfl) (And.intro (Or.inr rfl) (And.intro (Or.inr rfl) (trivial)))))))
  · have hf := (if_pos b1).symm.trans hf
    refine Ev.blk (pc' := 7) [(.lconst 0, 0, 0, 0)] (by decide +kernel) trivial rfl (?_)
    show Ev l d mi_X10_qFloor 7 [some (.long p0), none, some (.long p1), none, none, none] [.long (Int64.ofNat ((0 : Fin 2) : Nat))] (hp s) 0 0 _
    cases hf
    exact Ev.lret rfl (by decide +kernel) (Nat.le_refl _) (Nat.le_refl _)
def f_X10_qPuts (p0 : Int64) (s : ST) : Option (ST) := gd (ib (s.1 65 117) 1700) (lt (uI (uJ s 148 (s.1 65 117).toNatClampNeg p0) 65 117 (((uJ s 148 (s.1 65 117).toNatClampNeg p0).1 65 117) + (Int32.ofInt 1))) (fun s2 => some s2))
set_option maxHeartbeats 2000000 in
set_option maxRecDepth 20000 in
theorem e_X10_qPuts {l : Launch} {d : Nat} (hd : 1 ≤ d) (p0 : Int64) (s : ST) (r : ST) (hf : f_X10_qPuts p0 s = some r) : Cl l d mi_X10_qPuts [.ref 65, .long p0] (hp s) (none, hp r) := by
  refine Ev.entry (by decide +kernel) rfl rfl ?_
  show Ev l d mi_X10_qPuts 0 [some (.ref 65), some (.long p0), none] [] (hp s) 0 0 _
  unfold f_X10_qPuts at hf
  obtain ⟨c1, hf⟩ := gd_some hf
  obtain ⟨s2, hs2, hf⟩ := lt_some hf
  refine Ev.blk (pc' := 20) [(.aload_n 0, 0, 0, 0), (.getfield 269, 0, 10, 116), (.aload_n 0, 0, 0, 0), (.getfield 533, 0, 10, 117), (.lload_n 1, 0, 0, 0), (.lastore, 0, 0, 0), (.aload_n 0, 0, 0, 0), (.dup, 0, 0, 0), (.getfield 533, 0, 10, 117), (.iconst 1, 0, 0, 0), (.iadd, 0, 0, 0), (.putfield 533, 0, 10, 117)] (by decide +kernel) ⟨kf_10_269, ⟨kf_10_533, ⟨kf_10_533, ⟨⟨kf_10_533, Or.inl rfl⟩, trivial⟩⟩⟩⟩ rfl (And.intro (kc rfl rfl) (Exists.intro 148 (And.intro rfl (And.intro (kc rfl rfl) (And.intro (kc rfl rfl) (And.intro (ib_ok c1) (And.intro rfl (And.intro (kc rfl rfl) (And.intro (kc rfl rfl) (?_))))))))))
  show Ev l d mi_X10_qPuts 20 [some (.ref 65), some (.long p0), none] [] (hp (uI (uJ s 148 (s.1 65 117).toNatClampNeg p0) 65 117 (((uJ s 148 (s.1 65 117).toNatClampNeg p0).1 65 117) + (Int32.ofInt 1)))) 0 0 _
  rw [← hs2]
  cases hf
  exact Ev.vret rfl (by decide +kernel) (Nat.le_refl _) (Nat.le_refl _)
