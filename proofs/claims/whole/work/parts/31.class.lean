/-! THE LANDED CLASS: functions and proofs, by program (wip/gen_class.py): X3_begin X3_copy X3_isOut X3_menOf X3_borne X3_balanceOf X3_along X3_goals J6_bitCount_0f7a4 X3_moveCount X3_isOver X3_bitAt X9_moveOf X3_moveAt X3_numberOf X3_lift X3_carry X3_carryBack X4_worthOf X3_dearestPrey X3_outlook X3_outlookBehind X3_depth X3_bestMove X3_threatens X3_isCornered X3_cornersBy X3_forcedBy -/
def f_X3_begin_L41 (k67 : Nat → Nat → ST → Option (ST)) : Nat → Nat → Nat → Int32 → ST → Option (ST)
  | 0, _, _, _, _ => none
  | n + 1, x0, x1, x2, s => gd (kk x1 4) ((if (s.1 x1 8) ≤ x2 then k67 x0 x1 s else gd (kk x0 3) ((RR s.2.2 x0 4).bind (fun a20 => (RR s.2.2 x1 11).bind (fun a21 => gd (kk a21 13) (gd (ib x2 (K0 a21).2) (gd (kk a20 13) (gd (ib x2 (K0 a20).2) (lt (uI s a20 x2.toNatClampNeg (s.1 a21 x2.toNatClampNeg)) (fun s26 => (f_X3_begin_L41 k67 n) x0 x1 (x2 + Int32.ofInt 1) s26))))))))))
set_option maxHeartbeats 2000000 in
set_option maxRecDepth 20000 in
theorem e_X3_begin_L41 {l : Launch} {d : Nat} (hd : 3 ≤ d) (k67 : Nat → Nat → ST → Option (ST)) (hk67 : ∀ (x0 : Nat) (x1 : Nat) (s : ST) (r : ST), k67 x0 x1 s = some r → Ev l d mi_X3_begin 67 [some (.ref x0), some (.ref x1), none] [] (hp s) 0 0 (none, hp r)) : ∀ (n : Nat) (x0 : Nat) (x1 : Nat) (x2 : Int32) (s : ST) (r : ST), f_X3_begin_L41 k67 n x0 x1 x2 s = some r → Ev l d mi_X3_begin 41 [some (.ref x0), some (.ref x1), some (.int x2)] [] (hp s) 0 0 (none, hp r) := by
  intro n
  induction n with
  | zero =>
    intro x0 x1 x2 s r hf
    cases hf
  | succ n ih =>
    intro x0 x1 x2 s r hf
    unfold f_X3_begin_L41 at hf
    obtain ⟨c17, hf⟩ := gd_some hf
    refine Ev.blk (pc' := 46) [(.iload_n 2, 0, 0, 0), (.aload_n 1, 0, 0, 0), (.getfield 66, 0, 4, 8)] (by decide +kernel) ⟨kf_3_66, trivial⟩ rfl (And.intro (kk_ok c17) (?_))
    show Ev l d mi_X3_begin 46 [some (.ref x0), some (.ref x1), some (.int x2)] [.int (s.1 x1 8), .int x2] (hp s) 0 0 _
    refine Ev.icmp_ge (off := 21) (tgt := 67) (by decide +kernel) (by decide) (fun b18 => ?_) (fun b18 => ?_)
    · have hf := (if_pos b18).symm.trans hf
      exact Ev.wk (hk67 x0 x1 s _ hf) (And.intro (Or.inr rfl) (And.intro (Or.inr rfl) (And.intro (Or.inl rfl) (trivial))))
    · have hf := (if_neg b18).symm.trans hf
      obtain ⟨c19, hf⟩ := gd_some hf
      obtain ⟨a20, ha20, hf⟩ := bd_some hf
      obtain ⟨a21, ha21, hf⟩ := bd_some hf
      obtain ⟨c22, hf⟩ := gd_some hf
      obtain ⟨c23, hf⟩ := gd_some hf
      obtain ⟨c24, hf⟩ := gd_some hf
      obtain ⟨c25, hf⟩ := gd_some hf
      obtain ⟨s26, hs26, hf⟩ := lt_some hf
      refine Ev.blk (pc' := 64) [(.aload_n 0, 0, 0, 0), (.getfield 22, 0, 3, 4), (.iload_n 2, 0, 0, 0), (.aload_n 1, 0, 0, 0), (.getfield 69, 0, 4, 11), (.iload_n 2, 0, 0, 0), (.iaload, 0, 0, 0), (.iastore, 0, 0, 0), (.iinc 2 1, 0, 0, 0)] (by decide +kernel) ⟨kf_3_22, ⟨kf_3_69, trivial⟩⟩ rfl (And.intro (kk_ok c19) (Exists.intro a20 (And.intro ha20 (And.intro (kk_ok c17) (Exists.intro a21 (And.intro ha21 (And.intro (kk_ok c22) (And.intro (ib_ok c23) (And.intro (kk_ok c24) (And.intro (ib_ok c25) (And.intro (Nat.le_of_ble_eq_true rfl) (?_))))))))))))
      show Ev l d mi_X3_begin 64 [some (.ref x0), some (.ref x1), some (.int (x2 + Int32.ofInt 1))] [] (hp (uI s a20 x2.toNatClampNeg (s.1 a21 x2.toNatClampNeg))) 0 0 _
      rw [← hs26]
      refine Ev.goto (off := -23) (tgt := 41) (by decide +kernel) (by decide) ?_
      exact ih x0 x1 (x2 + Int32.ofInt 1) s26 _ hf
def f_X3_begin_L69 (k95 : Nat → ST → Option (ST)) : Nat → Nat → Nat → Int32 → ST → Option (ST)
  | 0, _, _, _, _ => none
  | n + 1, x0, x1, x2, s => gd (kk x1 4) ((if (s.1 x1 12) ≤ x2 then k95 x0 s else gd (kk x0 3) ((RR s.2.2 x0 5).bind (fun a30 => (RR s.2.2 x1 14).bind (fun a31 => gd (kk a31 13) (gd (ib x2 (K0 a31).2) (gd (kk a30 13) (gd (ib x2 (K0 a30).2) (lt (uI s a30 x2.toNatClampNeg (s.1 a31 x2.toNatClampNeg)) (fun s36 => (f_X3_begin_L69 k95 n) x0 x1 (x2 + Int32.ofInt 1) s36))))))))))
set_option maxHeartbeats 2000000 in
set_option maxRecDepth 20000 in
theorem e_X3_begin_L69 {l : Launch} {d : Nat} (hd : 3 ≤ d) (k95 : Nat → ST → Option (ST)) (hk95 : ∀ (x0 : Nat) (s : ST) (r : ST), k95 x0 s = some r → Ev l d mi_X3_begin 95 [some (.ref x0), none, none] [] (hp s) 0 0 (none, hp r)) : ∀ (n : Nat) (x0 : Nat) (x1 : Nat) (x2 : Int32) (s : ST) (r : ST), f_X3_begin_L69 k95 n x0 x1 x2 s = some r → Ev l d mi_X3_begin 69 [some (.ref x0), some (.ref x1), some (.int x2)] [] (hp s) 0 0 (none, hp r) := by
  intro n
  induction n with
  | zero =>
    intro x0 x1 x2 s r hf
    cases hf
  | succ n ih =>
    intro x0 x1 x2 s r hf
    unfold f_X3_begin_L69 at hf
    obtain ⟨c27, hf⟩ := gd_some hf
    refine Ev.blk (pc' := 74) [(.iload_n 2, 0, 0, 0), (.aload_n 1, 0, 0, 0), (.getfield 72, 0, 4, 12)] (by decide +kernel) ⟨kf_3_72, trivial⟩ rfl (And.intro (kk_ok c27) (?_))
    show Ev l d mi_X3_begin 74 [some (.ref x0), some (.ref x1), some (.int x2)] [.int (s.1 x1 12), .int x2] (hp s) 0 0 _
    refine Ev.icmp_ge (off := 21) (tgt := 95) (by decide +kernel) (by decide) (fun b28 => ?_) (fun b28 => ?_)
    · have hf := (if_pos b28).symm.trans hf
      exact Ev.wk (hk95 x0 s _ hf) (And.intro (Or.inr rfl) (And.intro (Or.inl rfl) (And.intro (Or.inl rfl) (trivial))))
    · have hf := (if_neg b28).symm.trans hf
      obtain ⟨c29, hf⟩ := gd_some hf
      obtain ⟨a30, ha30, hf⟩ := bd_some hf
      obtain ⟨a31, ha31, hf⟩ := bd_some hf
      obtain ⟨c32, hf⟩ := gd_some hf
      obtain ⟨c33, hf⟩ := gd_some hf
      obtain ⟨c34, hf⟩ := gd_some hf
      obtain ⟨c35, hf⟩ := gd_some hf
      obtain ⟨s36, hs36, hf⟩ := lt_some hf
      refine Ev.blk (pc' := 92) [(.aload_n 0, 0, 0, 0), (.getfield 25, 0, 3, 5), (.iload_n 2, 0, 0, 0), (.aload_n 1, 0, 0, 0), (.getfield 75, 0, 4, 14), (.iload_n 2, 0, 0, 0), (.iaload, 0, 0, 0), (.iastore, 0, 0, 0), (.iinc 2 1, 0, 0, 0)] (by decide +kernel) ⟨kf_3_25, ⟨kf_3_75, trivial⟩⟩ rfl (And.intro (kk_ok c29) (Exists.intro a30 (And.intro ha30 (And.intro (kk_ok c27) (Exists.intro a31 (And.intro ha31 (And.intro (kk_ok c32) (And.intro (ib_ok c33) (And.intro (kk_ok c34) (And.intro (ib_ok c35) (And.intro (Nat.le_of_ble_eq_true rfl) (?_))))))))))))
      show Ev l d mi_X3_begin 92 [some (.ref x0), some (.ref x1), some (.int (x2 + Int32.ofInt 1))] [] (hp (uI s a30 x2.toNatClampNeg (s.1 a31 x2.toNatClampNeg))) 0 0 _
      rw [← hs36]
      refine Ev.goto (off := -23) (tgt := 69) (by decide +kernel) (by decide) ?_
      exact ih x0 x1 (x2 + Int32.ofInt 1) s36 _ hf
def f_X3_begin_j95 (x0 : Nat) (s : ST) : Option (ST) := (f_X3_settle x0 s).bind (fun q37 => gd (kk x0 3) (some q37))
set_option maxHeartbeats 2000000 in
set_option maxRecDepth 20000 in
theorem e_X3_begin_j95 {l : Launch} {d : Nat} (hd : 3 ≤ d) (x0 : Nat) (s : ST) (r : ST) (hf : f_X3_begin_j95 x0 s = some r) : Ev l d mi_X3_begin 95 [some (.ref x0), none, none] [] (hp s) 0 0 (none, hp r) := by
  unfold f_X3_begin_j95 at hf
  refine Ev.blk (pc' := 96) [(.aload_n 0, 0, 0, 0)] (by decide +kernel) trivial rfl (?_)
  show Ev l d mi_X3_begin 96 [some (.ref x0), none, none] [.ref x0] (hp s) 0 0 _
  obtain ⟨q37, hq37, hf⟩ := bd_some hf
  obtain ⟨c38, hf⟩ := gd_some hf
  refine Ev.callV (o := x0) (M' := mi_X3_settle) (d' := d - 1) (As := []) (rest := []) (r' := (none, hp q37)) (e_X3_settle (d := d - 1) (by omega) x0 s _ hq37) (by omega) wm_X3_settle wi_X3_settle wv_X3_settle km_3_60 (kk_ok c38) (Nat.le_of_ble_eq_true rfl) rfl rfl rfl (Nat.le_of_ble_eq_true rfl) ⟨Nat.le_of_ble_eq_true rfl, Nat.le_of_ble_eq_true rfl⟩ (by decide +kernel) ?_
  show Ev l d mi_X3_begin 99 [some (.ref x0), none, none] [] (hp q37) 0 0 _
  cases hf
  exact Ev.vret rfl (by decide +kernel) (Nat.le_refl _) (Nat.le_refl _)
def f_X3_begin_j67 (x0 : Nat) (x1 : Nat) (s : ST) : Option (ST) := (f_X3_begin_L69 f_X3_begin_j95 fuel) x0 x1 (Int32.ofInt 0) s
set_option maxHeartbeats 2000000 in
set_option maxRecDepth 20000 in
theorem e_X3_begin_j67 {l : Launch} {d : Nat} (hd : 3 ≤ d) (x0 : Nat) (x1 : Nat) (s : ST) (r : ST) (hf : f_X3_begin_j67 x0 x1 s = some r) : Ev l d mi_X3_begin 67 [some (.ref x0), some (.ref x1), none] [] (hp s) 0 0 (none, hp r) := by
  unfold f_X3_begin_j67 at hf
  refine Ev.blk (pc' := 69) [(.iconst 0, 0, 0, 0), (.istore_n 2, 0, 0, 0)] (by decide +kernel) trivial rfl (And.intro (Nat.le_of_ble_eq_true rfl) (?_))
  show Ev l d mi_X3_begin 69 [some (.ref x0), some (.ref x1), some (.int (Int32.ofInt 0))] [] (hp s) 0 0 _
  exact (e_X3_begin_L69 hd f_X3_begin_j95 (e_X3_begin_j95 hd) fuel) x0 x1 (Int32.ofInt 0) s _ hf
def f_X3_begin (o : Nat) (p0 : Nat) (s : ST) : Option (ST) := gd (kk o 3) (gd (dy o 0) ((RR (uI (uI (uR s o 0 p0) o 1 (Int32.ofInt 0)) o 2 (Int32.ofInt 0)).2.2 o 3).bind (fun a3 => gd (kk p0 4) ((RR (uI (uI (uR s o 0 p0) o 1 (Int32.ofInt 0)) o 2 (Int32.ofInt 0)).2.2 p0 2).bind (fun a5 => gd (kk a5 13) (gd (ib (Int32.ofInt 0) (K0 a5).2) (gd (kk a3 13) (gd (ib (Int32.ofInt 0) (K0 a3).2) ((RR (uI (uI (uI (uR s o 0 p0) o 1 (Int32.ofInt 0)) o 2 (Int32.ofInt 0)) a3 (Int32.ofInt 0).toNatClampNeg ((uI (uI (uR s o 0 p0) o 1 (Int32.ofInt 0)) o 2 (Int32.ofInt 0)).1 a5 (Int32.ofInt 0).toNatClampNeg)).2.2 o 3).bind (fun a10 => (RR (uI (uI (uI (uR s o 0 p0) o 1 (Int32.ofInt 0)) o 2 (Int32.ofInt 0)) a3 (Int32.ofInt 0).toNatClampNeg ((uI (uI (uR s o 0 p0) o 1 (Int32.ofInt 0)) o 2 (Int32.ofInt 0)).1 a5 (Int32.ofInt 0).toNatClampNeg)).2.2 p0 2).bind (fun a11 => gd (kk a11 13) (gd (ib (Int32.ofInt 1) (K0 a11).2) (gd (kk a10 13) (gd (ib (Int32.ofInt 1) (K0 a10).2) (lt (uI (uI (uI (uI (uR s o 0 p0) o 1 (Int32.ofInt 0)) o 2 (Int32.ofInt 0)) a3 (Int32.ofInt 0).toNatClampNeg ((uI (uI (uR s o 0 p0) o 1 (Int32.ofInt 0)) o 2 (Int32.ofInt 0)).1 a5 (Int32.ofInt 0).toNatClampNeg)) a10 (Int32.ofInt 1).toNatClampNeg ((uI (uI (uI (uR s o 0 p0) o 1 (Int32.ofInt 0)) o 2 (Int32.ofInt 0)) a3 (Int32.ofInt 0).toNatClampNeg ((uI (uI (uR s o 0 p0) o 1 (Int32.ofInt 0)) o 2 (Int32.ofInt 0)).1 a5 (Int32.ofInt 0).toNatClampNeg)).1 a11 (Int32.ofInt 1).toNatClampNeg)) (fun s16 => (f_X3_begin_L41 f_X3_begin_j67 fuel) o p0 (Int32.ofInt 0) s16))))))))))))))))
set_option maxHeartbeats 2000000 in
set_option maxRecDepth 20000 in
theorem e_X3_begin {l : Launch} {d : Nat} (hd : 3 ≤ d) (o : Nat) (p0 : Nat) (s : ST) (r : ST) (hf : f_X3_begin o p0 s = some r) : Cl l d mi_X3_begin [.ref o, .ref p0] (hp s) (none, hp r) := by
  refine Ev.entry (by decide +kernel) rfl rfl ?_
  show Ev l d mi_X3_begin 0 [some (.ref o), some (.ref p0), none] [] (hp s) 0 0 _
  unfold f_X3_begin at hf
  obtain ⟨c1, hf⟩ := gd_some hf
  obtain ⟨c2, hf⟩ := gd_some hf
  refine Ev.blk (pc' := 5) [(.aload_n 0, 0, 0, 0), (.aload_n 1, 0, 0, 0), (.putfield 56, 0, 3, 0)] (by decide +kernel) ⟨⟨kf_3_56, Or.inl rfl⟩, trivial⟩ rfl (And.intro (kk_ok c1) (?_))
  show Ev l d mi_X3_begin 5 [some (.ref o), some (.ref p0), none] [] (sm_R (hp s) o 0 (some p0)) 0 0 _
  rw [hp_R (dy_ok c2)]
  obtain ⟨a3, ha3, hf⟩ := bd_some hf
  obtain ⟨c4, hf⟩ := gd_some hf
  obtain ⟨a5, ha5, hf⟩ := bd_some hf
  obtain ⟨c6, hf⟩ := gd_some hf
  obtain ⟨c7, hf⟩ := gd_some hf
  obtain ⟨c8, hf⟩ := gd_some hf
  obtain ⟨c9, hf⟩ := gd_some hf
  obtain ⟨a10, ha10, hf⟩ := bd_some hf
  obtain ⟨a11, ha11, hf⟩ := bd_some hf
  obtain ⟨c12, hf⟩ := gd_some hf
  obtain ⟨c13, hf⟩ := gd_some hf
  obtain ⟨c14, hf⟩ := gd_some hf
  obtain ⟨c15, hf⟩ := gd_some hf
  obtain ⟨s16, hs16, hf⟩ := lt_some hf
  refine Ev.blk (pc' := 41) [(.aload_n 0, 0, 0, 0), (.iconst 0, 0, 0, 0), (.putfield 9, 0, 3, 1), (.aload_n 0, 0, 0, 0), (.iconst 0, 0, 0, 0), (.putfield 15, 0, 3, 2), (.aload_n 0, 0, 0, 0), (.getfield 18, 0, 3, 3), (.iconst 0, 0, 0, 0), (.aload_n 1, 0, 0, 0), (.getfield 63, 0, 4, 2), (.iconst 0, 0, 0, 0), (.iaload, 0, 0, 0), (.iastore, 0, 0, 0), (.aload_n 0, 0, 0, 0), (.getfield 18, 0, 3, 3), (.iconst 1, 0, 0, 0), (.aload_n 1, 0, 0, 0), (.getfield 63, 0, 4, 2), (.iconst 1, 0, 0, 0), (.iaload, 0, 0, 0), (.iastore, 0, 0, 0), (.iconst 0, 0, 0, 0), (.istore_n 2, 0, 0, 0)] (by decide +kernel) ⟨⟨kf_3_9, Or.inl rfl⟩, ⟨⟨kf_3_15, Or.inl rfl⟩, ⟨kf_3_18, ⟨kf_3_63, ⟨kf_3_18, ⟨kf_3_63, trivial⟩⟩⟩⟩⟩⟩ rfl (And.intro (kk_ok c1) (And.intro (kk_ok c1) (And.intro (kk_ok c1) (Exists.intro a3 (And.intro ha3 (And.intro (kk_ok c4) (Exists.intro a5 (And.intro ha5 (And.intro (kk_ok c6) (And.intro (ib_ok c7) (And.intro (kk_ok c8) (And.intro (ib_ok c9) (And.intro (kk_ok c1) (Exists.intro a10 (And.intro ha10 (And.intro (kk_ok c4) (Exists.intro a11 (And.intro ha11 (And.intro (kk_ok c12) (And.intro (ib_ok c13) (And.intro (kk_ok c14) (And.intro (ib_ok c15) (And.intro (Nat.le_of_ble_eq_true rfl) (?_))))))))))))))))))))))))
  show Ev l d mi_X3_begin 41 [some (.ref o), some (.ref p0), some (.int (Int32.ofInt 0))] [] (hp (uI (uI (uI (uI (uR s o 0 p0) o 1 (Int32.ofInt 0)) o 2 (Int32.ofInt 0)) a3 (Int32.ofInt 0).toNatClampNeg ((uI (uI (uR s o 0 p0) o 1 (Int32.ofInt 0)) o 2 (Int32.ofInt 0)).1 a5 (Int32.ofInt 0).toNatClampNeg)) a10 (Int32.ofInt 1).toNatClampNeg ((uI (uI (uI (uR s o 0 p0) o 1 (Int32.ofInt 0)) o 2 (Int32.ofInt 0)) a3 (Int32.ofInt 0).toNatClampNeg ((uI (uI (uR s o 0 p0) o 1 (Int32.ofInt 0)) o 2 (Int32.ofInt 0)).1 a5 (Int32.ofInt 0).toNatClampNeg)).1 a11 (Int32.ofInt 1).toNatClampNeg))) 0 0 _
  rw [← hs16]
  exact (e_X3_begin_L41 hd f_X3_begin_j67 (e_X3_begin_j67 hd) fuel) o p0 (Int32.ofInt 0) s16 _ hf
def f_X3_copy (o : Nat) (p0 : Nat) (s : ST) : Option (ST) := gd (kk p0 3) ((RR s.2.2 p0 0).bind (fun a2 => gd (kk o 3) (gd (dy o 0) ((RR (uI (uI (uR s o 0 a2) o 1 ((uR s o 0 a2).1 p0 1)) o 2 ((uI (uR s o 0 a2) o 1 ((uR s o 0 a2).1 p0 1)).1 p0 2)).2.2 o 3).bind (fun a5 => (RR (uI (uI (uR s o 0 a2) o 1 ((uR s o 0 a2).1 p0 1)) o 2 ((uI (uR s o 0 a2) o 1 ((uR s o 0 a2).1 p0 1)).1 p0 2)).2.2 p0 3).bind (fun a6 => gd (kk a6 13) (gd (ib (Int32.ofInt 0) (K0 a6).2) (gd (kk a5 13) (gd (ib (Int32.ofInt 0) (K0 a5).2) ((RR (uI (uI (uI (uR s o 0 a2) o 1 ((uR s o 0 a2).1 p0 1)) o 2 ((uI (uR s o 0 a2) o 1 ((uR s o 0 a2).1 p0 1)).1 p0 2)) a5 (Int32.ofInt 0).toNatClampNeg ((uI (uI (uR s o 0 a2) o 1 ((uR s o 0 a2).1 p0 1)) o 2 ((uI (uR s o 0 a2) o 1 ((uR s o 0 a2).1 p0 1)).1 p0 2)).1 a6 (Int32.ofInt 0).toNatClampNeg)).2.2 o 3).bind (fun a11 => (RR (uI (uI (uI (uR s o 0 a2) o 1 ((uR s o 0 a2).1 p0 1)) o 2 ((uI (uR s o 0 a2) o 1 ((uR s o 0 a2).1 p0 1)).1 p0 2)) a5 (Int32.ofInt 0).toNatClampNeg ((uI (uI (uR s o 0 a2) o 1 ((uR s o 0 a2).1 p0 1)) o 2 ((uI (uR s o 0 a2) o 1 ((uR s o 0 a2).1 p0 1)).1 p0 2)).1 a6 (Int32.ofInt 0).toNatClampNeg)).2.2 p0 3).bind (fun a12 => gd (kk a12 13) (gd (ib (Int32.ofInt 1) (K0 a12).2) (gd (kk a11 13) (gd (ib (Int32.ofInt 1) (K0 a11).2) ((RR (uI (uI (uI (uI (uR s o 0 a2) o 1 ((uR s o 0 a2).1 p0 1)) o 2 ((uI (uR s o 0 a2) o 1 ((uR s o 0 a2).1 p0 1)).1 p0 2)) a5 (Int32.ofInt 0).toNatClampNeg ((uI (uI (uR s o 0 a2) o 1 ((uR s o 0 a2).1 p0 1)) o 2 ((uI (uR s o 0 a2) o 1 ((uR s o 0 a2).1 p0 1)).1 p0 2)).1 a6 (Int32.ofInt 0).toNatClampNeg)) a11 (Int32.ofInt 1).toNatClampNeg ((uI (uI (uI (uR s o 0 a2) o 1 ((uR s o 0 a2).1 p0 1)) o 2 ((uI (uR s o 0 a2) o 1 ((uR s o 0 a2).1 p0 1)).1 p0 2)) a5 (Int32.ofInt 0).toNatClampNeg ((uI (uI (uR s o 0 a2) o 1 ((uR s o 0 a2).1 p0 1)) o 2 ((uI (uR s o 0 a2) o 1 ((uR s o 0 a2).1 p0 1)).1 p0 2)).1 a6 (Int32.ofInt 0).toNatClampNeg)).1 a12 (Int32.ofInt 1).toNatClampNeg)).2.2 p0 4).bind (fun a17 => (RR (uI (uI (uI (uI (uR s o 0 a2) o 1 ((uR s o 0 a2).1 p0 1)) o 2 ((uI (uR s o 0 a2) o 1 ((uR s o 0 a2).1 p0 1)).1 p0 2)) a5 (Int32.ofInt 0).toNatClampNeg ((uI (uI (uR s o 0 a2) o 1 ((uR s o 0 a2).1 p0 1)) o 2 ((uI (uR s o 0 a2) o 1 ((uR s o 0 a2).1 p0 1)).1 p0 2)).1 a6 (Int32.ofInt 0).toNatClampNeg)) a11 (Int32.ofInt 1).toNatClampNeg ((uI (uI (uI (uR s o 0 a2) o 1 ((uR s o 0 a2).1 p0 1)) o 2 ((uI (uR s o 0 a2) o 1 ((uR s o 0 a2).1 p0 1)).1 p0 2)) a5 (Int32.ofInt 0).toNatClampNeg ((uI (uI (uR s o 0 a2) o 1 ((uR s o 0 a2).1 p0 1)) o 2 ((uI (uR s o 0 a2) o 1 ((uR s o 0 a2).1 p0 1)).1 p0 2)).1 a6 (Int32.ofInt 0).toNatClampNeg)).1 a12 (Int32.ofInt 1).toNatClampNeg)).2.2 o 4).bind (fun a18 => lt (uI (uI (uI (uI (uR s o 0 a2) o 1 ((uR s o 0 a2).1 p0 1)) o 2 ((uI (uR s o 0 a2) o 1 ((uR s o 0 a2).1 p0 1)).1 p0 2)) a5 (Int32.ofInt 0).toNatClampNeg ((uI (uI (uR s o 0 a2) o 1 ((uR s o 0 a2).1 p0 1)) o 2 ((uI (uR s o 0 a2) o 1 ((uR s o 0 a2).1 p0 1)).1 p0 2)).1 a6 (Int32.ofInt 0).toNatClampNeg)) a11 (Int32.ofInt 1).toNatClampNeg ((uI (uI (uI (uR s o 0 a2) o 1 ((uR s o 0 a2).1 p0 1)) o 2 ((uI (uR s o 0 a2) o 1 ((uR s o 0 a2).1 p0 1)).1 p0 2)) a5 (Int32.ofInt 0).toNatClampNeg ((uI (uI (uR s o 0 a2) o 1 ((uR s o 0 a2).1 p0 1)) o 2 ((uI (uR s o 0 a2) o 1 ((uR s o 0 a2).1 p0 1)).1 p0 2)).1 a6 (Int32.ofInt 0).toNatClampNeg)).1 a12 (Int32.ofInt 1).toNatClampNeg)) (fun s19 => gd (kk a17 13) (gd (kk a18 13) (gd (cpk (Int32.ofInt 0) (Int32.ofInt 0) ((Int8.ofInt 8).toInt32) (K0 a17).2 (K0 a18).2) ((RR (cp s19 a17 a18 (Int32.ofInt 0).toNatClampNeg (Int32.ofInt 0).toNatClampNeg ((Int8.ofInt 8).toInt32).toNatClampNeg).2.2 p0 5).bind (fun a23 => (RR (cp s19 a17 a18 (Int32.ofInt 0).toNatClampNeg (Int32.ofInt 0).toNatClampNeg ((Int8.ofInt 8).toInt32).toNatClampNeg).2.2 o 5).bind (fun a24 => lt (cp s19 a17 a18 (Int32.ofInt 0).toNatClampNeg (Int32.ofInt 0).toNatClampNeg ((Int8.ofInt 8).toInt32).toNatClampNeg) (fun s25 => gd (kk a23 13) (gd (kk a24 13) (gd (cpk (Int32.ofInt 0) (Int32.ofInt 0) ((Int8.ofInt 6).toInt32) (K0 a23).2 (K0 a24).2) (lt (cp s25 a23 a24 (Int32.ofInt 0).toNatClampNeg (Int32.ofInt 0).toNatClampNeg ((Int8.ofInt 6).toInt32).toNatClampNeg) (fun s29 => (f_X3_settle o s29).bind (fun q30 => some q30))))))))))))))))))))))))))))))
set_option maxHeartbeats 2000000 in
set_option maxRecDepth 20000 in
theorem e_X3_copy {l : Launch} {d : Nat} (hd : 3 ≤ d) (o : Nat) (p0 : Nat) (s : ST) (r : ST) (hf : f_X3_copy o p0 s = some r) : Cl l d mi_X3_copy [.ref o, .ref p0] (hp s) (none, hp r) := by
  refine Ev.entry (by decide +kernel) rfl rfl ?_
  show Ev l d mi_X3_copy 0 [some (.ref o), some (.ref p0)] [] (hp s) 0 0 _
  unfold f_X3_copy at hf
  obtain ⟨c1, hf⟩ := gd_some hf
  obtain ⟨a2, ha2, hf⟩ := bd_some hf
  obtain ⟨c3, hf⟩ := gd_some hf
  obtain ⟨c4, hf⟩ := gd_some hf
  refine Ev.blk (pc' := 8) [(.aload_n 0, 0, 0, 0), (.aload_n 1, 0, 0, 0), (.getfield 56, 0, 3, 0), (.putfield 56, 0, 3, 0)] (by decide +kernel) ⟨kf_3_56, ⟨⟨kf_3_56, Or.inl rfl⟩, trivial⟩⟩ rfl (And.intro (kk_ok c1) (Exists.intro a2 (And.intro ha2 (And.intro (kk_ok c3) (?_)))))
  show Ev l d mi_X3_copy 8 [some (.ref o), some (.ref p0)] [] (sm_R (hp s) o 0 (some a2)) 0 0 _
  rw [hp_R (dy_ok c4)]
  obtain ⟨a5, ha5, hf⟩ := bd_some hf
  obtain ⟨a6, ha6, hf⟩ := bd_some hf
  obtain ⟨c7, hf⟩ := gd_some hf
  obtain ⟨c8, hf⟩ := gd_some hf
  obtain ⟨c9, hf⟩ := gd_some hf
  obtain ⟨c10, hf⟩ := gd_some hf
  obtain ⟨a11, ha11, hf⟩ := bd_some hf
  obtain ⟨a12, ha12, hf⟩ := bd_some hf
  obtain ⟨c13, hf⟩ := gd_some hf
  obtain ⟨c14, hf⟩ := gd_some hf
  obtain ⟨c15, hf⟩ := gd_some hf
  obtain ⟨c16, hf⟩ := gd_some hf
  obtain ⟨a17, ha17, hf⟩ := bd_some hf
  obtain ⟨a18, ha18, hf⟩ := bd_some hf
  obtain ⟨s19, hs19, hf⟩ := lt_some hf
  refine Ev.blk (pc' := 58) [(.aload_n 0, 0, 0, 0), (.aload_n 1, 0, 0, 0), (.getfield 9, 0, 3, 1), (.putfield 9, 0, 3, 1), (.aload_n 0, 0, 0, 0), (.aload_n 1, 0, 0, 0), (.getfield 15, 0, 3, 2), (.putfield 15, 0, 3, 2), (.aload_n 0, 0, 0, 0), (.getfield 18, 0, 3, 3), (.iconst 0, 0, 0, 0), (.aload_n 1, 0, 0, 0), (.getfield 18, 0, 3, 3), (.iconst 0, 0, 0, 0), (.iaload, 0, 0, 0), (.iastore, 0, 0, 0), (.aload_n 0, 0, 0, 0), (.getfield 18, 0, 3, 3), (.iconst 1, 0, 0, 0), (.aload_n 1, 0, 0, 0), (.getfield 18, 0, 3, 3), (.iconst 1, 0, 0, 0), (.iaload, 0, 0, 0), (.iastore, 0, 0, 0), (.aload_n 1, 0, 0, 0), (.getfield 22, 0, 3, 4), (.iconst 0, 0, 0, 0), (.aload_n 0, 0, 0, 0), (.getfield 22, 0, 3, 4), (.iconst 0, 0, 0, 0)] (by decide +kernel) ⟨kf_3_9, ⟨⟨kf_3_9, Or.inl rfl⟩, ⟨kf_3_15, ⟨⟨kf_3_15, Or.inl rfl⟩, ⟨kf_3_18, ⟨kf_3_18, ⟨kf_3_18, ⟨kf_3_18, ⟨kf_3_22, ⟨kf_3_22, trivial⟩⟩⟩⟩⟩⟩⟩⟩⟩⟩ rfl (And.intro (kk_ok c1) (And.intro (kk_ok c3) (And.intro (kk_ok c1) (And.intro (kk_ok c3) (And.intro (kk_ok c3) (Exists.intro a5 (And.intro ha5 (And.intro (kk_ok c1) (Exists.intro a6 (And.intro ha6 (And.intro (kk_ok c7) (And.intro (ib_ok c8) (And.intro (kk_ok c9) (And.intro (ib_ok c10) (And.intro (kk_ok c3) (Exists.intro a11 (And.intro ha11 (And.intro (kk_ok c1) (Exists.intro a12 (And.intro ha12 (And.intro (kk_ok c13) (And.intro (ib_ok c14) (And.intro (kk_ok c15) (And.intro (ib_ok c16) (And.intro (kk_ok c1) (Exists.intro a17 (And.intro ha17 (And.intro (kk_ok c3) (Exists.intro a18 (And.intro ha18 (?_)))))))))))))))))))))))))))))))
  show Ev l d mi_X3_copy 58 [some (.ref o), some (.ref p0)] [.int (Int32.ofInt 0), .ref a18, .int (Int32.ofInt 0), .ref a17] (hp (uI (uI (uI (uI (uR s o 0 a2) o 1 ((uR s o 0 a2).1 p0 1)) o 2 ((uI (uR s o 0 a2) o 1 ((uR s o 0 a2).1 p0 1)).1 p0 2)) a5 (Int32.ofInt 0).toNatClampNeg ((uI (uI (uR s o 0 a2) o 1 ((uR s o 0 a2).1 p0 1)) o 2 ((uI (uR s o 0 a2) o 1 ((uR s o 0 a2).1 p0 1)).1 p0 2)).1 a6 (Int32.ofInt 0).toNatClampNeg)) a11 (Int32.ofInt 1).toNatClampNeg ((uI (uI (uI (uR s o 0 a2) o 1 ((uR s o 0 a2).1 p0 1)) o 2 ((uI (uR s o 0 a2) o 1 ((uR s o 0 a2).1 p0 1)).1 p0 2)) a5 (Int32.ofInt 0).toNatClampNeg ((uI (uI (uR s o 0 a2) o 1 ((uR s o 0 a2).1 p0 1)) o 2 ((uI (uR s o 0 a2) o 1 ((uR s o 0 a2).1 p0 1)).1 p0 2)).1 a6 (Int32.ofInt 0).toNatClampNeg)).1 a12 (Int32.ofInt 1).toNatClampNeg))) 0 0 _
  rw [← hs19]
  refine Ev.blk (pc' := 60) [(.bipush 8, 0, 0, 0)] (by decide +kernel) trivial rfl (?_)
  show Ev l d mi_X3_copy 60 [some (.ref o), some (.ref p0)] [.int ((Int8.ofInt 8).toInt32), .int (Int32.ofInt 0), .ref a18, .int (Int32.ofInt 0), .ref a17] (hp s19) 0 0 _
  obtain ⟨c20, hf⟩ := gd_some hf
  obtain ⟨c21, hf⟩ := gd_some hf
  obtain ⟨c22, hf⟩ := gd_some hf
  refine Ev.arraycopy ky_3_78 wac1 wac2 wac3 (kk_ok c20) (kk_ok c21) (cp_1 c22) (cp_2 c22) (cp_3 c22) (cp_4 c22) (cp_5 c22) (by omega) (Nat.le_of_ble_eq_true rfl) (by decide +kernel) ?_
  show Ev l d mi_X3_copy 63 [some (.ref o), some (.ref p0)] [] (hp (cp s19 a17 a18 (Int32.ofInt 0).toNatClampNeg (Int32.ofInt 0).toNatClampNeg ((Int8.ofInt 8).toInt32).toNatClampNeg)) 0 0 _
  obtain ⟨a23, ha23, hf⟩ := bd_some hf
  obtain ⟨a24, ha24, hf⟩ := bd_some hf
  obtain ⟨s25, hs25, hf⟩ := lt_some hf
  refine Ev.blk (pc' := 75) [(.aload_n 1, 0, 0, 0), (.getfield 25, 0, 3, 5), (.iconst 0, 0, 0, 0), (.aload_n 0, 0, 0, 0), (.getfield 25, 0, 3, 5), (.iconst 0, 0, 0, 0), (.bipush 6, 0, 0, 0)] (by decide +kernel) ⟨kf_3_25, ⟨kf_3_25, trivial⟩⟩ rfl (And.intro (kk_ok c1) (Exists.intro a23 (And.intro ha23 (And.intro (kk_ok c3) (Exists.intro a24 (And.intro ha24 (?_)))))))
  show Ev l d mi_X3_copy 75 [some (.ref o), some (.ref p0)] [.int ((Int8.ofInt 6).toInt32), .int (Int32.ofInt 0), .ref a24, .int (Int32.ofInt 0), .ref a23] (hp (cp s19 a17 a18 (Int32.ofInt 0).toNatClampNeg (Int32.ofInt 0).toNatClampNeg ((Int8.ofInt 8).toInt32).toNatClampNeg)) 0 0 _
  rw [← hs25]
  obtain ⟨c26, hf⟩ := gd_some hf
  obtain ⟨c27, hf⟩ := gd_some hf
  obtain ⟨c28, hf⟩ := gd_some hf
  refine Ev.arraycopy ky_3_78 wac1 wac2 wac3 (kk_ok c26) (kk_ok c27) (cp_1 c28) (cp_2 c28) (cp_3 c28) (cp_4 c28) (cp_5 c28) (by omega) (Nat.le_of_ble_eq_true rfl) (by decide +kernel) ?_
  show Ev l d mi_X3_copy 78 [some (.ref o), some (.ref p0)] [] (hp (cp s25 a23 a24 (Int32.ofInt 0).toNatClampNeg (Int32.ofInt 0).toNatClampNeg ((Int8.ofInt 6).toInt32).toNatClampNeg)) 0 0 _
  obtain ⟨s29, hs29, hf⟩ := lt_some hf
  refine Ev.blk (pc' := 79) [(.aload_n 0, 0, 0, 0)] (by decide +kernel) trivial rfl (?_)
  show Ev l d mi_X3_copy 79 [some (.ref o), some (.ref p0)] [.ref o] (hp (cp s25 a23 a24 (Int32.ofInt 0).toNatClampNeg (Int32.ofInt 0).toNatClampNeg ((Int8.ofInt 6).toInt32).toNatClampNeg)) 0 0 _
  rw [← hs29]
  obtain ⟨q30, hq30, hf⟩ := bd_some hf
  refine Ev.callV (o := o) (M' := mi_X3_settle) (d' := d - 1) (As := []) (rest := []) (r' := (none, hp q30)) (e_X3_settle (d := d - 1) (by omega) o s29 _ hq30) (by omega) wm_X3_settle wi_X3_settle wv_X3_settle km_3_60 (kk_ok c3) (Nat.le_of_ble_eq_true rfl) rfl rfl rfl (Nat.le_of_ble_eq_true rfl) ⟨Nat.le_of_ble_eq_true rfl, Nat.le_of_ble_eq_true rfl⟩ (by decide +kernel) ?_
  show Ev l d mi_X3_copy 82 [some (.ref o), some (.ref p0)] [] (hp q30) 0 0 _
  cases hf
  exact Ev.vret rfl (by decide +kernel) (Nat.le_refl _) (Nat.le_refl _)
def f_X3_isOut (o : Nat) (p0 : Int32) (p1 : Int32) (s : ST) : Option (Int32 × ST) := gd (kk o 3) ((RR s.2.2 o 0).bind (fun a2 => gd (kk a2 4) ((RR s.2.2 a2 10).bind (fun a4 => gd (kk a4 13) (gd (ib p0 (K0 a4).2) ((if (s.1 a4 p0.toNatClampNeg) = p1 then (RR s.2.2 o 4).bind (fun a8 => gd (kk a8 13) (gd (ib p0 (K0 a8).2) ((if (s.1 a8 p0.toNatClampNeg) < 0 then some ((Int32.ofInt 0), s) else some ((Int32.ofInt 1), s))))) else some ((Int32.ofInt 0), s))))))))
set_option maxHeartbeats 2000000 in
set_option maxRecDepth 20000 in
theorem e_X3_isOut {l : Launch} {d : Nat} (hd : 1 ≤ d) (o : Nat) (p0 : Int32) (p1 : Int32) (s : ST) (r : Int32 × ST) (hf : f_X3_isOut o p0 p1 s = some r) : Cl l d mi_X3_isOut [.ref o, .int p0, .int p1] (hp s) (some (.int r.1), hp r.2) := by
  refine Ev.entry (by decide +kernel) rfl rfl ?_
  show Ev l d mi_X3_isOut 0 [some (.ref o), some (.int p0), some (.int p1)] [] (hp s) 0 0 _
  unfold f_X3_isOut at hf
  obtain ⟨c1, hf⟩ := gd_some hf
  obtain ⟨a2, ha2, hf⟩ := bd_some hf
  obtain ⟨c3, hf⟩ := gd_some hf
  obtain ⟨a4, ha4, hf⟩ := bd_some hf
  obtain ⟨c5, hf⟩ := gd_some hf
  obtain ⟨c6, hf⟩ := gd_some hf
  refine Ev.blk (pc' := 10) [(.aload_n 0, 0, 0, 0), (.getfield 56, 0, 3, 0), (.getfield 106, 0, 4, 10), (.iload_n 1, 0, 0, 0), (.iaload, 0, 0, 0), (.iload_n 2, 0, 0, 0)] (by decide +kernel) ⟨kf_3_56, ⟨kf_3_106, trivial⟩⟩ rfl (And.intro (kk_ok c1) (Exists.intro a2 (And.intro ha2 (And.intro (kk_ok c3) (Exists.intro a4 (And.intro ha4 (And.intro (kk_ok c5) (And.intro (ib_ok c6) (?_)))))))))
  show Ev l d mi_X3_isOut 10 [some (.ref o), some (.int p0), some (.int p1)] [.int p1, .int (s.1 a4 p0.toNatClampNeg)] (hp s) 0 0 _
  refine Ev.icmp_ne (off := 16) (tgt := 26) (by decide +kernel) (by decide) (fun b7 => ?_) (fun b7 => ?_)
  · have hf := (if_neg b7).symm.trans hf
    refine Ev.blk (pc' := 27) [(.iconst 0, 0, 0, 0)] (by decide +kernel) trivial rfl (?_)
    show Ev l d mi_X3_isOut 27 [some (.ref o), some (.int p0), some (.int p1)] [.int (Int32.ofInt 0)] (hp s) 0 0 _
    cases hf
    exact Ev.iret .boolean rfl rfl (by decide +kernel) (Nat.le_refl _) (Nat.le_refl _)
  · have hf := (if_pos b7).symm.trans hf
    obtain ⟨a8, ha8, hf⟩ := bd_some hf
    obtain ⟨c9, hf⟩ := gd_some hf
    obtain ⟨c10, hf⟩ := gd_some hf
    refine Ev.blk (pc' := 19) [(.aload_n 0, 0, 0, 0), (.getfield 22, 0, 3, 4), (.iload_n 1, 0, 0, 0), (.iaload, 0, 0, 0)] (by decide +kernel) ⟨kf_3_22, trivial⟩ rfl (And.intro (kk_ok c1) (Exists.intro a8 (And.intro ha8 (And.intro (kk_ok c9) (And.intro (ib_ok c10) (?_))))))
    show Ev l d mi_X3_isOut 19 [some (.ref o), some (.int p0), some (.int p1)] [.int (s.1 a8 p0.toNatClampNeg)] (hp s) 0 0 _
    refine Ev.if_lt (off := 7) (tgt := 26) (by decide +kernel) (by decide) (fun b11 => ?_) (fun b11 => ?_)
    · have hf := (if_pos b11).symm.trans hf
      refine Ev.blk (pc' := 27) [(.iconst 0, 0, 0, 0)] (by decide +kernel) trivial rfl (?_)
      show Ev l d mi_X3_isOut 27 [some (.ref o), some (.int p0), some (.int p1)] [.int (Int32.ofInt 0)] (hp s) 0 0 _
      cases hf
      exact Ev.iret .boolean rfl rfl (by decide +kernel) (Nat.le_refl _) (Nat.le_refl _)
    · have hf := (if_neg b11).symm.trans hf
      refine Ev.blk (pc' := 23) [(.iconst 1, 0, 0, 0)] (by decide +kernel) trivial rfl (?_)
      show Ev l d mi_X3_isOut 23 [some (.ref o), some (.int p0), some (.int p1)] [.int (Int32.ofInt 1)] (hp s) 0 0 _
      refine Ev.goto (off := 4) (tgt := 27) (by decide +kernel) (by decide) ?_
      cases hf
      exact Ev.iret .boolean rfl rfl (by decide +kernel) (Nat.le_refl _) (Nat.le_refl _)
def f_X3_menOf_L4 : Nat → Nat → Int32 → Int32 → Int32 → ST → Option (Int32 × ST)
  | 0, _, _, _, _, _ => none
  | n + 1, x0, x1, x2, x3, s => gd (kk x0 3) ((RR s.2.2 x0 0).bind (fun a2 => gd (kk a2 4) ((if (s.1 a2 8) ≤ x3 then some (x2, s) else (f_X3_isOut x0 x3 x1 s).bind (fun q5 => (if q5.1 = 0 then (f_X3_menOf_L4 n) x0 x1 x2 (x3 + Int32.ofInt 1) q5.2 else (f_X3_menOf_L4 n) x0 x1 (x2 + Int32.ofInt 1) (x3 + Int32.ofInt 1) q5.2))))))
set_option maxHeartbeats 2000000 in
set_option maxRecDepth 20000 in
theorem e_X3_menOf_L4 {l : Launch} {d : Nat} (hd : 2 ≤ d) : ∀ (n : Nat) (x0 : Nat) (x1 : Int32) (x2 : Int32) (x3 : Int32) (s : ST) (r : Int32 × ST), f_X3_menOf_L4 n x0 x1 x2 x3 s = some r → Ev l d mi_X3_menOf 4 [some (.ref x0), some (.int x1), some (.int x2), some (.int x3)] [] (hp s) 0 0 (some (.int r.1), hp r.2) := by
  intro n
  induction n with
  | zero =>
    intro x0 x1 x2 x3 s r hf
    cases hf
  | succ n ih =>
    intro x0 x1 x2 x3 s r hf
    unfold f_X3_menOf_L4 at hf
    obtain ⟨c1, hf⟩ := gd_some hf
    obtain ⟨a2, ha2, hf⟩ := bd_some hf
    obtain ⟨c3, hf⟩ := gd_some hf
    refine Ev.blk (pc' := 12) [(.iload_n 3, 0, 0, 0), (.aload_n 0, 0, 0, 0), (.getfield 56, 0, 3, 0), (.getfield 66, 0, 4, 8)] (by decide +kernel) ⟨kf_3_56, ⟨kf_3_66, trivial⟩⟩ rfl (And.intro (kk_ok c1) (Exists.intro a2 (And.intro ha2 (And.intro (kk_ok c3) (?_)))))
    show Ev l d mi_X3_menOf 12 [some (.ref x0), some (.int x1), some (.int x2), some (.int x3)] [.int (s.1 a2 8), .int x3] (hp s) 0 0 _
    refine Ev.icmp_ge (off := 21) (tgt := 33) (by decide +kernel) (by decide) (fun b4 => ?_) (fun b4 => ?_)
    · have hf := (if_pos b4).symm.trans hf
      refine Ev.blk (pc' := 34) [(.iload_n 2, 0, 0, 0)] (by decide +kernel) trivial rfl (?_)
      show Ev l d mi_X3_menOf 34 [some (.ref x0), some (.int x1), some (.int x2), some (.int x3)] [.int x2] (hp s) 0 0 _
      cases hf
      exact Ev.iret .int rfl rfl (by decide +kernel) (Nat.le_refl _) (Nat.le_refl _)
    · have hf := (if_neg b4).symm.trans hf
      refine Ev.blk (pc' := 18) [(.aload_n 0, 0, 0, 0), (.iload_n 3, 0, 0, 0), (.iload_n 1, 0, 0, 0)] (by decide +kernel) trivial rfl (?_)
      show Ev l d mi_X3_menOf 18 [some (.ref x0), some (.int x1), some (.int x2), some (.int x3)] [.int x1, .int x3, .ref x0] (hp s) 0 0 _
      obtain ⟨q5, hq5, hf⟩ := bd_some hf
      refine Ev.callV (o := x0) (M' := mi_X3_isOut) (d' := d - 1) (As := [.int x3, .int x1]) (rest := []) (r' := (some (.int q5.1), hp q5.2)) (e_X3_isOut (d := d - 1) (by omega) x0 x3 x1 s _ hq5) (by omega) wm_X3_isOut wi_X3_isOut wv_X3_isOut km_3_102 (kk_ok c1) (Nat.le_of_ble_eq_true rfl) rfl rfl rfl (Nat.le_of_ble_eq_true rfl) ⟨Nat.le_of_ble_eq_true rfl, Nat.le_of_ble_eq_true rfl⟩ (by decide +kernel) ?_
      show Ev l d mi_X3_menOf 21 [some (.ref x0), some (.int x1), some (.int x2), some (.int x3)] [.int q5.1] (hp q5.2) 0 0 _
      refine Ev.if_eq (off := 6) (tgt := 27) (by decide +kernel) (by decide) (fun b6 => ?_) (fun b6 => ?_)
      · have hf := (if_pos b6).symm.trans hf
        refine Ev.blk (pc' := 30) [(.iinc 3 1, 0, 0, 0)] (by decide +kernel) trivial rfl (And.intro (Nat.le_of_ble_eq_true rfl) (?_))
        show Ev l d mi_X3_menOf 30 [some (.ref x0), some (.int x1), some (.int x2), some (.int (x3 + Int32.ofInt 1))] [] (hp q5.2) 0 0 _
        refine Ev.goto (off := -26) (tgt := 4) (by decide +kernel) (by decide) ?_
        exact ih x0 x1 x2 (x3 + Int32.ofInt 1) q5.2 _ hf
      · have hf := (if_neg b6).symm.trans hf
        refine Ev.blk (pc' := 30) [(.iinc 2 1, 0, 0, 0), (.iinc 3 1, 0, 0, 0)] (by decide +kernel) trivial rfl (And.intro (Nat.le_of_ble_eq_true rfl) (And.intro (Nat.le_of_ble_eq_true rfl) (?_)))
        show Ev l d mi_X3_menOf 30 [some (.ref x0), some (.int x1), some (.int (x2 + Int32.ofInt 1)), some (.int (x3 + Int32.ofInt 1))] [] (hp q5.2) 0 0 _
        refine Ev.goto (off := -26) (tgt := 4) (by decide +kernel) (by decide) ?_
        exact ih x0 x1 (x2 + Int32.ofInt 1) (x3 + Int32.ofInt 1) q5.2 _ hf
def f_X3_menOf (o : Nat) (p0 : Int32) (s : ST) : Option (Int32 × ST) := (f_X3_menOf_L4 fuel) o p0 (Int32.ofInt 0) (Int32.ofInt 0) s
set_option maxHeartbeats 2000000 in
set_option maxRecDepth 20000 in
theorem e_X3_menOf {l : Launch} {d : Nat} (hd : 2 ≤ d) (o : Nat) (p0 : Int32) (s : ST) (r : Int32 × ST) (hf : f_X3_menOf o p0 s = some r) : Cl l d mi_X3_menOf [.ref o, .int p0] (hp s) (some (.int r.1), hp r.2) := by
  refine Ev.entry (by decide +kernel) rfl rfl ?_
  show Ev l d mi_X3_menOf 0 [some (.ref o), some (.int p0), none, none] [] (hp s) 0 0 _
  unfold f_X3_menOf at hf
  refine Ev.blk (pc' := 4) [(.iconst 0, 0, 0, 0), (.istore_n 2, 0, 0, 0), (.iconst 0, 0, 0, 0), (.istore_n 3, 0, 0, 0)] (by decide +kernel) trivial rfl (And.intro (Nat.le_of_ble_eq_true rfl) (And.intro (Nat.le_of_ble_eq_true rfl) (?_)))
  show Ev l d mi_X3_menOf 4 [some (.ref o), some (.int p0), some (.int (Int32.ofInt 0)), some (.int (Int32.ofInt 0))] [] (hp s) 0 0 _
  exact (e_X3_menOf_L4 hd fuel) o p0 (Int32.ofInt 0) (Int32.ofInt 0) s _ hf
def f_X3_borne_L4 : Nat → Nat → Int32 → Int32 → ST → Option (Int32 × ST)
  | 0, _, _, _, _ => none
  | n + 1, x0, x1, x2, s => gd (kk x0 3) ((RR s.2.2 x0 0).bind (fun a2 => gd (kk a2 4) ((if (s.1 a2 12) ≤ x2 then some (x1, s) else (RR s.2.2 x0 5).bind (fun a5 => gd (kk a5 13) (gd (ib x2 (K0 a5).2) ((f_X3_borne_L4 n) x0 (x1 + (s.1 a5 x2.toNatClampNeg)) (x2 + Int32.ofInt 1) s)))))))
set_option maxHeartbeats 2000000 in
set_option maxRecDepth 20000 in
theorem e_X3_borne_L4 {l : Launch} {d : Nat} (hd : 1 ≤ d) : ∀ (n : Nat) (x0 : Nat) (x1 : Int32) (x2 : Int32) (s : ST) (r : Int32 × ST), f_X3_borne_L4 n x0 x1 x2 s = some r → Ev l d mi_X3_borne 4 [some (.ref x0), some (.int x1), some (.int x2)] [] (hp s) 0 0 (some (.int r.1), hp r.2) := by
  intro n
  induction n with
  | zero =>
    intro x0 x1 x2 s r hf
    cases hf
  | succ n ih =>
    intro x0 x1 x2 s r hf
    unfold f_X3_borne_L4 at hf
    obtain ⟨c1, hf⟩ := gd_some hf
    obtain ⟨a2, ha2, hf⟩ := bd_some hf
    obtain ⟨c3, hf⟩ := gd_some hf
    refine Ev.blk (pc' := 12) [(.iload_n 2, 0, 0, 0), (.aload_n 0, 0, 0, 0), (.getfield 56, 0, 3, 0), (.getfield 72, 0, 4, 12)] (by decide +kernel) ⟨kf_3_56, ⟨kf_3_72, trivial⟩⟩ rfl (And.intro (kk_ok c1) (Exists.intro a2 (And.intro ha2 (And.intro (kk_ok c3) (?_)))))
    show Ev l d mi_X3_borne 12 [some (.ref x0), some (.int x1), some (.int x2)] [.int (s.1 a2 12), .int x2] (hp s) 0 0 _
    refine Ev.icmp_ge (off := 18) (tgt := 30) (by decide +kernel) (by decide) (fun b4 => ?_) (fun b4 => ?_)
    · have hf := (if_pos b4).symm.trans hf
      refine Ev.blk (pc' := 31) [(.iload_n 1, 0, 0, 0)] (by decide +kernel) trivial rfl (?_)
      show Ev l d mi_X3_borne 31 [some (.ref x0), some (.int x1), some (.int x2)] [.int x1] (hp s) 0 0 _
      cases hf
      exact Ev.iret .int rfl rfl (by decide +kernel) (Nat.le_refl _) (Nat.le_refl _)
    · have hf := (if_neg b4).symm.trans hf
      obtain ⟨a5, ha5, hf⟩ := bd_some hf
      obtain ⟨c6, hf⟩ := gd_some hf
      obtain ⟨c7, hf⟩ := gd_some hf
      refine Ev.blk (pc' := 27) [(.iload_n 1, 0, 0, 0), (.aload_n 0, 0, 0, 0), (.getfield 25, 0, 3, 5), (.iload_n 2, 0, 0, 0), (.iaload, 0, 0, 0), (.iadd, 0, 0, 0), (.istore_n 1, 0, 0, 0), (.iinc 2 1, 0, 0, 0)] (by decide +kernel) ⟨kf_3_25, trivial⟩ rfl (And.intro (kk_ok c1) (Exists.intro a5 (And.intro ha5 (And.intro (kk_ok c6) (And.intro (ib_ok c7) (And.intro (Nat.le_of_ble_eq_true rfl) (And.intro (Nat.le_of_ble_eq_true rfl) (?_))))))))
      show Ev l d mi_X3_borne 27 [some (.ref x0), some (.int (x1 + (s.1 a5 x2.toNatClampNeg))), some (.int (x2 + Int32.ofInt 1))] [] (hp s) 0 0 _
      refine Ev.goto (off := -23) (tgt := 4) (by decide +kernel) (by decide) ?_
      exact ih x0 (x1 + (s.1 a5 x2.toNatClampNeg)) (x2 + Int32.ofInt 1) s _ hf
def f_X3_borne (o : Nat) (s : ST) : Option (Int32 × ST) := (f_X3_borne_L4 fuel) o (Int32.ofInt 0) (Int32.ofInt 0) s
set_option maxHeartbeats 2000000 in
set_option maxRecDepth 20000 in
theorem e_X3_borne {l : Launch} {d : Nat} (hd : 1 ≤ d) (o : Nat) (s : ST) (r : Int32 × ST) (hf : f_X3_borne o s = some r) : Cl l d mi_X3_borne [.ref o] (hp s) (some (.int r.1), hp r.2) := by
  refine Ev.entry (by decide +kernel) rfl rfl ?_
  show Ev l d mi_X3_borne 0 [some (.ref o), none, none] [] (hp s) 0 0 _
  unfold f_X3_borne at hf
  refine Ev.blk (pc' := 4) [(.iconst 0, 0, 0, 0), (.istore_n 1, 0, 0, 0), (.iconst 0, 0, 0, 0), (.istore_n 2, 0, 0, 0)] (by decide +kernel) trivial rfl (And.intro (Nat.le_of_ble_eq_true rfl) (And.intro (Nat.le_of_ble_eq_true rfl) (?_)))
  show Ev l d mi_X3_borne 4 [some (.ref o), some (.int (Int32.ofInt 0)), some (.int (Int32.ofInt 0))] [] (hp s) 0 0 _
  exact (e_X3_borne_L4 hd fuel) o (Int32.ofInt 0) (Int32.ofInt 0) s _ hf
def f_X3_balanceOf (o : Nat) (p0 : Int32) (s : ST) : Option (Int32 × ST) := (if p0 = 0 then gd (kk o 3) (some ((s.1 o 8), s)) else gd (kk o 3) (some ((-(s.1 o 8)), s)))
set_option maxHeartbeats 2000000 in
set_option maxRecDepth 20000 in
theorem e_X3_balanceOf {l : Launch} {d : Nat} (hd : 1 ≤ d) (o : Nat) (p0 : Int32) (s : ST) (r : Int32 × ST) (hf : f_X3_balanceOf o p0 s = some r) : Cl l d mi_X3_balanceOf [.ref o, .int p0] (hp s) (some (.int r.1), hp r.2) := by
  refine Ev.entry (by decide +kernel) rfl rfl ?_
  show Ev l d mi_X3_balanceOf 0 [some (.ref o), some (.int p0)] [] (hp s) 0 0 _
  unfold f_X3_balanceOf at hf
  refine Ev.blk (pc' := 1) [(.iload_n 1, 0, 0, 0)] (by decide +kernel) trivial rfl (?_)
  show Ev l d mi_X3_balanceOf 1 [some (.ref o), some (.int p0)] [.int p0] (hp s) 0 0 _
  refine Ev.if_ne (off := 10) (tgt := 11) (by decide +kernel) (by decide) (fun b1 => ?_) (fun b1 => ?_)
  · have hf := (if_neg b1).symm.trans hf
    obtain ⟨c2, hf⟩ := gd_some hf
    refine Ev.blk (pc' := 16) [(.aload_n 0, 0, 0, 0), (.getfield 34, 0, 3, 8), (.ineg, 0, 0, 0)] (by decide +kernel) ⟨kf_3_34, trivial⟩ rfl (And.intro (kk_ok c2) (?_))
    show Ev l d mi_X3_balanceOf 16 [some (.ref o), some (.int p0)] [.int (-(s.1 o 8))] (hp s) 0 0 _
    cases hf
    exact Ev.iret .int rfl rfl (by decide +kernel) (Nat.le_refl _) (Nat.le_refl _)
  · have hf := (if_pos b1).symm.trans hf
    obtain ⟨c3, hf⟩ := gd_some hf
    refine Ev.blk (pc' := 8) [(.aload_n 0, 0, 0, 0), (.getfield 34, 0, 3, 8)] (by decide +kernel) ⟨kf_3_34, trivial⟩ rfl (And.intro (kk_ok c3) (?_))
    show Ev l d mi_X3_balanceOf 8 [some (.ref o), some (.int p0)] [.int (s.1 o 8)] (hp s) 0 0 _
    refine Ev.goto (off := 8) (tgt := 16) (by decide +kernel) (by decide) ?_
    cases hf
    exact Ev.iret .int rfl rfl (by decide +kernel) (Nat.le_refl _) (Nat.le_refl _)
def f_X3_along_L36 : Nat → Nat → Int32 → Int32 → Int32 → Int32 → Int32 → Int32 → Int32 → Int32 → ST → Option (Int32 × ST)
  | 0, _, _, _, _, _, _, _, _, _, _ => none
  | n + 1, x0, x2, x3, x5, x6, x7, x8, x9, x10, s => (if x3 ≤ x10 then some (x9, s) else gd (ib x2 16) (gd (ib x2 16) ((if (x7 + ((sm_sv 0).getD x2.toNatClampNeg 0)) < 0 then some (x9, s) else gd (kk x0 3) ((RR s.2.2 x0 0).bind (fun a13 => gd (kk a13 4) ((if (s.1 a13 0) ≤ (x7 + ((sm_sv 0).getD x2.toNatClampNeg 0)) then some (x9, s) else (if (x8 + ((sm_sv 1).getD x2.toNatClampNeg 0)) < 0 then some (x9, s) else (RR s.2.2 x0 0).bind (fun a17 => gd (kk a17 4) ((if (x8 + ((sm_sv 1).getD x2.toNatClampNeg 0)) < (s.1 a17 1) then lt ((Int32.ofInt 1) <<< ((((x8 + ((sm_sv 1).getD x2.toNatClampNeg 0)) * (Int32.ofInt 5)) + (x7 + ((sm_sv 0).getD x2.toNatClampNeg 0))) &&& 31)) (fun v20 => lt (x5 &&& v20) (fun v21 => (if v21 = 0 then (if (x6 &&& v20) = 0 then (f_X3_along_L36 n) x0 x2 x3 x5 x6 (x7 + ((sm_sv 0).getD x2.toNatClampNeg 0)) (x8 + ((sm_sv 1).getD x2.toNatClampNeg 0)) (x9 ||| v20) (x10 + Int32.ofInt 1) s else some ((x9 ||| v20), s)) else some (x9, s)))) else some (x9, s)))))))))))))
set_option maxHeartbeats 2000000 in
set_option maxRecDepth 20000 in
theorem e_X3_along_L36 {l : Launch} {d : Nat} (hd : 1 ≤ d) : ∀ (n : Nat) (x0 : Nat) (x2 : Int32) (x3 : Int32) (x5 : Int32) (x6 : Int32) (x7 : Int32) (x8 : Int32) (x9 : Int32) (x10 : Int32) (s : ST) (r : Int32 × ST), f_X3_along_L36 n x0 x2 x3 x5 x6 x7 x8 x9 x10 s = some r → Ev l d mi_X3_along 36 [some (.ref x0), none, some (.int x2), some (.int x3), none, some (.int x5), some (.int x6), some (.int x7), some (.int x8), some (.int x9), some (.int x10), none] [] (hp s) 0 0 (some (.int r.1), hp r.2) := by
  intro n
  induction n with
  | zero =>
    intro x0 x2 x3 x5 x6 x7 x8 x9 x10 s r hf
    cases hf
  | succ n ih =>
    intro x0 x2 x3 x5 x6 x7 x8 x9 x10 s r hf
    unfold f_X3_along_L36 at hf
    refine Ev.blk (pc' := 39) [(.iload 10, 0, 0, 0), (.iload_n 3, 0, 0, 0)] (by decide +kernel) trivial rfl (?_)
    show Ev l d mi_X3_along 39 [some (.ref x0), none, some (.int x2), some (.int x3), none, some (.int x5), some (.int x6), some (.int x7), some (.int x8), some (.int x9), some (.int x10), none] [.int x3, .int x10] (hp s) 0 0 _
    refine Ev.icmp_ge (off := 106) (tgt := 145) (by decide +kernel) (by decide) (fun b8 => ?_) (fun b8 => ?_)
    · have hf := (if_pos b8).symm.trans hf
      refine Ev.blk (pc' := 147) [(.iload 9, 0, 0, 0)] (by decide +kernel) trivial rfl (?_)
      show Ev l d mi_X3_along 147 [some (.ref x0), none, some (.int x2), some (.int x3), none, some (.int x5), some (.int x6), some (.int x7), some (.int x8), some (.int x9), some (.int x10), none] [.int x9] (hp s) 0 0 _
      cases hf
      exact Ev.iret .int rfl rfl (by decide +kernel) (Nat.le_refl _) (Nat.le_refl _)
    · have hf := (if_neg b8).symm.trans hf
      obtain ⟨c9, hf⟩ := gd_some hf
      obtain ⟨c10, hf⟩ := gd_some hf
      refine Ev.blk (pc' := 64) [(.iload 7, 0, 0, 0), (.getstatic 131, 0, 0, 0), (.iload_n 2, 0, 0, 0), (.iaload, 0, 0, 1), (.iadd, 0, 0, 0), (.istore 7, 0, 0, 0), (.iload 8, 0, 0, 0), (.getstatic 134, 0, 0, 1), (.iload_n 2, 0, 0, 0), (.iaload, 0, 0, 1), (.iadd, 0, 0, 0), (.istore 8, 0, 0, 0), (.iload 7, 0, 0, 0)] (by decide +kernel) ⟨kg_3_131, ⟨kg_3_134, trivial⟩⟩ rfl (And.intro (Nat.le_of_ble_eq_true rfl) (And.intro (And.intro (Nat.le_of_ble_eq_true rfl) (Nat.le_of_ble_eq_true rfl)) (And.intro (ib_ok c9) (And.intro (Nat.le_of_ble_eq_true rfl) (And.intro (Nat.le_of_ble_eq_true rfl) (And.intro (And.intro (Nat.le_of_ble_eq_true rfl) (Nat.le_of_ble_eq_true rfl)) (And.intro (ib_ok c10) (And.intro (Nat.le_of_ble_eq_true rfl) (?_)))))))))
      show Ev l d mi_X3_along 64 [some (.ref x0), none, some (.int x2), some (.int x3), none, some (.int x5), some (.int x6), some (.int (x7 + ((sm_sv 0).getD x2.toNatClampNeg 0))), some (.int (x8 + ((sm_sv 1).getD x2.toNatClampNeg 0))), some (.int x9), some (.int x10), none] [.int (x7 + ((sm_sv 0).getD x2.toNatClampNeg 0))] (hp s) 0 0 _
      refine Ev.if_lt (off := 81) (tgt := 145) (by decide +kernel) (by decide) (fun b11 => ?_) (fun b11 => ?_)
      · have hf := (if_pos b11).symm.trans hf
        refine Ev.blk (pc' := 147) [(.iload 9, 0, 0, 0)] (by decide +kernel) trivial rfl (?_)
        show Ev l d mi_X3_along 147 [some (.ref x0), none, some (.int x2), some (.int x3), none, some (.int x5), some (.int x6), some (.int (x7 + ((sm_sv 0).getD x2.toNatClampNeg 0))), some (.int (x8 + ((sm_sv 1).getD x2.toNatClampNeg 0))), some (.int x9), some (.int x10), none] [.int x9] (hp s) 0 0 _
        cases hf
        exact Ev.iret .int rfl rfl (by decide +kernel) (Nat.le_refl _) (Nat.le_refl _)
      · have hf := (if_neg b11).symm.trans hf
        obtain ⟨c12, hf⟩ := gd_some hf
        obtain ⟨a13, ha13, hf⟩ := bd_some hf
        obtain ⟨c14, hf⟩ := gd_some hf
        refine Ev.blk (pc' := 76) [(.iload 7, 0, 0, 0), (.aload_n 0, 0, 0, 0), (.getfield 56, 0, 3, 0), (.getfield 137, 0, 4, 0)] (by decide +kernel) ⟨kf_3_56, ⟨kf_3_137, trivial⟩⟩ rfl (And.intro (kk_ok c12) (Exists.intro a13 (And.intro ha13 (And.intro (kk_ok c14) (?_)))))
        show Ev l d mi_X3_along 76 [some (.ref x0), none, some (.int x2), some (.int x3), none, some (.int x5), some (.int x6), some (.int (x7 + ((sm_sv 0).getD x2.toNatClampNeg 0))), some (.int (x8 + ((sm_sv 1).getD x2.toNatClampNeg 0))), some (.int x9), some (.int x10), none] [.int (s.1 a13 0), .int (x7 + ((sm_sv 0).getD x2.toNatClampNeg 0))] (hp s) 0 0 _
        refine Ev.icmp_ge (off := 69) (tgt := 145) (by decide +kernel) (by decide) (fun b15 => ?_) (fun b15 => ?_)
        · have hf := (if_pos b15).symm.trans hf
          refine Ev.blk (pc' := 147) [(.iload 9, 0, 0, 0)] (by decide +kernel) trivial rfl (?_)
          show Ev l d mi_X3_along 147 [some (.ref x0), none, some (.int x2), some (.int x3), none, some (.int x5), some (.int x6), some (.int (x7 + ((sm_sv 0).getD x2.toNatClampNeg 0))), some (.int (x8 + ((sm_sv 1).getD x2.toNatClampNeg 0))), some (.int x9), some (.int x10), none] [.int x9] (hp s) 0 0 _
          cases hf
          exact Ev.iret .int rfl rfl (by decide +kernel) (Nat.le_refl _) (Nat.le_refl _)
        · have hf := (if_neg b15).symm.trans hf
          refine Ev.blk (pc' := 81) [(.iload 8, 0, 0, 0)] (by decide +kernel) trivial rfl (?_)
          show Ev l d mi_X3_along 81 [some (.ref x0), none, some (.int x2), some (.int x3), none, some (.int x5), some (.int x6), some (.int (x7 + ((sm_sv 0).getD x2.toNatClampNeg 0))), some (.int (x8 + ((sm_sv 1).getD x2.toNatClampNeg 0))), some (.int x9), some (.int x10), none] [.int (x8 + ((sm_sv 1).getD x2.toNatClampNeg 0))] (hp s) 0 0 _
          refine Ev.if_lt (off := 64) (tgt := 145) (by decide +kernel) (by decide) (fun b16 => ?_) (fun b16 => ?_)
          · have hf := (if_pos b16).symm.trans hf
            refine Ev.blk (pc' := 147) [(.iload 9, 0, 0, 0)] (by decide +kernel) trivial rfl (?_)
            show Ev l d mi_X3_along 147 [some (.ref x0), none, some (.int x2), some (.int x3), none, some (.int x5), some (.int x6), some (.int (x7 + ((sm_sv 0).getD x2.toNatClampNeg 0))), some (.int (x8 + ((sm_sv 1).getD x2.toNatClampNeg 0))), some (.int x9), some (.int x10), none] [.int x9] (hp s) 0 0 _
            cases hf
            exact Ev.iret .int rfl rfl (by decide +kernel) (Nat.le_refl _) (Nat.le_refl _)
          · have hf := (if_neg b16).symm.trans hf
            obtain ⟨a17, ha17, hf⟩ := bd_some hf
            obtain ⟨c18, hf⟩ := gd_some hf
            refine Ev.blk (pc' := 93) [(.iload 8, 0, 0, 0), (.aload_n 0, 0, 0, 0), (.getfield 56, 0, 3, 0), (.getfield 140, 0, 4, 1)] (by decide +kernel) ⟨kf_3_56, ⟨kf_3_140, trivial⟩⟩ rfl (And.intro (kk_ok c12) (Exists.intro a17 (And.intro ha17 (And.intro (kk_ok c18) (?_)))))
            show Ev l d mi_X3_along 93 [some (.ref x0), none, some (.int x2), some (.int x3), none, some (.int x5), some (.int x6), some (.int (x7 + ((sm_sv 0).getD x2.toNatClampNeg 0))), some (.int (x8 + ((sm_sv 1).getD x2.toNatClampNeg 0))), some (.int x9), some (.int x10), none] [.int (s.1 a17 1), .int (x8 + ((sm_sv 1).getD x2.toNatClampNeg 0))] (hp s) 0 0 _
            refine Ev.icmp_lt (off := 6) (tgt := 99) (by decide +kernel) (by decide) (fun b19 => ?_) (fun b19 => ?_)
            · have hf := (if_pos b19).symm.trans hf
              obtain ⟨v20, hv20, hf⟩ := lt_some hf
              obtain ⟨v21, hv21, hf⟩ := lt_some hf
              refine Ev.blk (pc' := 115) [(.iconst 1, 0, 0, 0), (.iload 8, 0, 0, 0), (.iconst 5, 0, 0, 0), (.imul, 0, 0, 0), (.iload 7, 0, 0, 0), (.iadd, 0, 0, 0), (.ishl, 0, 0, 0), (.istore 11, 0, 0, 0), (.iload 5, 0, 0, 0), (.iload 11, 0, 0, 0), (.iand, 0, 0, 0)] (by decide +kernel) trivial rfl (And.intro (Nat.le_of_ble_eq_true rfl) (?_))
              show Ev l d mi_X3_along 115 [some (.ref x0), none, some (.int x2), some (.int x3), none, some (.int x5), some (.int x6), some (.int (x7 + ((sm_sv 0).getD x2.toNatClampNeg 0))), some (.int (x8 + ((sm_sv 1).getD x2.toNatClampNeg 0))), some (.int x9), some (.int x10), some (.int ((Int32.ofInt 1) <<< ((((x8 + ((sm_sv 1).getD x2.toNatClampNeg 0)) * (Int32.ofInt 5)) + (x7 + ((sm_sv 0).getD x2.toNatClampNeg 0))) &&& 31)))] [.int (x5 &&& ((Int32.ofInt 1) <<< ((((x8 + ((sm_sv 1).getD x2.toNatClampNeg 0)) * (Int32.ofInt 5)) + (x7 + ((sm_sv 0).getD x2.toNatClampNeg 0))) &&& 31)))] (hp s) 0 0 _
              rw [← hv20, ← hv21]
              refine Ev.if_eq (off := 6) (tgt := 121) (by decide +kernel) (by decide) (fun b22 => ?_) (fun b22 => ?_)
              · have hf := (if_pos b22).symm.trans hf
                refine Ev.blk (pc' := 133) [(.iload 9, 0, 0, 0), (.iload 11, 0, 0, 0), (.ior, 0, 0, 0), (.istore 9, 0, 0, 0), (.iload 6, 0, 0, 0), (.iload 11, 0, 0, 0), (.iand, 0, 0, 0)] (by decide +kernel) trivial rfl (And.intro (Nat.le_of_ble_eq_true rfl) (?_))
                show Ev l d mi_X3_along 133 [some (.ref x0), none, some (.int x2), some (.int x3), none, some (.int x5), some (.int x6), some (.int (x7 + ((sm_sv 0).getD x2.toNatClampNeg 0))), some (.int (x8 + ((sm_sv 1).getD x2.toNatClampNeg 0))), some (.int (x9 ||| v20)), some (.int x10), some (.int v20)] [.int (x6 &&& v20)] (hp s) 0 0 _
                refine Ev.if_eq (off := 6) (tgt := 139) (by decide +kernel) (by decide) (fun b23 => ?_) (fun b23 => ?_)
                · have hf := (if_pos b23).symm.trans hf
                  refine Ev.blk (pc' := 142) [(.iinc 10 1, 0, 0, 0)] (by decide +kernel) trivial rfl (And.intro (Nat.le_of_ble_eq_true rfl) (?_))
                  show Ev l d mi_X3_along 142 [some (.ref x0), none, some (.int x2), some (.int x3), none, some (.int x5), some (.int x6), some (.int (x7 + ((sm_sv 0).getD x2.toNatClampNeg 0))), some (.int (x8 + ((sm_sv 1).getD x2.toNatClampNeg 0))), some (.int (x9 ||| v20)), some (.int (x10 + Int32.ofInt 1)), some (.int v20)] [] (hp s) 0 0 _
                  refine Ev.goto (off := -106) (tgt := 36) (by decide +kernel) (by decide) ?_
                  exact Ev.wk (ih x0 x2 x3 x5 x6 (x7 + ((sm_sv 0).getD x2.toNatClampNeg 0)) (x8 + ((sm_sv 1).getD x2.toNatClampNeg 0)) (x9 ||| v20) (x10 + Int32.ofInt 1) s _ hf) (And.intro (Or.inr rfl) (And.intro (Or.inr rfl) (And.intro (Or.inr rfl) (And.intro (Or.inr rfl) (And.intro (Or.inr rfl) (And.intro (Or.inr rfl) (And.intro (Or.inr rfl) (And.intro (Or.inr rfl) (And.intro (Or.inr rfl) (And.intro (Or.inr rfl) (And.intro (Or.inr rfl) (And.intro (Or.inl rfl) (trivial)))))))))))))
                · have hf := (if_neg b23).symm.trans hf
                  refine Ev.goto (off := 9) (tgt := 145) (by decide +kernel) (by decide) ?_
                  refine Ev.blk (pc' := 147) [(.iload 9, 0, 0, 0)] (by decide +kernel) trivial rfl (?_)
                  show Ev l d mi_X3_along 147 [some (.ref x0), none, some (.int x2), some (.int x3), none, some (.int x5), some (.int x6), some (.int (x7 + ((sm_sv 0).getD x2.toNatClampNeg 0))), some (.int (x8 + ((sm_sv 1).getD x2.toNatClampNeg 0))), some (.int (x9 ||| v20)), some (.int x10), some (.int v20)] [.int (x9 ||| v20)] (hp s) 0 0 _
                  cases hf
                  exact Ev.iret .int rfl rfl (by decide +kernel) (Nat.le_refl _) (Nat.le_refl _)
              · have hf := (if_neg b22).symm.trans hf
                refine Ev.goto (off := 27) (tgt := 145) (by decide +kernel) (by decide) ?_
                refine Ev.blk (pc' := 147) [(.iload 9, 0, 0, 0)] (by decide +kernel) trivial rfl (?_)
                show Ev l d mi_X3_along 147 [some (.ref x0), none, some (.int x2), some (.int x3), none, some (.int x5), some (.int x6), some (.int (x7 + ((sm_sv 0).getD x2.toNatClampNeg 0))), some (.int (x8 + ((sm_sv 1).getD x2.toNatClampNeg 0))), some (.int x9), some (.int x10), some (.int v20)] [.int x9] (hp s) 0 0 _
                cases hf
                exact Ev.iret .int rfl rfl (by decide +kernel) (Nat.le_refl _) (Nat.le_refl _)
            · have hf := (if_neg b19).symm.trans hf
              refine Ev.goto (off := 49) (tgt := 145) (by decide +kernel) (by decide) ?_
              refine Ev.blk (pc' := 147) [(.iload 9, 0, 0, 0)] (by decide +kernel) trivial rfl (?_)
              show Ev l d mi_X3_along 147 [some (.ref x0), none, some (.int x2), some (.int x3), none, some (.int x5), some (.int x6), some (.int (x7 + ((sm_sv 0).getD x2.toNatClampNeg 0))), some (.int (x8 + ((sm_sv 1).getD x2.toNatClampNeg 0))), some (.int x9), some (.int x10), none] [.int x9] (hp s) 0 0 _
              cases hf
              exact Ev.iret .int rfl rfl (by decide +kernel) (Nat.le_refl _) (Nat.le_refl _)
def f_X3_along (o : Nat) (p0 : Int32) (p1 : Int32) (p2 : Int32) (p3 : Int32) (s : ST) : Option (Int32 × ST) := gd (kk o 3) ((RR s.2.2 o 7).bind (fun a2 => gd (kk a2 13) (gd (ib p3 (K0 a2).2) ((RR s.2.2 o 7).bind (fun a5 => gd (kk a5 13) (gd (ib ((Int32.ofInt 1) - p3) (K0 a5).2) ((f_X3_along_L36 fuel) o p1 p2 (s.1 a2 p3.toNatClampNeg) (s.1 a5 ((Int32.ofInt 1) - p3).toNatClampNeg) (p0 - p0 / (Int32.ofInt 5) * (Int32.ofInt 5)) (p0 / (Int32.ofInt 5)) (Int32.ofInt 0) (Int32.ofInt 0) s)))))))
set_option maxHeartbeats 2000000 in
set_option maxRecDepth 20000 in
theorem e_X3_along {l : Launch} {d : Nat} (hd : 1 ≤ d) (o : Nat) (p0 : Int32) (p1 : Int32) (p2 : Int32) (p3 : Int32) (s : ST) (r : Int32 × ST) (hf : f_X3_along o p0 p1 p2 p3 s = some r) : Cl l d mi_X3_along [.ref o, .int p0, .int p1, .int p2, .int p3] (hp s) (some (.int r.1), hp r.2) := by
  refine Ev.entry (by decide +kernel) rfl rfl ?_
  show Ev l d mi_X3_along 0 [some (.ref o), some (.int p0), some (.int p1), some (.int p2), some (.int p3), none, none, none, none, none, none, none] [] (hp s) 0 0 _
  unfold f_X3_along at hf
  obtain ⟨c1, hf⟩ := gd_some hf
  obtain ⟨a2, ha2, hf⟩ := bd_some hf
  obtain ⟨c3, hf⟩ := gd_some hf
  obtain ⟨c4, hf⟩ := gd_some hf
  obtain ⟨a5, ha5, hf⟩ := bd_some hf
  obtain ⟨c6, hf⟩ := gd_some hf
  obtain ⟨c7, hf⟩ := gd_some hf
  refine Ev.blk (pc' := 36) [(.aload_n 0, 0, 0, 0), (.getfield 31, 0, 3, 7), (.iload 4, 0, 0, 0), (.iaload, 0, 0, 0), (.istore 5, 0, 0, 0), (.aload_n 0, 0, 0, 0), (.getfield 31, 0, 3, 7), (.iconst 1, 0, 0, 0), (.iload 4, 0, 0, 0), (.isub, 0, 0, 0), (.iaload, 0, 0, 0), (.istore 6, 0, 0, 0), (.iload_n 1, 0, 0, 0), (.iconst 5, 0, 0, 0), (.irem, 0, 0, 0), (.istore 7, 0, 0, 0), (.iload_n 1, 0, 0, 0), (.iconst 5, 0, 0, 0), (.idiv, 0, 0, 0), (.istore 8, 0, 0, 0), (.iconst 0, 0, 0, 0), (.istore 9, 0, 0, 0), (.iconst 0, 0, 0, 0), (.istore 10, 0, 0, 0)] (by decide +kernel) ⟨kf_3_31, ⟨kf_3_31, trivial⟩⟩ rfl (And.intro (kk_ok c1) (Exists.intro a2 (And.intro ha2 (And.intro (kk_ok c3) (And.intro (ib_ok c4) (And.intro (Nat.le_of_ble_eq_true rfl) (And.intro (kk_ok c1) (Exists.intro a5 (And.intro ha5 (And.intro (kk_ok c6) (And.intro (ib_ok c7) (And.intro (Nat.le_of_ble_eq_true rfl) (And.intro (by decide) (And.intro (Nat.le_of_ble_eq_true rfl) (And.intro (by decide) (And.intro (Nat.le_of_ble_eq_true rfl) (And.intro (Nat.le_of_ble_eq_true rfl) (And.intro (Nat.le_of_ble_eq_true rfl) (?_)))))))))))))))))))
  show Ev l d mi_X3_along 36 [some (.ref o), some (.int p0), some (.int p1), some (.int p2), some (.int p3), some (.int (s.1 a2 p3.toNatClampNeg)), some (.int (s.1 a5 ((Int32.ofInt 1) - p3).toNatClampNeg)), some (.int (p0 - p0 / (Int32.ofInt 5) * (Int32.ofInt 5))), some (.int (p0 / (Int32.ofInt 5))), some (.int (Int32.ofInt 0)), some (.int (Int32.ofInt 0)), none] [] (hp s) 0 0 _
  exact Ev.wk ((e_X3_along_L36 hd fuel) o p1 p2 (s.1 a2 p3.toNatClampNeg) (s.1 a5 ((Int32.ofInt 1) - p3).toNatClampNeg) (p0 - p0 / (Int32.ofInt 5) * (Int32.ofInt 5)) (p0 / (Int32.ofInt 5)) (Int32.ofInt 0) (Int32.ofInt 0) s _ hf) (And.intro (Or.inr rfl) (And.intro (Or.inl rfl) (And.intro (Or.inr rfl) (And.intro (Or.inr rfl) (And.intro (Or.inl rfl) (And.intro (Or.inr rfl) (And.intro (Or.inr rfl) (And.intro (Or.inr rfl) (And.intro (Or.inr rfl) (And.intro (Or.inr rfl) (And.intro (Or.inr rfl) (And.intro (Or.inr rfl) (trivial)))))))))))))
def f_X3_goals_L66 : Nat → Nat → Int32 → Int32 → Int32 → Int32 → Int32 → Int32 → ST → Option (Int32 × ST)
  | 0, _, _, _, _, _, _, _, _ => none
  | n + 1, x0, x1, x2, x4, x5, x6, x7, s => gd (ib x4 5) ((if ((sm_sv 3).getD x4.toNatClampNeg 0) ≤ x7 then some (x6, s) else gd (kk x0 3) ((RR s.2.2 x0 0).bind (fun a26 => gd (kk a26 4) ((RR s.2.2 a26 10).bind (fun a28 => gd (kk a28 13) (gd (ib x1 (K0 a28).2) ((f_X3_along x0 x2 x7 x5 (s.1 a28 x1.toNatClampNeg) s).bind (fun q31 => (f_X3_goals_L66 n) x0 x1 x2 x4 x5 (x6 ||| q31.1) (x7 + Int32.ofInt 1) q31.2)))))))))
set_option maxHeartbeats 2000000 in
set_option maxRecDepth 20000 in
theorem e_X3_goals_L66 {l : Launch} {d : Nat} (hd : 2 ≤ d) : ∀ (n : Nat) (x0 : Nat) (x1 : Int32) (x2 : Int32) (x4 : Int32) (x5 : Int32) (x6 : Int32) (x7 : Int32) (s : ST) (r : Int32 × ST), f_X3_goals_L66 n x0 x1 x2 x4 x5 x6 x7 s = some r → Ev l d mi_X3_goals 66 [some (.ref x0), some (.int x1), some (.int x2), none, some (.int x4), some (.int x5), some (.int x6), some (.int x7)] [] (hp s) 0 0 (some (.int r.1), hp r.2) := by
  intro n
  induction n with
  | zero =>
    intro x0 x1 x2 x4 x5 x6 x7 s r hf
    cases hf
  | succ n ih =>
    intro x0 x1 x2 x4 x5 x6 x7 s r hf
    unfold f_X3_goals_L66 at hf
    obtain ⟨c23, hf⟩ := gd_some hf
    refine Ev.blk (pc' := 74) [(.iload 7, 0, 0, 0), (.getstatic 124, 0, 0, 3), (.iload 4, 0, 0, 0), (.iaload, 0, 0, 1)] (by decide +kernel) ⟨kg_3_124, trivial⟩ rfl (And.intro (Nat.le_of_ble_eq_true rfl) (And.intro (And.intro (Nat.le_of_ble_eq_true rfl) (Nat.le_of_ble_eq_true rfl)) (And.intro (ib_ok c23) (?_))))
    show Ev l d mi_X3_goals 74 [some (.ref x0), some (.int x1), some (.int x2), none, some (.int x4), some (.int x5), some (.int x6), some (.int x7)] [.int ((sm_sv 3).getD x4.toNatClampNeg 0), .int x7] (hp s) 0 0 _
    refine Ev.icmp_ge (off := 32) (tgt := 106) (by decide +kernel) (by decide) (fun b24 => ?_) (fun b24 => ?_)
    · have hf := (if_pos b24).symm.trans hf
      refine Ev.blk (pc' := 108) [(.iload 6, 0, 0, 0)] (by decide +kernel) trivial rfl (?_)
      show Ev l d mi_X3_goals 108 [some (.ref x0), some (.int x1), some (.int x2), none, some (.int x4), some (.int x5), some (.int x6), some (.int x7)] [.int x6] (hp s) 0 0 _
      cases hf
      exact Ev.iret .int rfl rfl (by decide +kernel) (Nat.le_refl _) (Nat.le_refl _)
    · have hf := (if_neg b24).symm.trans hf
      obtain ⟨c25, hf⟩ := gd_some hf
      obtain ⟨a26, ha26, hf⟩ := bd_some hf
      obtain ⟨c27, hf⟩ := gd_some hf
      obtain ⟨a28, ha28, hf⟩ := bd_some hf
      obtain ⟨c29, hf⟩ := gd_some hf
      obtain ⟨c30, hf⟩ := gd_some hf
      refine Ev.blk (pc' := 94) [(.iload 6, 0, 0, 0), (.aload_n 0, 0, 0, 0), (.iload_n 2, 0, 0, 0), (.iload 7, 0, 0, 0), (.iload 5, 0, 0, 0), (.aload_n 0, 0, 0, 0), (.getfield 56, 0, 3, 0), (.getfield 106, 0, 4, 10), (.iload_n 1, 0, 0, 0), (.iaload, 0, 0, 0)] (by decide +kernel) ⟨kf_3_56, ⟨kf_3_106, trivial⟩⟩ rfl (And.intro (kk_ok c25) (Exists.intro a26 (And.intro ha26 (And.intro (kk_ok c27) (Exists.intro a28 (And.intro ha28 (And.intro (kk_ok c29) (And.intro (ib_ok c30) (?_)))))))))
      show Ev l d mi_X3_goals 94 [some (.ref x0), some (.int x1), some (.int x2), none, some (.int x4), some (.int x5), some (.int x6), some (.int x7)] [.int (s.1 a28 x1.toNatClampNeg), .int x5, .int x7, .int x2, .ref x0, .int x6] (hp s) 0 0 _
      obtain ⟨q31, hq31, hf⟩ := bd_some hf
      refine Ev.callV (o := x0) (M' := mi_X3_along) (d' := d - 1) (As := [.int x2, .int x7, .int x5, .int (s.1 a28 x1.toNatClampNeg)]) (rest := [.int x6]) (r' := (some (.int q31.1), hp q31.2)) (e_X3_along (d := d - 1) (by omega) x0 x2 x7 x5 (s.1 a28 x1.toNatClampNeg) s _ hq31) (by omega) wm_X3_along wi_X3_along wv_X3_along km_3_127 (kk_ok c25) (Nat.le_of_ble_eq_true rfl) rfl rfl rfl (Nat.le_of_ble_eq_true rfl) ⟨Nat.le_of_ble_eq_true rfl, Nat.le_of_ble_eq_true rfl⟩ (by decide +kernel) ?_
      show Ev l d mi_X3_goals 97 [some (.ref x0), some (.int x1), some (.int x2), none, some (.int x4), some (.int x5), some (.int x6), some (.int x7)] [.int q31.1, .int x6] (hp q31.2) 0 0 _
      refine Ev.blk (pc' := 103) [(.ior, 0, 0, 0), (.istore 6, 0, 0, 0), (.iinc 7 1, 0, 0, 0)] (by decide +kernel) trivial rfl (And.intro (Nat.le_of_ble_eq_true rfl) (And.intro (Nat.le_of_ble_eq_true rfl) (?_)))
      show Ev l d mi_X3_goals 103 [some (.ref x0), some (.int x1), some (.int x2), none, some (.int x4), some (.int x5), some (.int (x6 ||| q31.1)), some (.int (x7 + Int32.ofInt 1))] [] (hp q31.2) 0 0 _
      refine Ev.goto (off := -37) (tgt := 66) (by decide +kernel) (by decide) ?_
      exact ih x0 x1 x2 x4 x5 (x6 ||| q31.1) (x7 + Int32.ofInt 1) q31.2 _ hf
def f_X3_goals_j53 (x0 : Nat) (x1 : Int32) (x2 : Int32) (x4 : Int32) (y0 : Int32) (s : ST) : Option (Int32 × ST) := gd (ib x4 5) ((f_X3_goals_L66 fuel) x0 x1 x2 x4 y0 (Int32.ofInt 0) ((sm_sv 2).getD x4.toNatClampNeg 0) s)
set_option maxHeartbeats 2000000 in
set_option maxRecDepth 20000 in
theorem e_X3_goals_j53 {l : Launch} {d : Nat} (hd : 2 ≤ d) (x0 : Nat) (x1 : Int32) (x2 : Int32) (x4 : Int32) (y0 : Int32) (s : ST) (r : Int32 × ST) (hf : f_X3_goals_j53 x0 x1 x2 x4 y0 s = some r) : Ev l d mi_X3_goals 53 [some (.ref x0), some (.int x1), some (.int x2), none, some (.int x4), none, none, none] [.int y0] (hp s) 0 0 (some (.int r.1), hp r.2) := by
  unfold f_X3_goals_j53 at hf
  obtain ⟨c22, hf⟩ := gd_some hf
  refine Ev.blk (pc' := 66) [(.istore 5, 0, 0, 0), (.iconst 0, 0, 0, 0), (.istore 6, 0, 0, 0), (.getstatic 121, 0, 0, 2), (.iload 4, 0, 0, 0), (.iaload, 0, 0, 1), (.istore 7, 0, 0, 0)] (by decide +kernel) ⟨kg_3_121, trivial⟩ rfl (And.intro (Nat.le_of_ble_eq_true rfl) (And.intro (Nat.le_of_ble_eq_true rfl) (And.intro (Nat.le_of_ble_eq_true rfl) (And.intro (And.intro (Nat.le_of_ble_eq_true rfl) (Nat.le_of_ble_eq_true rfl)) (And.intro (ib_ok c22) (And.intro (Nat.le_of_ble_eq_true rfl) (?_)))))))
  show Ev l d mi_X3_goals 66 [some (.ref x0), some (.int x1), some (.int x2), none, some (.int x4), some (.int y0), some (.int (Int32.ofInt 0)), some (.int ((sm_sv 2).getD x4.toNatClampNeg 0))] [] (hp s) 0 0 _
  exact (e_X3_goals_L66 hd fuel) x0 x1 x2 x4 y0 (Int32.ofInt 0) ((sm_sv 2).getD x4.toNatClampNeg 0) s _ hf
def f_X3_goals (o : Nat) (p0 : Int32) (s : ST) : Option (Int32 × ST) := gd (kk o 3) ((RR s.2.2 o 4).bind (fun a2 => gd (kk a2 13) (gd (ib p0 (K0 a2).2) ((if 0 ≤ (s.1 a2 p0.toNatClampNeg) then (RR s.2.2 o 0).bind (fun a6 => gd (kk a6 4) ((RR s.2.2 a6 9).bind (fun a8 => gd (kk a8 13) (gd (ib p0 (K0 a8).2) ((RR s.2.2 o 0).bind (fun a11 => gd (kk a11 4) ((RR s.2.2 a11 4).bind (fun a13 => gd (kk a13 13) (gd (ib (s.1 a8 p0.toNatClampNeg) (K0 a13).2) ((if (s.1 a13 (s.1 a8 p0.toNatClampNeg).toNatClampNeg) = (Int32.ofInt 4) then f_X3_goals_j53 o p0 (s.1 a2 p0.toNatClampNeg) (s.1 a13 (s.1 a8 p0.toNatClampNeg).toNatClampNeg) (Int32.ofInt 1) s else (RR s.2.2 o 0).bind (fun a17 => gd (kk a17 4) ((RR s.2.2 a17 5).bind (fun a19 => gd (kk a19 13) (gd (ib (s.1 a8 p0.toNatClampNeg) (K0 a19).2) (f_X3_goals_j53 o p0 (s.1 a2 p0.toNatClampNeg) (s.1 a13 (s.1 a8 p0.toNatClampNeg).toNatClampNeg) (s.1 a19 (s.1 a8 p0.toNatClampNeg).toNatClampNeg) s)))))))))))))))) else some ((Int32.ofInt 0), s))))))
set_option maxHeartbeats 2000000 in
set_option maxRecDepth 20000 in
theorem e_X3_goals {l : Launch} {d : Nat} (hd : 2 ≤ d) (o : Nat) (p0 : Int32) (s : ST) (r : Int32 × ST) (hf : f_X3_goals o p0 s = some r) : Cl l d mi_X3_goals [.ref o, .int p0] (hp s) (some (.int r.1), hp r.2) := by
  refine Ev.entry (by decide +kernel) rfl rfl ?_
  show Ev l d mi_X3_goals 0 [some (.ref o), some (.int p0), none, none, none, none, none, none] [] (hp s) 0 0 _
  unfold f_X3_goals at hf
  obtain ⟨c1, hf⟩ := gd_some hf
  obtain ⟨a2, ha2, hf⟩ := bd_some hf
  obtain ⟨c3, hf⟩ := gd_some hf
  obtain ⟨c4, hf⟩ := gd_some hf
  refine Ev.blk (pc' := 8) [(.aload_n 0, 0, 0, 0), (.getfield 22, 0, 3, 4), (.iload_n 1, 0, 0, 0), (.iaload, 0, 0, 0), (.istore_n 2, 0, 0, 0), (.iload_n 2, 0, 0, 0)] (by decide +kernel) ⟨kf_3_22, trivial⟩ rfl (And.intro (kk_ok c1) (Exists.intro a2 (And.intro ha2 (And.intro (kk_ok c3) (And.intro (ib_ok c4) (And.intro (Nat.le_of_ble_eq_true rfl) (?_)))))))
  show Ev l d mi_X3_goals 8 [some (.ref o), some (.int p0), some (.int (s.1 a2 p0.toNatClampNeg)), none, none, none, none, none] [.int (s.1 a2 p0.toNatClampNeg)] (hp s) 0 0 _
  refine Ev.if_ge (off := 5) (tgt := 13) (by decide +kernel) (by decide) (fun b5 => ?_) (fun b5 => ?_)
  · have hf := (if_pos b5).symm.trans hf
    obtain ⟨a6, ha6, hf⟩ := bd_some hf
    obtain ⟨c7, hf⟩ := gd_some hf
    obtain ⟨a8, ha8, hf⟩ := bd_some hf
    obtain ⟨c9, hf⟩ := gd_some hf
    obtain ⟨c10, hf⟩ := gd_some hf
    obtain ⟨a11, ha11, hf⟩ := bd_some hf
    obtain ⟨c12, hf⟩ := gd_some hf
    obtain ⟨a13, ha13, hf⟩ := bd_some hf
    obtain ⟨c14, hf⟩ := gd_some hf
    obtain ⟨c15, hf⟩ := gd_some hf
    refine Ev.blk (pc' := 37) [(.aload_n 0, 0, 0, 0), (.getfield 56, 0, 3, 0), (.getfield 112, 0, 4, 9), (.iload_n 1, 0, 0, 0), (.iaload, 0, 0, 0), (.istore_n 3, 0, 0, 0), (.aload_n 0, 0, 0, 0), (.getfield 56, 0, 3, 0), (.getfield 115, 0, 4, 4), (.iload_n 3, 0, 0, 0), (.iaload, 0, 0, 0), (.istore 4, 0, 0, 0), (.iload 4, 0, 0, 0), (.iconst 4, 0, 0, 0)] (by decide +kernel) ⟨kf_3_56, ⟨kf_3_112, ⟨kf_3_56, ⟨kf_3_115, trivial⟩⟩⟩⟩ rfl (And.intro (kk_ok c1) (Exists.intro a6 (And.intro ha6 (And.intro (kk_ok c7) (Exists.intro a8 (And.intro ha8 (And.intro (kk_ok c9) (And.intro (ib_ok c10) (And.intro (Nat.le_of_ble_eq_true rfl) (And.intro (kk_ok c1) (Exists.intro a11 (And.intro ha11 (And.intro (kk_ok c12) (Exists.intro a13 (And.intro ha13 (And.intro (kk_ok c14) (And.intro (ib_ok c15) (And.intro (Nat.le_of_ble_eq_true rfl) (?_)))))))))))))))))))
    show Ev l d mi_X3_goals 37 [some (.ref o), some (.int p0), some (.int (s.1 a2 p0.toNatClampNeg)), some (.int (s.1 a8 p0.toNatClampNeg)), some (.int (s.1 a13 (s.1 a8 p0.toNatClampNeg).toNatClampNeg)), none, none, none] [.int (Int32.ofInt 4), .int (s.1 a13 (s.1 a8 p0.toNatClampNeg).toNatClampNeg)] (hp s) 0 0 _
    refine Ev.icmp_ne (off := 7) (tgt := 44) (by decide +kernel) (by decide) (fun b16 => ?_) (fun b16 => ?_)
    · have hf := (if_neg b16).symm.trans hf
      obtain ⟨a17, ha17, hf⟩ := bd_some hf
      obtain ⟨c18, hf⟩ := gd_some hf
      obtain ⟨a19, ha19, hf⟩ := bd_some hf
      obtain ⟨c20, hf⟩ := gd_some hf
      obtain ⟨c21, hf⟩ := gd_some hf
      refine Ev.blk (pc' := 53) [(.aload_n 0, 0, 0, 0), (.getfield 56, 0, 3, 0), (.getfield 118, 0, 4, 5), (.iload_n 3, 0, 0, 0), (.iaload, 0, 0, 0)] (by decide +kernel) ⟨kf_3_56, ⟨kf_3_118, trivial⟩⟩ rfl (And.intro (kk_ok c1) (Exists.intro a17 (And.intro ha17 (And.intro (kk_ok c18) (Exists.intro a19 (And.intro ha19 (And.intro (kk_ok c20) (And.intro (ib_ok c21) (?_)))))))))
      show Ev l d mi_X3_goals 53 [some (.ref o), some (.int p0), some (.int (s.1 a2 p0.toNatClampNeg)), some (.int (s.1 a8 p0.toNatClampNeg)), some (.int (s.1 a13 (s.1 a8 p0.toNatClampNeg).toNatClampNeg)), none, none, none] [.int (s.1 a19 (s.1 a8 p0.toNatClampNeg).toNatClampNeg)] (hp s) 0 0 _
      exact Ev.wk ((e_X3_goals_j53 hd) o p0 (s.1 a2 p0.toNatClampNeg) (s.1 a13 (s.1 a8 p0.toNatClampNeg).toNatClampNeg) (s.1 a19 (s.1 a8 p0.toNatClampNeg).toNatClampNeg) s _ hf) (And.intro (Or.inr rfl) (And.intro (Or.inr rfl) (And.intro (Or.inr rfl) (And.intro (Or.inl rfl) (And.intro (Or.inr rfl) (And.intro (Or.inr rfl) (And.intro (Or.inr rfl) (And.intro (Or.inr rfl) (trivial)))))))))
    · have hf := (if_pos b16).symm.trans hf
      refine Ev.blk (pc' := 41) [(.iconst 1, 0, 0, 0)] (by decide +kernel) trivial rfl (?_)
      show Ev l d mi_X3_goals 41 [some (.ref o), some (.int p0), some (.int (s.1 a2 p0.toNatClampNeg)), some (.int (s.1 a8 p0.toNatClampNeg)), some (.int (s.1 a13 (s.1 a8 p0.toNatClampNeg).toNatClampNeg)), none, none, none] [.int (Int32.ofInt 1)] (hp s) 0 0 _
      refine Ev.goto (off := 12) (tgt := 53) (by decide +kernel) (by decide) ?_
      exact Ev.wk ((e_X3_goals_j53 hd) o p0 (s.1 a2 p0.toNatClampNeg) (s.1 a13 (s.1 a8 p0.toNatClampNeg).toNatClampNeg) (Int32.ofInt 1) s _ hf) (And.intro (Or.inr rfl) (And.intro (Or.inr rfl) (And.intro (Or.inr rfl) (And.intro (Or.inl rfl) (And.intro (Or.inr rfl) (And.intro (Or.inr rfl) (And.intro (Or.inr rfl) (And.intro (Or.inr rfl) (trivial)))))))))
  · have hf := (if_neg b5).symm.trans hf
    refine Ev.blk (pc' := 12) [(.iconst 0, 0, 0, 0)] (by decide +kernel) trivial rfl (?_)
    show Ev l d mi_X3_goals 12 [some (.ref o), some (.int p0), some (.int (s.1 a2 p0.toNatClampNeg)), none, none, none, none, none] [.int (Int32.ofInt 0)] (hp s) 0 0 _
    cases hf
    exact Ev.iret .int rfl rfl (by decide +kernel) (Nat.le_refl _) (Nat.le_refl _)
def f_J6_bitCount_0f7a4 (p0 : Int32) (s : ST) : Option (Int32 × ST) := lt (((((p0 - (((p0).toUInt32 >>> (((Int32.ofInt 1)).toUInt32 &&& Int32.toUInt32 31)).toInt32 &&& (Int32.ofInt 1431655765))) &&& (Int32.ofInt 858993459)) + ((((p0 - (((p0).toUInt32 >>> (((Int32.ofInt 1)).toUInt32 &&& Int32.toUInt32 31)).toInt32 &&& (Int32.ofInt 1431655765)))).toUInt32 >>> (((Int32.ofInt 2)).toUInt32 &&& Int32.toUInt32 31)).toInt32 &&& (Int32.ofInt 858993459))) + (((((p0 - (((p0).toUInt32 >>> (((Int32.ofInt 1)).toUInt32 &&& Int32.toUInt32 31)).toInt32 &&& (Int32.ofInt 1431655765))) &&& (Int32.ofInt 858993459)) + ((((p0 - (((p0).toUInt32 >>> (((Int32.ofInt 1)).toUInt32 &&& Int32.toUInt32 31)).toInt32 &&& (Int32.ofInt 1431655765)))).toUInt32 >>> (((Int32.ofInt 2)).toUInt32 &&& Int32.toUInt32 31)).toInt32 &&& (Int32.ofInt 858993459)))).toUInt32 >>> (((Int32.ofInt 4)).toUInt32 &&& Int32.toUInt32 31)).toInt32) &&& (Int32.ofInt 252645135)) (fun v1 => lt (((v1).toUInt32 >>> ((((Int8.ofInt 8).toInt32)).toUInt32 &&& Int32.toUInt32 31)).toInt32) (fun v2 => lt ((v1 + v2) + (((v1 + v2)).toUInt32 >>> ((((Int8.ofInt 16).toInt32)).toUInt32 &&& Int32.toUInt32 31)).toInt32) (fun v3 => lt (v3 &&& ((Int8.ofInt 63).toInt32)) (fun v4 => some (v4, s)))))
set_option maxHeartbeats 2000000 in
set_option maxRecDepth 20000 in
theorem e_J6_bitCount_0f7a4 {l : Launch} {d : Nat} (hd : 1 ≤ d) (p0 : Int32) (s : ST) (r : Int32 × ST) (hf : f_J6_bitCount_0f7a4 p0 s = some r) : Cl l d mi_J6_bitCount_0f7a4 [.int p0] (hp s) (some (.int r.1), hp r.2) := by
  refine Ev.entry (by decide +kernel) rfl rfl ?_
  show Ev l d mi_J6_bitCount_0f7a4 0 [some (.int p0)] [] (hp s) 0 0 _
  unfold f_J6_bitCount_0f7a4 at hf
  obtain ⟨v1, hv1, hf⟩ := lt_some hf
  obtain ⟨v2, hv2, hf⟩ := lt_some hf
  refine Ev.blk (pc' := 39) [(.iload_n 0, 0, 0, 0), (.iload_n 0, 0, 0, 0), (.iconst 1, 0, 0, 0), (.iushr, 0, 0, 0), (.ldc_w 265, 1431655765, 0, 0), (.iand, 0, 0, 0), (.isub, 0, 0, 0), (.istore_n 0, 0, 0, 0), (.iload_n 0, 0, 0, 0), (.ldc_w 266, 858993459, 0, 0), (.iand, 0, 0, 0), (.iload_n 0, 0, 0, 0), (.iconst 2, 0, 0, 0), (.iushr, 0, 0, 0), (.ldc_w 266, 858993459, 0, 0), (.iand, 0, 0, 0), (.iadd, 0, 0, 0), (.istore_n 0, 0, 0, 0), (.iload_n 0, 0, 0, 0), (.iload_n 0, 0, 0, 0), (.iconst 4, 0, 0, 0), (.iushr, 0, 0, 0), (.iadd, 0, 0, 0), (.ldc_w 267, 252645135, 0, 0), (.iand, 0, 0, 0), (.istore_n 0, 0, 0, 0), (.iload_n 0, 0, 0, 0), (.iload_n 0, 0, 0, 0), (.bipush 8, 0, 0, 0), (.iushr, 0, 0, 0)] (by decide +kernel) ⟨kc_11_265, ⟨kc_11_266, ⟨kc_11_266, ⟨kc_11_267, trivial⟩⟩⟩⟩ rfl (And.intro (Nat.le_of_ble_eq_true rfl) (And.intro (Nat.le_of_ble_eq_true rfl) (And.intro (Nat.le_of_ble_eq_true rfl) (?_))))
  show Ev l d mi_J6_bitCount_0f7a4 39 [some (.int (((((p0 - (((p0).toUInt32 >>> (((Int32.ofInt 1)).toUInt32 &&& Int32.toUInt32 31)).toInt32 &&& (Int32.ofInt 1431655765))) &&& (Int32.ofInt 858993459)) + ((((p0 - (((p0).toUInt32 >>> (((Int32.ofInt 1)).toUInt32 &&& Int32.toUInt32 31)).toInt32 &&& (Int32.ofInt 1431655765)))).toUInt32 >>> (((Int32.ofInt 2)).toUInt32 &&& Int32.toUInt32 31)).toInt32 &&& (Int32.ofInt 858993459))) + (((((p0 - (((p0).toUInt32 >>> (((Int32.ofInt 1)).toUInt32 &&& Int32.toUInt32 31)).toInt32 &&& (Int32.ofInt 1431655765))) &&& (Int32.ofInt 858993459)) + ((((p0 - (((p0).toUInt32 >>> (((Int32.ofInt 1)).toUInt32 &&& Int32.toUInt32 31)).toInt32 &&& (Int32.ofInt 1431655765)))).toUInt32 >>> (((Int32.ofInt 2)).toUInt32 &&& Int32.toUInt32 31)).toInt32 &&& (Int32.ofInt 858993459)))).toUInt32 >>> (((Int32.ofInt 4)).toUInt32 &&& Int32.toUInt32 31)).toInt32) &&& (Int32.ofInt 252645135)))] [.int (((((((p0 - (((p0).toUInt32 >>> (((Int32.ofInt 1)).toUInt32 &&& Int32.toUInt32 31)).toInt32 &&& (Int32.ofInt 1431655765))) &&& (Int32.ofInt 858993459)) + ((((p0 - (((p0).toUInt32 >>> (((Int32.ofInt 1)).toUInt32 &&& Int32.toUInt32 31)).toInt32 &&& (Int32.ofInt 1431655765)))).toUInt32 >>> (((Int32.ofInt 2)).toUInt32 &&& Int32.toUInt32 31)).toInt32 &&& (Int32.ofInt 858993459))) + (((((p0 - (((p0).toUInt32 >>> (((Int32.ofInt 1)).toUInt32 &&& Int32.toUInt32 31)).toInt32 &&& (Int32.ofInt 1431655765))) &&& (Int32.ofInt 858993459)) + ((((p0 - (((p0).toUInt32 >>> (((Int32.ofInt 1)).toUInt32 &&& Int32.toUInt32 31)).toInt32 &&& (Int32.ofInt 1431655765)))).toUInt32 >>> (((Int32.ofInt 2)).toUInt32 &&& Int32.toUInt32 31)).toInt32 &&& (Int32.ofInt 858993459)))).toUInt32 >>> (((Int32.ofInt 4)).toUInt32 &&& Int32.toUInt32 31)).toInt32) &&& (Int32.ofInt 252645135))).toUInt32 >>> ((((Int8.ofInt 8).toInt32)).toUInt32 &&& Int32.toUInt32 31)).toInt32, .int (((((p0 - (((p0).toUInt32 >>> (((Int32.ofInt 1)).toUInt32 &&& Int32.toUInt32 31)).toInt32 &&& (Int32.ofInt 1431655765))) &&& (Int32.ofInt 858993459)) + ((((p0 - (((p0).toUInt32 >>> (((Int32.ofInt 1)).toUInt32 &&& Int32.toUInt32 31)).toInt32 &&& (Int32.ofInt 1431655765)))).toUInt32 >>> (((Int32.ofInt 2)).toUInt32 &&& Int32.toUInt32 31)).toInt32 &&& (Int32.ofInt 858993459))) + (((((p0 - (((p0).toUInt32 >>> (((Int32.ofInt 1)).toUInt32 &&& Int32.toUInt32 31)).toInt32 &&& (Int32.ofInt 1431655765))) &&& (Int32.ofInt 858993459)) + ((((p0 - (((p0).toUInt32 >>> (((Int32.ofInt 1)).toUInt32 &&& Int32.toUInt32 31)).toInt32 &&& (Int32.ofInt 1431655765)))).toUInt32 >>> (((Int32.ofInt 2)).toUInt32 &&& Int32.toUInt32 31)).toInt32 &&& (Int32.ofInt 858993459)))).toUInt32 >>> (((Int32.ofInt 4)).toUInt32 &&& Int32.toUInt32 31)).toInt32) &&& (Int32.ofInt 252645135))] (hp s) 0 0 _
  rw [← hv1, ← hv2]
  obtain ⟨v3, hv3, hf⟩ := lt_some hf
  obtain ⟨v4, hv4, hf⟩ := lt_some hf
  refine Ev.blk (pc' := 52) [(.iadd, 0, 0, 0), (.istore_n 0, 0, 0, 0), (.iload_n 0, 0, 0, 0), (.iload_n 0, 0, 0, 0), (.bipush 16, 0, 0, 0), (.iushr, 0, 0, 0), (.iadd, 0, 0, 0), (.istore_n 0, 0, 0, 0), (.iload_n 0, 0, 0, 0), (.bipush 63, 0, 0, 0), (.iand, 0, 0, 0)] (by decide +kernel) trivial rfl (And.intro (Nat.le_of_ble_eq_true rfl) (And.intro (Nat.le_of_ble_eq_true rfl) (?_)))
  show Ev l d mi_J6_bitCount_0f7a4 52 [some (.int ((v1 + v2) + (((v1 + v2)).toUInt32 >>> ((((Int8.ofInt 16).toInt32)).toUInt32 &&& Int32.toUInt32 31)).toInt32))] [.int (((v1 + v2) + (((v1 + v2)).toUInt32 >>> ((((Int8.ofInt 16).toInt32)).toUInt32 &&& Int32.toUInt32 31)).toInt32) &&& ((Int8.ofInt 63).toInt32))] (hp s) 0 0 _
  rw [← hv3, ← hv4]
  cases hf
  exact Ev.iret .int rfl rfl (by decide +kernel) (Nat.le_refl _) (Nat.le_refl _)
def f_X3_moveCount_L4 : Nat → Nat → Int32 → Int32 → ST → Option (Int32 × ST)
  | 0, _, _, _, _ => none
  | n + 1, x0, x1, x2, s => gd (kk x0 3) ((if (s.1 x0 9) = 0 then (RR s.2.2 x0 0).bind (fun a3 => gd (kk a3 4) ((if (s.1 a3 8) ≤ x2 then some (x1, s) else (f_X3_isOut x0 x2 (s.1 x0 2) s).bind (fun q6 => (if q6.1 = 0 then (f_X3_moveCount_L4 n) x0 x1 (x2 + Int32.ofInt 1) q6.2 else (f_X3_goals x0 x2 q6.2).bind (fun q8 => (f_J6_bitCount_0f7a4 q8.1 q8.2).bind (fun q9 => (f_X3_moveCount_L4 n) x0 (x1 + q9.1) (x2 + Int32.ofInt 1) q9.2))))))) else some (x1, s)))
set_option maxHeartbeats 2000000 in
set_option maxRecDepth 20000 in
theorem e_X3_moveCount_L4 {l : Launch} {d : Nat} (hd : 3 ≤ d) : ∀ (n : Nat) (x0 : Nat) (x1 : Int32) (x2 : Int32) (s : ST) (r : Int32 × ST), f_X3_moveCount_L4 n x0 x1 x2 s = some r → Ev l d mi_X3_moveCount 4 [some (.ref x0), some (.int x1), some (.int x2)] [] (hp s) 0 0 (some (.int r.1), hp r.2) := by
  intro n
  induction n with
  | zero =>
    intro x0 x1 x2 s r hf
    cases hf
  | succ n ih =>
    intro x0 x1 x2 s r hf
    unfold f_X3_moveCount_L4 at hf
    obtain ⟨c1, hf⟩ := gd_some hf
    refine Ev.blk (pc' := 8) [(.aload_n 0, 0, 0, 0), (.getfield 37, 0, 3, 9)] (by decide +kernel) ⟨kf_3_37, trivial⟩ rfl (And.intro (kk_ok c1) (?_))
    show Ev l d mi_X3_moveCount 8 [some (.ref x0), some (.int x1), some (.int x2)] [.int (s.1 x0 9)] (hp s) 0 0 _
    refine Ev.if_ne (off := 43) (tgt := 51) (by decide +kernel) (by decide) (fun b2 => ?_) (fun b2 => ?_)
    · have hf := (if_neg b2).symm.trans hf
      refine Ev.blk (pc' := 52) [(.iload_n 1, 0, 0, 0)] (by decide +kernel) trivial rfl (?_)
      show Ev l d mi_X3_moveCount 52 [some (.ref x0), some (.int x1), some (.int x2)] [.int x1] (hp s) 0 0 _
      cases hf
      exact Ev.iret .int rfl rfl (by decide +kernel) (Nat.le_refl _) (Nat.le_refl _)
    · have hf := (if_pos b2).symm.trans hf
      obtain ⟨a3, ha3, hf⟩ := bd_some hf
      obtain ⟨c4, hf⟩ := gd_some hf
      refine Ev.blk (pc' := 19) [(.iload_n 2, 0, 0, 0), (.aload_n 0, 0, 0, 0), (.getfield 56, 0, 3, 0), (.getfield 66, 0, 4, 8)] (by decide +kernel) ⟨kf_3_56, ⟨kf_3_66, trivial⟩⟩ rfl (And.intro (kk_ok c1) (Exists.intro a3 (And.intro ha3 (And.intro (kk_ok c4) (?_)))))
      show Ev l d mi_X3_moveCount 19 [some (.ref x0), some (.int x1), some (.int x2)] [.int (s.1 a3 8), .int x2] (hp s) 0 0 _
      refine Ev.icmp_ge (off := 32) (tgt := 51) (by decide +kernel) (by decide) (fun b5 => ?_) (fun b5 => ?_)
      · have hf := (if_pos b5).symm.trans hf
        refine Ev.blk (pc' := 52) [(.iload_n 1, 0, 0, 0)] (by decide +kernel) trivial rfl (?_)
        show Ev l d mi_X3_moveCount 52 [some (.ref x0), some (.int x1), some (.int x2)] [.int x1] (hp s) 0 0 _
        cases hf
        exact Ev.iret .int rfl rfl (by decide +kernel) (Nat.le_refl _) (Nat.le_refl _)
      · have hf := (if_neg b5).symm.trans hf
        refine Ev.blk (pc' := 28) [(.aload_n 0, 0, 0, 0), (.iload_n 2, 0, 0, 0), (.aload_n 0, 0, 0, 0), (.getfield 15, 0, 3, 2)] (by decide +kernel) ⟨kf_3_15, trivial⟩ rfl (And.intro (kk_ok c1) (?_))
        show Ev l d mi_X3_moveCount 28 [some (.ref x0), some (.int x1), some (.int x2)] [.int (s.1 x0 2), .int x2, .ref x0] (hp s) 0 0 _
        obtain ⟨q6, hq6, hf⟩ := bd_some hf
        refine Ev.callV (o := x0) (M' := mi_X3_isOut) (d' := d - 1) (As := [.int x2, .int (s.1 x0 2)]) (rest := []) (r' := (some (.int q6.1), hp q6.2)) (e_X3_isOut (d := d - 1) (by omega) x0 x2 (s.1 x0 2) s _ hq6) (by omega) wm_X3_isOut wi_X3_isOut wv_X3_isOut km_3_102 (kk_ok c1) (Nat.le_of_ble_eq_true rfl) rfl rfl rfl (Nat.le_of_ble_eq_true rfl) ⟨Nat.le_of_ble_eq_true rfl, Nat.le_of_ble_eq_true rfl⟩ (by decide +kernel) ?_
        show Ev l d mi_X3_moveCount 31 [some (.ref x0), some (.int x1), some (.int x2)] [.int q6.1] (hp q6.2) 0 0 _
        refine Ev.if_eq (off := 14) (tgt := 45) (by decide +kernel) (by decide) (fun b7 => ?_) (fun b7 => ?_)
        · have hf := (if_pos b7).symm.trans hf
          refine Ev.blk (pc' := 48) [(.iinc 2 1, 0, 0, 0)] (by decide +kernel) trivial rfl (And.intro (Nat.le_of_ble_eq_true rfl) (?_))
          show Ev l d mi_X3_moveCount 48 [some (.ref x0), some (.int x1), some (.int (x2 + Int32.ofInt 1))] [] (hp q6.2) 0 0 _
          refine Ev.goto (off := -44) (tgt := 4) (by decide +kernel) (by decide) ?_
          exact ih x0 x1 (x2 + Int32.ofInt 1) q6.2 _ hf
        · have hf := (if_neg b7).symm.trans hf
          refine Ev.blk (pc' := 37) [(.iload_n 1, 0, 0, 0), (.aload_n 0, 0, 0, 0), (.iload_n 2, 0, 0, 0)] (by decide +kernel) trivial rfl (?_)
          show Ev l d mi_X3_moveCount 37 [some (.ref x0), some (.int x1), some (.int x2)] [.int x2, .ref x0, .int x1] (hp q6.2) 0 0 _
          obtain ⟨q8, hq8, hf⟩ := bd_some hf
          refine Ev.callV (o := x0) (M' := mi_X3_goals) (d' := d - 1) (As := [.int x2]) (rest := [.int x1]) (r' := (some (.int q8.1), hp q8.2)) (e_X3_goals (d := d - 1) (by omega) x0 x2 q6.2 _ hq8) (by omega) wm_X3_goals wi_X3_goals wv_X3_goals km_3_143 (kk_ok c1) (Nat.le_of_ble_eq_true rfl) rfl rfl rfl (Nat.le_of_ble_eq_true rfl) ⟨Nat.le_of_ble_eq_true rfl, Nat.le_of_ble_eq_true rfl⟩ (by decide +kernel) ?_
          show Ev l d mi_X3_moveCount 40 [some (.ref x0), some (.int x1), some (.int x2)] [.int q8.1, .int x1] (hp q8.2) 0 0 _
          obtain ⟨q9, hq9, hf⟩ := bd_some hf
          refine Ev.callS (M' := mi_J6_bitCount_0f7a4) (d' := d - 1) (As := [.int q8.1]) (rest := [.int x1]) (r' := (some (.int q9.1), hp q9.2)) (e_J6_bitCount_0f7a4 (d := d - 1) (by omega) q8.1 q8.2 _ hq9) (by omega) wm_J6_bitCount_0f7a4 wt_J6_bitCount_0f7a4 km_3_146 rfl rfl rfl (Nat.le_of_ble_eq_true rfl) ⟨Nat.le_of_ble_eq_true rfl, Nat.le_of_ble_eq_true rfl⟩ (by decide +kernel) ?_
          show Ev l d mi_X3_moveCount 43 [some (.ref x0), some (.int x1), some (.int x2)] [.int q9.1, .int x1] (hp q9.2) 0 0 _
          refine Ev.blk (pc' := 48) [(.iadd, 0, 0, 0), (.istore_n 1, 0, 0, 0), (.iinc 2 1, 0, 0, 0)] (by decide +kernel) trivial rfl (And.intro (Nat.le_of_ble_eq_true rfl) (And.intro (Nat.le_of_ble_eq_true rfl) (?_)))
          show Ev l d mi_X3_moveCount 48 [some (.ref x0), some (.int (x1 + q9.1)), some (.int (x2 + Int32.ofInt 1))] [] (hp q9.2) 0 0 _
          refine Ev.goto (off := -44) (tgt := 4) (by decide +kernel) (by decide) ?_
          exact ih x0 (x1 + q9.1) (x2 + Int32.ofInt 1) q9.2 _ hf
def f_X3_moveCount (o : Nat) (s : ST) : Option (Int32 × ST) := (f_X3_moveCount_L4 fuel) o (Int32.ofInt 0) (Int32.ofInt 0) s
set_option maxHeartbeats 2000000 in
set_option maxRecDepth 20000 in
theorem e_X3_moveCount {l : Launch} {d : Nat} (hd : 3 ≤ d) (o : Nat) (s : ST) (r : Int32 × ST) (hf : f_X3_moveCount o s = some r) : Cl l d mi_X3_moveCount [.ref o] (hp s) (some (.int r.1), hp r.2) := by
  refine Ev.entry (by decide +kernel) rfl rfl ?_
  show Ev l d mi_X3_moveCount 0 [some (.ref o), none, none] [] (hp s) 0 0 _
  unfold f_X3_moveCount at hf
  refine Ev.blk (pc' := 4) [(.iconst 0, 0, 0, 0), (.istore_n 1, 0, 0, 0), (.iconst 0, 0, 0, 0), (.istore_n 2, 0, 0, 0)] (by decide +kernel) trivial rfl (And.intro (Nat.le_of_ble_eq_true rfl) (And.intro (Nat.le_of_ble_eq_true rfl) (?_)))
  show Ev l d mi_X3_moveCount 4 [some (.ref o), some (.int (Int32.ofInt 0)), some (.int (Int32.ofInt 0))] [] (hp s) 0 0 _
  exact (e_X3_moveCount_L4 hd fuel) o (Int32.ofInt 0) (Int32.ofInt 0) s _ hf
def f_X3_isOver (o : Nat) (s : ST) : Option (Int32 × ST) := (f_X3_moveCount o s).bind (fun q1 => gd (kk o 3) ((if q1.1 = 0 then some ((Int32.ofInt 1), q1.2) else some ((Int32.ofInt 0), q1.2))))
set_option maxHeartbeats 2000000 in
set_option maxRecDepth 20000 in
theorem e_X3_isOver {l : Launch} {d : Nat} (hd : 4 ≤ d) (o : Nat) (s : ST) (r : Int32 × ST) (hf : f_X3_isOver o s = some r) : Cl l d mi_X3_isOver [.ref o] (hp s) (some (.int r.1), hp r.2) := by
  refine Ev.entry (by decide +kernel) rfl rfl ?_
  show Ev l d mi_X3_isOver 0 [some (.ref o)] [] (hp s) 0 0 _
  unfold f_X3_isOver at hf
  refine Ev.blk (pc' := 1) [(.aload_n 0, 0, 0, 0)] (by decide +kernel) trivial rfl (?_)
  show Ev l d mi_X3_isOver 1 [some (.ref o)] [.ref o] (hp s) 0 0 _
  obtain ⟨q1, hq1, hf⟩ := bd_some hf
  obtain ⟨c2, hf⟩ := gd_some hf
  refine Ev.callV (o := o) (M' := mi_X3_moveCount) (d' := d - 1) (As := []) (rest := []) (r' := (some (.int q1.1), hp q1.2)) (e_X3_moveCount (d := d - 1) (by omega) o s _ hq1) (by omega) wm_X3_moveCount wi_X3_moveCount wv_X3_moveCount km_3_151 (kk_ok c2) (Nat.le_of_ble_eq_true rfl) rfl rfl rfl (Nat.le_of_ble_eq_true rfl) ⟨Nat.le_of_ble_eq_true rfl, Nat.le_of_ble_eq_true rfl⟩ (by decide +kernel) ?_
  show Ev l d mi_X3_isOver 4 [some (.ref o)] [.int q1.1] (hp q1.2) 0 0 _
  refine Ev.if_ne (off := 7) (tgt := 11) (by decide +kernel) (by decide) (fun b3 => ?_) (fun b3 => ?_)
  · have hf := (if_neg b3).symm.trans hf
    refine Ev.blk (pc' := 12) [(.iconst 0, 0, 0, 0)] (by decide +kernel) trivial rfl (?_)
    show Ev l d mi_X3_isOver 12 [some (.ref o)] [.int (Int32.ofInt 0)] (hp q1.2) 0 0 _
    cases hf
    exact Ev.iret .boolean rfl rfl (by decide +kernel) (Nat.le_refl _) (Nat.le_refl _)
  · have hf := (if_pos b3).symm.trans hf
    refine Ev.blk (pc' := 8) [(.iconst 1, 0, 0, 0)] (by decide +kernel) trivial rfl (?_)
    show Ev l d mi_X3_isOver 8 [some (.ref o)] [.int (Int32.ofInt 1)] (hp q1.2) 0 0 _
    refine Ev.goto (off := 4) (tgt := 12) (by decide +kernel) (by decide) ?_
    cases hf
    exact Ev.iret .boolean rfl rfl (by decide +kernel) (Nat.le_refl _) (Nat.le_refl _)
def f_X3_bitAt_L4 : Nat → Int32 → Int32 → Int32 → ST → Option (Int32 × ST)
  | 0, _, _, _, _ => none
  | n + 1, x0, x2, x3, s => (if ((Int8.ofInt 25).toInt32) ≤ x3 then some ((Int32.ofInt 0), s) else (if ((x0 >>> (x3 &&& 31)) &&& (Int32.ofInt 1)) = 0 then (f_X3_bitAt_L4 n) x0 x2 (x3 + Int32.ofInt 1) s else (if x2 = 0 then some (x3, s) else (f_X3_bitAt_L4 n) x0 (x2 + Int32.ofInt (-1)) (x3 + Int32.ofInt 1) s)))
set_option maxHeartbeats 2000000 in
set_option maxRecDepth 20000 in
theorem e_X3_bitAt_L4 {l : Launch} {d : Nat} (hd : 1 ≤ d) : ∀ (n : Nat) (x0 : Int32) (x2 : Int32) (x3 : Int32) (s : ST) (r : Int32 × ST), f_X3_bitAt_L4 n x0 x2 x3 s = some r → Ev l d mi_X3_bitAt 4 [some (.int x0), none, some (.int x2), some (.int x3)] [] (hp s) 0 0 (some (.int r.1), hp r.2) := by
  intro n
  induction n with
  | zero =>
    intro x0 x2 x3 s r hf
    cases hf
  | succ n ih =>
    intro x0 x2 x3 s r hf
    unfold f_X3_bitAt_L4 at hf
    refine Ev.blk (pc' := 7) [(.iload_n 3, 0, 0, 0), (.bipush 25, 0, 0, 0)] (by decide +kernel) trivial rfl (?_)
    show Ev l d mi_X3_bitAt 7 [some (.int x0), none, some (.int x2), some (.int x3)] [.int ((Int8.ofInt 25).toInt32), .int x3] (hp s) 0 0 _
    refine Ev.icmp_ge (off := 26) (tgt := 33) (by decide +kernel) (by decide) (fun b1 => ?_) (fun b1 => ?_)
    · have hf := (if_pos b1).symm.trans hf
      refine Ev.blk (pc' := 34) [(.iconst 0, 0, 0, 0)] (by decide +kernel) trivial rfl (?_)
      show Ev l d mi_X3_bitAt 34 [some (.int x0), none, some (.int x2), some (.int x3)] [.int (Int32.ofInt 0)] (hp s) 0 0 _
      cases hf
      exact Ev.iret .int rfl rfl (by decide +kernel) (Nat.le_refl _) (Nat.le_refl _)
    · have hf := (if_neg b1).symm.trans hf
      refine Ev.blk (pc' := 15) [(.iload_n 0, 0, 0, 0), (.iload_n 3, 0, 0, 0), (.ishr, 0, 0, 0), (.iconst 1, 0, 0, 0), (.iand, 0, 0, 0)] (by decide +kernel) trivial rfl (?_)
      show Ev l d mi_X3_bitAt 15 [some (.int x0), none, some (.int x2), some (.int x3)] [.int ((x0 >>> (x3 &&& 31)) &&& (Int32.ofInt 1))] (hp s) 0 0 _
      refine Ev.if_eq (off := 12) (tgt := 27) (by decide +kernel) (by decide) (fun b2 => ?_) (fun b2 => ?_)
      · have hf := (if_pos b2).symm.trans hf
        refine Ev.blk (pc' := 30) [(.iinc 3 1, 0, 0, 0)] (by decide +kernel) trivial rfl (And.intro (Nat.le_of_ble_eq_true rfl) (?_))
        show Ev l d mi_X3_bitAt 30 [some (.int x0), none, some (.int x2), some (.int (x3 + Int32.ofInt 1))] [] (hp s) 0 0 _
        refine Ev.goto (off := -26) (tgt := 4) (by decide +kernel) (by decide) ?_
        exact ih x0 x2 (x3 + Int32.ofInt 1) s _ hf
      · have hf := (if_neg b2).symm.trans hf
        refine Ev.blk (pc' := 19) [(.iload_n 2, 0, 0, 0)] (by decide +kernel) trivial rfl (?_)
        show Ev l d mi_X3_bitAt 19 [some (.int x0), none, some (.int x2), some (.int x3)] [.int x2] (hp s) 0 0 _
        refine Ev.if_ne (off := 5) (tgt := 24) (by decide +kernel) (by decide) (fun b3 => ?_) (fun b3 => ?_)
        · have hf := (if_neg b3).symm.trans hf
          refine Ev.blk (pc' := 30) [(.iinc 2 (-1), 0, 0, 0), (.iinc 3 1, 0, 0, 0)] (by decide +kernel) trivial rfl (And.intro (Nat.le_of_ble_eq_true rfl) (And.intro (Nat.le_of_ble_eq_true rfl) (?_)))
          show Ev l d mi_X3_bitAt 30 [some (.int x0), none, some (.int (x2 + Int32.ofInt (-1))), some (.int (x3 + Int32.ofInt 1))] [] (hp s) 0 0 _
          refine Ev.goto (off := -26) (tgt := 4) (by decide +kernel) (by decide) ?_
          exact ih x0 (x2 + Int32.ofInt (-1)) (x3 + Int32.ofInt 1) s _ hf
        · have hf := (if_pos b3).symm.trans hf
          refine Ev.blk (pc' := 23) [(.iload_n 3, 0, 0, 0)] (by decide +kernel) trivial rfl (?_)
          show Ev l d mi_X3_bitAt 23 [some (.int x0), none, some (.int x2), some (.int x3)] [.int x3] (hp s) 0 0 _
          cases hf
          exact Ev.iret .int rfl rfl (by decide +kernel) (Nat.le_refl _) (Nat.le_refl _)
def f_X3_bitAt (p0 : Int32) (p1 : Int32) (s : ST) : Option (Int32 × ST) := (f_X3_bitAt_L4 fuel) p0 p1 (Int32.ofInt 0) s
set_option maxHeartbeats 2000000 in
set_option maxRecDepth 20000 in
theorem e_X3_bitAt {l : Launch} {d : Nat} (hd : 1 ≤ d) (p0 : Int32) (p1 : Int32) (s : ST) (r : Int32 × ST) (hf : f_X3_bitAt p0 p1 s = some r) : Cl l d mi_X3_bitAt [.int p0, .int p1] (hp s) (some (.int r.1), hp r.2) := by
  refine Ev.entry (by decide +kernel) rfl rfl ?_
  show Ev l d mi_X3_bitAt 0 [some (.int p0), some (.int p1), none, none] [] (hp s) 0 0 _
  unfold f_X3_bitAt at hf
  refine Ev.blk (pc' := 4) [(.iload_n 1, 0, 0, 0), (.istore_n 2, 0, 0, 0), (.iconst 0, 0, 0, 0), (.istore_n 3, 0, 0, 0)] (by decide +kernel) trivial rfl (And.intro (Nat.le_of_ble_eq_true rfl) (And.intro (Nat.le_of_ble_eq_true rfl) (?_)))
  show Ev l d mi_X3_bitAt 4 [some (.int p0), some (.int p1), some (.int p1), some (.int (Int32.ofInt 0))] [] (hp s) 0 0 _
  exact Ev.wk ((e_X3_bitAt_L4 hd fuel) p0 p1 (Int32.ofInt 0) s _ hf) (And.intro (Or.inr rfl) (And.intro (Or.inl rfl) (And.intro (Or.inr rfl) (And.intro (Or.inr rfl) (trivial)))))
def f_X9_moveOf (p0 : Int32) (p1 : Int32) (s : ST) : Option (Int32 × ST) := some (((p0 * ((Int8.ofInt 25).toInt32)) + p1), s)
set_option maxHeartbeats 2000000 in
set_option maxRecDepth 20000 in
theorem e_X9_moveOf {l : Launch} {d : Nat} (hd : 1 ≤ d) (p0 : Int32) (p1 : Int32) (s : ST) (r : Int32 × ST) (hf : f_X9_moveOf p0 p1 s = some r) : Cl l d mi_X9_moveOf [.int p0, .int p1] (hp s) (some (.int r.1), hp r.2) := by
  refine Ev.entry (by decide +kernel) rfl rfl ?_
  show Ev l d mi_X9_moveOf 0 [some (.int p0), some (.int p1)] [] (hp s) 0 0 _
  unfold f_X9_moveOf at hf
  refine Ev.blk (pc' := 6) [(.iload_n 0, 0, 0, 0), (.bipush 25, 0, 0, 0), (.imul, 0, 0, 0), (.iload_n 1, 0, 0, 0), (.iadd, 0, 0, 0)] (by decide +kernel) trivial rfl (?_)
  show Ev l d mi_X9_moveOf 6 [some (.int p0), some (.int p1)] [.int ((p0 * ((Int8.ofInt 25).toInt32)) + p1)] (hp s) 0 0 _
  cases hf
  exact Ev.iret .int rfl rfl (by decide +kernel) (Nat.le_refl _) (Nat.le_refl _)
def f_X3_moveAt_L4 (k61 : Int32 → Int32 → Int32 → ST → Option (Int32 × ST)) : Nat → Nat → Int32 → Int32 → Int32 → ST → Option (Int32 × ST)
  | 0, _, _, _, _, _ => none
  | n + 1, x0, x1, x2, x3, s => gd (kk x0 3) ((if (s.1 x0 9) = 0 then (if x1 < 0 then some ((Int32.ofInt (-1)), s) else (RR s.2.2 x0 0).bind (fun a4 => gd (kk a4 4) ((if (s.1 a4 8) ≤ x3 then some ((Int32.ofInt (-1)), s) else (f_X3_isOut x0 x3 (s.1 x0 2) s).bind (fun q7 => (if q7.1 = 0 then (f_X3_moveAt_L4 k61 n) x0 x1 x2 (x3 + Int32.ofInt 1) q7.2 else (f_X3_goals x0 x3 q7.2).bind (fun q9 => (f_J6_bitCount_0f7a4 q9.1 q9.2).bind (fun q10 => (if q10.1 ≤ x2 then (f_X3_moveAt_L4 k61 n) x0 x1 (x2 - q10.1) (x3 + Int32.ofInt 1) q10.2 else k61 x2 x3 q9.1 q10.2))))))))) else some ((Int32.ofInt (-1)), s)))
set_option maxHeartbeats 2000000 in
set_option maxRecDepth 20000 in
theorem e_X3_moveAt_L4 {l : Launch} {d : Nat} (hd : 3 ≤ d) (k61 : Int32 → Int32 → Int32 → ST → Option (Int32 × ST)) (hk61 : ∀ (x2 : Int32) (x3 : Int32) (x4 : Int32) (s : ST) (r : Int32 × ST), k61 x2 x3 x4 s = some r → Ev l d mi_X3_moveAt 61 [none, none, some (.int x2), some (.int x3), some (.int x4), none] [] (hp s) 0 0 (some (.int r.1), hp r.2)) : ∀ (n : Nat) (x0 : Nat) (x1 : Int32) (x2 : Int32) (x3 : Int32) (s : ST) (r : Int32 × ST), f_X3_moveAt_L4 k61 n x0 x1 x2 x3 s = some r → Ev l d mi_X3_moveAt 4 [some (.ref x0), some (.int x1), some (.int x2), some (.int x3), none, none] [] (hp s) 0 0 (some (.int r.1), hp r.2) := by
  intro n
  induction n with
  | zero =>
    intro x0 x1 x2 x3 s r hf
    cases hf
  | succ n ih =>
    intro x0 x1 x2 x3 s r hf
    unfold f_X3_moveAt_L4 at hf
    obtain ⟨c1, hf⟩ := gd_some hf
    refine Ev.blk (pc' := 8) [(.aload_n 0, 0, 0, 0), (.getfield 37, 0, 3, 9)] (by decide +kernel) ⟨kf_3_37, trivial⟩ rfl (And.intro (kk_ok c1) (?_))
    show Ev l d mi_X3_moveAt 8 [some (.ref x0), some (.int x1), some (.int x2), some (.int x3), none, none] [.int (s.1 x0 9)] (hp s) 0 0 _
    refine Ev.if_ne (off := 75) (tgt := 83) (by decide +kernel) (by decide) (fun b2 => ?_) (fun b2 => ?_)
    · have hf := (if_neg b2).symm.trans hf
      refine Ev.blk (pc' := 84) [(.iconst (-1), 0, 0, 0)] (by decide +kernel) trivial rfl (?_)
      show Ev l d mi_X3_moveAt 84 [some (.ref x0), some (.int x1), some (.int x2), some (.int x3), none, none] [.int (Int32.ofInt (-1))] (hp s) 0 0 _
      cases hf
      exact Ev.iret .int rfl rfl (by decide +kernel) (Nat.le_refl _) (Nat.le_refl _)
    · have hf := (if_pos b2).symm.trans hf
      refine Ev.blk (pc' := 12) [(.iload_n 1, 0, 0, 0)] (by decide +kernel) trivial rfl (?_)
      show Ev l d mi_X3_moveAt 12 [some (.ref x0), some (.int x1), some (.int x2), some (.int x3), none, none] [.int x1] (hp s) 0 0 _
      refine Ev.if_lt (off := 71) (tgt := 83) (by decide +kernel) (by decide) (fun b3 => ?_) (fun b3 => ?_)
      · have hf := (if_pos b3).symm.trans hf
        refine Ev.blk (pc' := 84) [(.iconst (-1), 0, 0, 0)] (by decide +kernel) trivial rfl (?_)
        show Ev l d mi_X3_moveAt 84 [some (.ref x0), some (.int x1), some (.int x2), some (.int x3), none, none] [.int (Int32.ofInt (-1))] (hp s) 0 0 _
        cases hf
        exact Ev.iret .int rfl rfl (by decide +kernel) (Nat.le_refl _) (Nat.le_refl _)
      · have hf := (if_neg b3).symm.trans hf
        obtain ⟨a4, ha4, hf⟩ := bd_some hf
        obtain ⟨c5, hf⟩ := gd_some hf
        refine Ev.blk (pc' := 23) [(.iload_n 3, 0, 0, 0), (.aload_n 0, 0, 0, 0), (.getfield 56, 0, 3, 0), (.getfield 66, 0, 4, 8)] (by decide +kernel) ⟨kf_3_56, ⟨kf_3_66, trivial⟩⟩ rfl (And.intro (kk_ok c1) (Exists.intro a4 (And.intro ha4 (And.intro (kk_ok c5) (?_)))))
        show Ev l d mi_X3_moveAt 23 [some (.ref x0), some (.int x1), some (.int x2), some (.int x3), none, none] [.int (s.1 a4 8), .int x3] (hp s) 0 0 _
        refine Ev.icmp_ge (off := 60) (tgt := 83) (by decide +kernel) (by decide) (fun b6 => ?_) (fun b6 => ?_)
        · have hf := (if_pos b6).symm.trans hf
          refine Ev.blk (pc' := 84) [(.iconst (-1), 0, 0, 0)] (by decide +kernel) trivial rfl (?_)
          show Ev l d mi_X3_moveAt 84 [some (.ref x0), some (.int x1), some (.int x2), some (.int x3), none, none] [.int (Int32.ofInt (-1))] (hp s) 0 0 _
          cases hf
          exact Ev.iret .int rfl rfl (by decide +kernel) (Nat.le_refl _) (Nat.le_refl _)
        · have hf := (if_neg b6).symm.trans hf
          refine Ev.blk (pc' := 32) [(.aload_n 0, 0, 0, 0), (.iload_n 3, 0, 0, 0), (.aload_n 0, 0, 0, 0), (.getfield 15, 0, 3, 2)] (by decide +kernel) ⟨kf_3_15, trivial⟩ rfl (And.intro (kk_ok c1) (?_))
          show Ev l d mi_X3_moveAt 32 [some (.ref x0), some (.int x1), some (.int x2), some (.int x3), none, none] [.int (s.1 x0 2), .int x3, .ref x0] (hp s) 0 0 _
          obtain ⟨q7, hq7, hf⟩ := bd_some hf
          refine Ev.callV (o := x0) (M' := mi_X3_isOut) (d' := d - 1) (As := [.int x3, .int (s.1 x0 2)]) (rest := []) (r' := (some (.int q7.1), hp q7.2)) (e_X3_isOut (d := d - 1) (by omega) x0 x3 (s.1 x0 2) s _ hq7) (by omega) wm_X3_isOut wi_X3_isOut wv_X3_isOut km_3_102 (kk_ok c1) (Nat.le_of_ble_eq_true rfl) rfl rfl rfl (Nat.le_of_ble_eq_true rfl) ⟨Nat.le_of_ble_eq_true rfl, Nat.le_of_ble_eq_true rfl⟩ (by decide +kernel) ?_
          show Ev l d mi_X3_moveAt 35 [some (.ref x0), some (.int x1), some (.int x2), some (.int x3), none, none] [.int q7.1] (hp q7.2) 0 0 _
          refine Ev.if_ne (off := 6) (tgt := 41) (by decide +kernel) (by decide) (fun b8 => ?_) (fun b8 => ?_)
          · have hf := (if_neg b8).symm.trans hf
            refine Ev.blk (pc' := 43) [(.aload_n 0, 0, 0, 0), (.iload_n 3, 0, 0, 0)] (by decide +kernel) trivial rfl (?_)
            show Ev l d mi_X3_moveAt 43 [some (.ref x0), some (.int x1), some (.int x2), some (.int x3), none, none] [.int x3, .ref x0] (hp q7.2) 0 0 _
            obtain ⟨q9, hq9, hf⟩ := bd_some hf
            refine Ev.callV (o := x0) (M' := mi_X3_goals) (d' := d - 1) (As := [.int x3]) (rest := []) (r' := (some (.int q9.1), hp q9.2)) (e_X3_goals (d := d - 1) (by omega) x0 x3 q7.2 _ hq9) (by omega) wm_X3_goals wi_X3_goals wv_X3_goals km_3_143 (kk_ok c1) (Nat.le_of_ble_eq_true rfl) rfl rfl rfl (Nat.le_of_ble_eq_true rfl) ⟨Nat.le_of_ble_eq_true rfl, Nat.le_of_ble_eq_true rfl⟩ (by decide +kernel) ?_
            show Ev l d mi_X3_moveAt 46 [some (.ref x0), some (.int x1), some (.int x2), some (.int x3), none, none] [.int q9.1] (hp q9.2) 0 0 _
            refine Ev.blk (pc' := 50) [(.istore 4, 0, 0, 0), (.iload 4, 0, 0, 0)] (by decide +kernel) trivial rfl (And.intro (Nat.le_of_ble_eq_true rfl) (?_))
            show Ev l d mi_X3_moveAt 50 [some (.ref x0), some (.int x1), some (.int x2), some (.int x3), some (.int q9.1), none] [.int q9.1] (hp q9.2) 0 0 _
            obtain ⟨q10, hq10, hf⟩ := bd_some hf
            refine Ev.callS (M' := mi_J6_bitCount_0f7a4) (d' := d - 1) (As := [.int q9.1]) (rest := []) (r' := (some (.int q10.1), hp q10.2)) (e_J6_bitCount_0f7a4 (d := d - 1) (by omega) q9.1 q9.2 _ hq10) (by omega) wm_J6_bitCount_0f7a4 wt_J6_bitCount_0f7a4 km_3_146 rfl rfl rfl (Nat.le_of_ble_eq_true rfl) ⟨Nat.le_of_ble_eq_true rfl, Nat.le_of_ble_eq_true rfl⟩ (by decide +kernel) ?_
            show Ev l d mi_X3_moveAt 53 [some (.ref x0), some (.int x1), some (.int x2), some (.int x3), some (.int q9.1), none] [.int q10.1] (hp q10.2) 0 0 _
            refine Ev.blk (pc' := 58) [(.istore 5, 0, 0, 0), (.iload_n 2, 0, 0, 0), (.iload 5, 0, 0, 0)] (by decide +kernel) trivial rfl (And.intro (Nat.le_of_ble_eq_true rfl) (?_))
            show Ev l d mi_X3_moveAt 58 [some (.ref x0), some (.int x1), some (.int x2), some (.int x3), some (.int q9.1), some (.int q10.1)] [.int q10.1, .int x2] (hp q10.2) 0 0 _
            refine Ev.icmp_ge (off := 14) (tgt := 72) (by decide +kernel) (by decide) (fun b11 => ?_) (fun b11 => ?_)
            · have hf := (if_pos b11).symm.trans hf
              refine Ev.blk (pc' := 80) [(.iload_n 2, 0, 0, 0), (.iload 5, 0, 0, 0), (.isub, 0, 0, 0), (.istore_n 2, 0, 0, 0), (.iinc 3 1, 0, 0, 0)] (by decide +kernel) trivial rfl (And.intro (Nat.le_of_ble_eq_true rfl) (And.intro (Nat.le_of_ble_eq_true rfl) (?_)))
              show Ev l d mi_X3_moveAt 80 [some (.ref x0), some (.int x1), some (.int (x2 - q10.1)), some (.int (x3 + Int32.ofInt 1)), some (.int q9.1), some (.int q10.1)] [] (hp q10.2) 0 0 _
              refine Ev.goto (off := -76) (tgt := 4) (by decide +kernel) (by decide) ?_
              exact Ev.wk (ih x0 x1 (x2 - q10.1) (x3 + Int32.ofInt 1) q10.2 _ hf) (And.intro (Or.inr rfl) (And.intro (Or.inr rfl) (And.intro (Or.inr rfl) (And.intro (Or.inr rfl) (And.intro (Or.inl rfl) (And.intro (Or.inl rfl) (trivial)))))))
            · have hf := (if_neg b11).symm.trans hf
              exact Ev.wk (hk61 x2 x3 q9.1 q10.2 _ hf) (And.intro (Or.inl rfl) (And.intro (Or.inl rfl) (And.intro (Or.inr rfl) (And.intro (Or.inr rfl) (And.intro (Or.inr rfl) (And.intro (Or.inl rfl) (trivial)))))))
          · have hf := (if_pos b8).symm.trans hf
            refine Ev.goto (off := 39) (tgt := 77) (by decide +kernel) (by decide) ?_
            refine Ev.blk (pc' := 80) [(.iinc 3 1, 0, 0, 0)] (by decide +kernel) trivial rfl (And.intro (Nat.le_of_ble_eq_true rfl) (?_))
            show Ev l d mi_X3_moveAt 80 [some (.ref x0), some (.int x1), some (.int x2), some (.int (x3 + Int32.ofInt 1)), none, none] [] (hp q7.2) 0 0 _
            refine Ev.goto (off := -76) (tgt := 4) (by decide +kernel) (by decide) ?_
            exact ih x0 x1 x2 (x3 + Int32.ofInt 1) q7.2 _ hf
def f_X3_moveAt_j61 (x2 : Int32) (x3 : Int32) (x4 : Int32) (s : ST) : Option (Int32 × ST) := (f_X3_bitAt x4 x2 s).bind (fun q12 => (f_X9_moveOf x3 q12.1 q12.2).bind (fun q13 => some (q13.1, q13.2)))
set_option maxHeartbeats 2000000 in
set_option maxRecDepth 20000 in
theorem e_X3_moveAt_j61 {l : Launch} {d : Nat} (hd : 3 ≤ d) (x2 : Int32) (x3 : Int32) (x4 : Int32) (s : ST) (r : Int32 × ST) (hf : f_X3_moveAt_j61 x2 x3 x4 s = some r) : Ev l d mi_X3_moveAt 61 [none, none, some (.int x2), some (.int x3), some (.int x4), none] [] (hp s) 0 0 (some (.int r.1), hp r.2) := by
  unfold f_X3_moveAt_j61 at hf
  refine Ev.blk (pc' := 65) [(.iload_n 3, 0, 0, 0), (.iload 4, 0, 0, 0), (.iload_n 2, 0, 0, 0)] (by decide +kernel) trivial rfl (?_)
  show Ev l d mi_X3_moveAt 65 [none, none, some (.int x2), some (.int x3), some (.int x4), none] [.int x2, .int x4, .int x3] (hp s) 0 0 _
  obtain ⟨q12, hq12, hf⟩ := bd_some hf
  refine Ev.callS (M' := mi_X3_bitAt) (d' := d - 1) (As := [.int x4, .int x2]) (rest := [.int x3]) (r' := (some (.int q12.1), hp q12.2)) (e_X3_bitAt (d := d - 1) (by omega) x4 x2 s _ hq12) (by omega) wm_X3_bitAt wt_X3_bitAt km_3_155 rfl rfl rfl (Nat.le_of_ble_eq_true rfl) ⟨Nat.le_of_ble_eq_true rfl, Nat.le_of_ble_eq_true rfl⟩ (by decide +kernel) ?_
  show Ev l d mi_X3_moveAt 68 [none, none, some (.int x2), some (.int x3), some (.int x4), none] [.int q12.1, .int x3] (hp q12.2) 0 0 _
  obtain ⟨q13, hq13, hf⟩ := bd_some hf
  refine Ev.callSN (M' := mi_X9_moveOf) (d' := d - 1) (As := [.int x3, .int q12.1]) (rest := []) (r' := (some (.int q13.1), hp q13.2)) (e_X9_moveOf (d := d - 1) (by omega) x3 q12.1 q12.2 _ hq13) (by omega) wm_X9_moveOf wt_X9_moveOf kn_3_159 rfl rfl rfl (Nat.le_of_ble_eq_true rfl) ⟨Nat.le_of_ble_eq_true rfl, Nat.le_of_ble_eq_true rfl⟩ (by decide +kernel) ?_
  show Ev l d mi_X3_moveAt 71 [none, none, some (.int x2), some (.int x3), some (.int x4), none] [.int q13.1] (hp q13.2) 0 0 _
  cases hf
  exact Ev.iret .int rfl rfl (by decide +kernel) (Nat.le_refl _) (Nat.le_refl _)
def f_X3_moveAt (o : Nat) (p0 : Int32) (s : ST) : Option (Int32 × ST) := (f_X3_moveAt_L4 f_X3_moveAt_j61 fuel) o p0 p0 (Int32.ofInt 0) s
set_option maxHeartbeats 2000000 in
set_option maxRecDepth 20000 in
theorem e_X3_moveAt {l : Launch} {d : Nat} (hd : 3 ≤ d) (o : Nat) (p0 : Int32) (s : ST) (r : Int32 × ST) (hf : f_X3_moveAt o p0 s = some r) : Cl l d mi_X3_moveAt [.ref o, .int p0] (hp s) (some (.int r.1), hp r.2) := by
  refine Ev.entry (by decide +kernel) rfl rfl ?_
  show Ev l d mi_X3_moveAt 0 [some (.ref o), some (.int p0), none, none, none, none] [] (hp s) 0 0 _
  unfold f_X3_moveAt at hf
  refine Ev.blk (pc' := 4) [(.iload_n 1, 0, 0, 0), (.istore_n 2, 0, 0, 0), (.iconst 0, 0, 0, 0), (.istore_n 3, 0, 0, 0)] (by decide +kernel) trivial rfl (And.intro (Nat.le_of_ble_eq_true rfl) (And.intro (Nat.le_of_ble_eq_true rfl) (?_)))
  show Ev l d mi_X3_moveAt 4 [some (.ref o), some (.int p0), some (.int p0), some (.int (Int32.ofInt 0)), none, none] [] (hp s) 0 0 _
  exact (e_X3_moveAt_L4 hd f_X3_moveAt_j61 (e_X3_moveAt_j61 hd) fuel) o p0 p0 (Int32.ofInt 0) s _ hf
def f_X3_numberOf_j81 (k10 : Nat → Int32 → Int32 → Int32 → ST → Option (Int32 × ST)) (x0 : Nat) (x1 : Int32) (x3 : Int32) (y0 : Int32) (y1 : Int32) (s : ST) : Option (Int32 × ST) := (f_J6_bitCount_0f7a4 y1 s).bind (fun q15 => k10 x0 x1 (y0 + q15.1) (x3 + Int32.ofInt 1) q15.2)
set_option maxHeartbeats 2000000 in
set_option maxRecDepth 20000 in
theorem e_X3_numberOf_j81 {l : Launch} {d : Nat} (hd : 3 ≤ d) (k10 : Nat → Int32 → Int32 → Int32 → ST → Option (Int32 × ST)) (hk10 : ∀ (x0 : Nat) (x1 : Int32) (x2 : Int32) (x3 : Int32) (s : ST) (r : Int32 × ST), k10 x0 x1 x2 x3 s = some r → Ev l d mi_X3_numberOf 10 [some (.ref x0), some (.int x1), some (.int x2), some (.int x3), none, none] [] (hp s) 0 0 (some (.int r.1), hp r.2)) (x0 : Nat) (x1 : Int32) (x3 : Int32) (y0 : Int32) (y1 : Int32) (s : ST) (r : Int32 × ST) (hf : f_X3_numberOf_j81 k10 x0 x1 x3 y0 y1 s = some r) : Ev l d mi_X3_numberOf 81 [some (.ref x0), some (.int x1), none, some (.int x3), none, none] [.int y1, .int y0] (hp s) 0 0 (some (.int r.1), hp r.2) := by
  unfold f_X3_numberOf_j81 at hf
  obtain ⟨q15, hq15, hf⟩ := bd_some hf
  refine Ev.callS (M' := mi_J6_bitCount_0f7a4) (d' := d - 1) (As := [.int y1]) (rest := [.int y0]) (r' := (some (.int q15.1), hp q15.2)) (e_J6_bitCount_0f7a4 (d := d - 1) (by omega) y1 s _ hq15) (by omega) wm_J6_bitCount_0f7a4 wt_J6_bitCount_0f7a4 km_3_146 rfl rfl rfl (Nat.le_of_ble_eq_true rfl) ⟨Nat.le_of_ble_eq_true rfl, Nat.le_of_ble_eq_true rfl⟩ (by decide +kernel) ?_
  show Ev l d mi_X3_numberOf 84 [some (.ref x0), some (.int x1), none, some (.int x3), none, none] [.int q15.1, .int y0] (hp q15.2) 0 0 _
  refine Ev.blk (pc' := 89) [(.iadd, 0, 0, 0), (.istore_n 2, 0, 0, 0), (.iinc 3 1, 0, 0, 0)] (by decide +kernel) trivial rfl (And.intro (Nat.le_of_ble_eq_true rfl) (And.intro (Nat.le_of_ble_eq_true rfl) (?_)))
  show Ev l d mi_X3_numberOf 89 [some (.ref x0), some (.int x1), some (.int (y0 + q15.1)), some (.int (x3 + Int32.ofInt 1)), none, none] [] (hp q15.2) 0 0 _
  refine Ev.goto (off := -79) (tgt := 10) (by decide +kernel) (by decide) ?_
  exact hk10 x0 x1 (y0 + q15.1) (x3 + Int32.ofInt 1) q15.2 _ hf
def f_X3_numberOf_j50 (k10 : Nat → Int32 → Int32 → Int32 → ST → Option (Int32 × ST)) (x0 : Nat) (x1 : Int32) (x2 : Int32) (x3 : Int32) (y0 : Int32) (s : ST) : Option (Int32 × ST) := (f_X9_placeOfMove x1 s).bind (fun q11 => (f_X9_manOfMove x1 q11.2).bind (fun q12 => (if q12.1 ≤ x3 then lt (y0 &&& (((Int32.ofInt 1) <<< (q11.1 &&& 31)) - (Int32.ofInt 1))) (fun v14 => (f_X3_numberOf_j81 k10) x0 x1 x3 x2 v14 q12.2) else (f_X3_numberOf_j81 k10) x0 x1 x3 x2 y0 q12.2)))
set_option maxHeartbeats 2000000 in
set_option maxRecDepth 20000 in
theorem e_X3_numberOf_j50 {l : Launch} {d : Nat} (hd : 3 ≤ d) (k10 : Nat → Int32 → Int32 → Int32 → ST → Option (Int32 × ST)) (hk10 : ∀ (x0 : Nat) (x1 : Int32) (x2 : Int32) (x3 : Int32) (s : ST) (r : Int32 × ST), k10 x0 x1 x2 x3 s = some r → Ev l d mi_X3_numberOf 10 [some (.ref x0), some (.int x1), some (.int x2), some (.int x3), none, none] [] (hp s) 0 0 (some (.int r.1), hp r.2)) (x0 : Nat) (x1 : Int32) (x2 : Int32) (x3 : Int32) (y0 : Int32) (s : ST) (r : Int32 × ST) (hf : f_X3_numberOf_j50 k10 x0 x1 x2 x3 y0 s = some r) : Ev l d mi_X3_numberOf 50 [some (.ref x0), some (.int x1), some (.int x2), some (.int x3), none, none] [.int y0] (hp s) 0 0 (some (.int r.1), hp r.2) := by
  unfold f_X3_numberOf_j50 at hf
  refine Ev.blk (pc' := 54) [(.istore 4, 0, 0, 0), (.iconst 1, 0, 0, 0), (.iload_n 1, 0, 0, 0)] (by decide +kernel) trivial rfl (And.intro (Nat.le_of_ble_eq_true rfl) (?_))
  show Ev l d mi_X3_numberOf 54 [some (.ref x0), some (.int x1), some (.int x2), some (.int x3), some (.int y0), none] [.int x1, .int (Int32.ofInt 1)] (hp s) 0 0 _
  obtain ⟨q11, hq11, hf⟩ := bd_some hf
  refine Ev.callSN (M' := mi_X9_placeOfMove) (d' := d - 1) (As := [.int x1]) (rest := [.int (Int32.ofInt 1)]) (r' := (some (.int q11.1), hp q11.2)) (e_X9_placeOfMove (d := d - 1) (by omega) x1 s _ hq11) (by omega) wm_X9_placeOfMove wt_X9_placeOfMove kn_3_165 rfl rfl rfl (Nat.le_of_ble_eq_true rfl) ⟨Nat.le_of_ble_eq_true rfl, Nat.le_of_ble_eq_true rfl⟩ (by decide +kernel) ?_
  show Ev l d mi_X3_numberOf 57 [some (.ref x0), some (.int x1), some (.int x2), some (.int x3), some (.int y0), none] [.int q11.1, .int (Int32.ofInt 1)] (hp q11.2) 0 0 _
  refine Ev.blk (pc' := 65) [(.ishl, 0, 0, 0), (.iconst 1, 0, 0, 0), (.isub, 0, 0, 0), (.istore 5, 0, 0, 0), (.iload_n 2, 0, 0, 0), (.iload_n 3, 0, 0, 0), (.iload_n 1, 0, 0, 0)] (by decide +kernel) trivial rfl (And.intro (Nat.le_of_ble_eq_true rfl) (?_))
  show Ev l d mi_X3_numberOf 65 [some (.ref x0), some (.int x1), some (.int x2), some (.int x3), some (.int y0), some (.int (((Int32.ofInt 1) <<< (q11.1 &&& 31)) - (Int32.ofInt 1)))] [.int x1, .int x3, .int x2] (hp q11.2) 0 0 _
  obtain ⟨q12, hq12, hf⟩ := bd_some hf
  refine Ev.callSN (M' := mi_X9_manOfMove) (d' := d - 1) (As := [.int x1]) (rest := [.int x3, .int x2]) (r' := (some (.int q12.1), hp q12.2)) (e_X9_manOfMove (d := d - 1) (by omega) x1 q11.2 _ hq12) (by omega) wm_X9_manOfMove wt_X9_manOfMove kn_3_162 rfl rfl rfl (Nat.le_of_ble_eq_true rfl) ⟨Nat.le_of_ble_eq_true rfl, Nat.le_of_ble_eq_true rfl⟩ (by decide +kernel) ?_
  show Ev l d mi_X3_numberOf 68 [some (.ref x0), some (.int x1), some (.int x2), some (.int x3), some (.int y0), some (.int (((Int32.ofInt 1) <<< (q11.1 &&& 31)) - (Int32.ofInt 1)))] [.int q12.1, .int x3, .int x2] (hp q12.2) 0 0 _
  refine Ev.icmp_ge (off := 8) (tgt := 76) (by decide +kernel) (by decide) (fun b13 => ?_) (fun b13 => ?_)
  · have hf := (if_pos b13).symm.trans hf
    obtain ⟨v14, hv14, hf⟩ := lt_some hf
    refine Ev.blk (pc' := 81) [(.iload 4, 0, 0, 0), (.iload 5, 0, 0, 0), (.iand, 0, 0, 0)] (by decide +kernel) trivial rfl (?_)
    show Ev l d mi_X3_numberOf 81 [some (.ref x0), some (.int x1), some (.int x2), some (.int x3), some (.int y0), some (.int (((Int32.ofInt 1) <<< (q11.1 &&& 31)) - (Int32.ofInt 1)))] [.int (y0 &&& (((Int32.ofInt 1) <<< (q11.1 &&& 31)) - (Int32.ofInt 1))), .int x2] (hp q12.2) 0 0 _
    rw [← hv14]
    exact Ev.wk ((e_X3_numberOf_j81 hd k10 hk10) x0 x1 x3 x2 v14 q12.2 _ hf) (And.intro (Or.inr rfl) (And.intro (Or.inr rfl) (And.intro (Or.inl rfl) (And.intro (Or.inr rfl) (And.intro (Or.inl rfl) (And.intro (Or.inl rfl) (trivial)))))))
  · have hf := (if_neg b13).symm.trans hf
    refine Ev.blk (pc' := 73) [(.iload 4, 0, 0, 0)] (by decide +kernel) trivial rfl (?_)
    show Ev l d mi_X3_numberOf 73 [some (.ref x0), some (.int x1), some (.int x2), some (.int x3), some (.int y0), some (.int (((Int32.ofInt 1) <<< (q11.1 &&& 31)) - (Int32.ofInt 1)))] [.int y0, .int x2] (hp q12.2) 0 0 _
    refine Ev.goto (off := 8) (tgt := 81) (by decide +kernel) (by decide) ?_
    exact Ev.wk ((e_X3_numberOf_j81 hd k10 hk10) x0 x1 x3 x2 y0 q12.2 _ hf) (And.intro (Or.inr rfl) (And.intro (Or.inr rfl) (And.intro (Or.inl rfl) (And.intro (Or.inr rfl) (And.intro (Or.inl rfl) (And.intro (Or.inl rfl) (trivial)))))))
def f_X3_numberOf_L10 : Nat → Nat → Int32 → Int32 → Int32 → ST → Option (Int32 × ST)
  | 0, _, _, _, _, _ => none
  | n + 1, x0, x1, x2, x3, s => gd (kk x0 3) ((RR s.2.2 x0 0).bind (fun a3 => gd (kk a3 4) ((if (s.1 a3 8) ≤ x3 then some (x2, s) else (f_X9_manOfMove x1 s).bind (fun q6 => (if q6.1 < x3 then some (x2, q6.2) else (f_X3_isOut x0 x3 (q6.2.1 x0 2) q6.2).bind (fun q8 => (if q8.1 = 0 then (f_X3_numberOf_j50 (f_X3_numberOf_L10 n)) x0 x1 x2 x3 (Int32.ofInt 0) q8.2 else (f_X3_goals x0 x3 q8.2).bind (fun q10 => (f_X3_numberOf_j50 (f_X3_numberOf_L10 n)) x0 x1 x2 x3 q10.1 q10.2)))))))))
set_option maxHeartbeats 2000000 in
set_option maxRecDepth 20000 in
theorem e_X3_numberOf_L10 {l : Launch} {d : Nat} (hd : 3 ≤ d) : ∀ (n : Nat) (x0 : Nat) (x1 : Int32) (x2 : Int32) (x3 : Int32) (s : ST) (r : Int32 × ST), f_X3_numberOf_L10 n x0 x1 x2 x3 s = some r → Ev l d mi_X3_numberOf 10 [some (.ref x0), some (.int x1), some (.int x2), some (.int x3), none, none] [] (hp s) 0 0 (some (.int r.1), hp r.2) := by
  intro n
  induction n with
  | zero =>
    intro x0 x1 x2 x3 s r hf
    cases hf
  | succ n ih =>
    intro x0 x1 x2 x3 s r hf
    unfold f_X3_numberOf_L10 at hf
    obtain ⟨c2, hf⟩ := gd_some hf
    obtain ⟨a3, ha3, hf⟩ := bd_some hf
    obtain ⟨c4, hf⟩ := gd_some hf
    refine Ev.blk (pc' := 18) [(.iload_n 3, 0, 0, 0), (.aload_n 0, 0, 0, 0), (.getfield 56, 0, 3, 0), (.getfield 66, 0, 4, 8)] (by decide +kernel) ⟨kf_3_56, ⟨kf_3_66, trivial⟩⟩ rfl (And.intro (kk_ok c2) (Exists.intro a3 (And.intro ha3 (And.intro (kk_ok c4) (?_)))))
    show Ev l d mi_X3_numberOf 18 [some (.ref x0), some (.int x1), some (.int x2), some (.int x3), none, none] [.int (s.1 a3 8), .int x3] (hp s) 0 0 _
    refine Ev.icmp_ge (off := 74) (tgt := 92) (by decide +kernel) (by decide) (fun b5 => ?_) (fun b5 => ?_)
    · have hf := (if_pos b5).symm.trans hf
      refine Ev.blk (pc' := 93) [(.iload_n 2, 0, 0, 0)] (by decide +kernel) trivial rfl (?_)
      show Ev l d mi_X3_numberOf 93 [some (.ref x0), some (.int x1), some (.int x2), some (.int x3), none, none] [.int x2] (hp s) 0 0 _
      cases hf
      exact Ev.iret .int rfl rfl (by decide +kernel) (Nat.le_refl _) (Nat.le_refl _)
    · have hf := (if_neg b5).symm.trans hf
      refine Ev.blk (pc' := 23) [(.iload_n 3, 0, 0, 0), (.iload_n 1, 0, 0, 0)] (by decide +kernel) trivial rfl (?_)
      show Ev l d mi_X3_numberOf 23 [some (.ref x0), some (.int x1), some (.int x2), some (.int x3), none, none] [.int x1, .int x3] (hp s) 0 0 _
      obtain ⟨q6, hq6, hf⟩ := bd_some hf
      refine Ev.callSN (M' := mi_X9_manOfMove) (d' := d - 1) (As := [.int x1]) (rest := [.int x3]) (r' := (some (.int q6.1), hp q6.2)) (e_X9_manOfMove (d := d - 1) (by omega) x1 s _ hq6) (by omega) wm_X9_manOfMove wt_X9_manOfMove kn_3_162 rfl rfl rfl (Nat.le_of_ble_eq_true rfl) ⟨Nat.le_of_ble_eq_true rfl, Nat.le_of_ble_eq_true rfl⟩ (by decide +kernel) ?_
      show Ev l d mi_X3_numberOf 26 [some (.ref x0), some (.int x1), some (.int x2), some (.int x3), none, none] [.int q6.1, .int x3] (hp q6.2) 0 0 _
      refine Ev.icmp_gt (off := 66) (tgt := 92) (by decide +kernel) (by decide) (fun b7 => ?_) (fun b7 => ?_)
      · have hf := (if_pos b7).symm.trans hf
        refine Ev.blk (pc' := 93) [(.iload_n 2, 0, 0, 0)] (by decide +kernel) trivial rfl (?_)
        show Ev l d mi_X3_numberOf 93 [some (.ref x0), some (.int x1), some (.int x2), some (.int x3), none, none] [.int x2] (hp q6.2) 0 0 _
        cases hf
        exact Ev.iret .int rfl rfl (by decide +kernel) (Nat.le_refl _) (Nat.le_refl _)
      · have hf := (if_neg b7).symm.trans hf
        refine Ev.blk (pc' := 35) [(.aload_n 0, 0, 0, 0), (.iload_n 3, 0, 0, 0), (.aload_n 0, 0, 0, 0), (.getfield 15, 0, 3, 2)] (by decide +kernel) ⟨kf_3_15, trivial⟩ rfl (And.intro (kk_ok c2) (?_))
        show Ev l d mi_X3_numberOf 35 [some (.ref x0), some (.int x1), some (.int x2), some (.int x3), none, none] [.int (q6.2.1 x0 2), .int x3, .ref x0] (hp q6.2) 0 0 _
        obtain ⟨q8, hq8, hf⟩ := bd_some hf
        refine Ev.callV (o := x0) (M' := mi_X3_isOut) (d' := d - 1) (As := [.int x3, .int (q6.2.1 x0 2)]) (rest := []) (r' := (some (.int q8.1), hp q8.2)) (e_X3_isOut (d := d - 1) (by omega) x0 x3 (q6.2.1 x0 2) q6.2 _ hq8) (by omega) wm_X3_isOut wi_X3_isOut wv_X3_isOut km_3_102 (kk_ok c2) (Nat.le_of_ble_eq_true rfl) rfl rfl rfl (Nat.le_of_ble_eq_true rfl) ⟨Nat.le_of_ble_eq_true rfl, Nat.le_of_ble_eq_true rfl⟩ (by decide +kernel) ?_
        show Ev l d mi_X3_numberOf 38 [some (.ref x0), some (.int x1), some (.int x2), some (.int x3), none, none] [.int q8.1] (hp q8.2) 0 0 _
        refine Ev.if_eq (off := 11) (tgt := 49) (by decide +kernel) (by decide) (fun b9 => ?_) (fun b9 => ?_)
        · have hf := (if_pos b9).symm.trans hf
          refine Ev.blk (pc' := 50) [(.iconst 0, 0, 0, 0)] (by decide +kernel) trivial rfl (?_)
          show Ev l d mi_X3_numberOf 50 [some (.ref x0), some (.int x1), some (.int x2), some (.int x3), none, none] [.int (Int32.ofInt 0)] (hp q8.2) 0 0 _
          exact (e_X3_numberOf_j50 hd (f_X3_numberOf_L10 n) ih) x0 x1 x2 x3 (Int32.ofInt 0) q8.2 _ hf
        · have hf := (if_neg b9).symm.trans hf
          refine Ev.blk (pc' := 43) [(.aload_n 0, 0, 0, 0), (.iload_n 3, 0, 0, 0)] (by decide +kernel) trivial rfl (?_)
          show Ev l d mi_X3_numberOf 43 [some (.ref x0), some (.int x1), some (.int x2), some (.int x3), none, none] [.int x3, .ref x0] (hp q8.2) 0 0 _
          obtain ⟨q10, hq10, hf⟩ := bd_some hf
          refine Ev.callV (o := x0) (M' := mi_X3_goals) (d' := d - 1) (As := [.int x3]) (rest := []) (r' := (some (.int q10.1), hp q10.2)) (e_X3_goals (d := d - 1) (by omega) x0 x3 q8.2 _ hq10) (by omega) wm_X3_goals wi_X3_goals wv_X3_goals km_3_143 (kk_ok c2) (Nat.le_of_ble_eq_true rfl) rfl rfl rfl (Nat.le_of_ble_eq_true rfl) ⟨Nat.le_of_ble_eq_true rfl, Nat.le_of_ble_eq_true rfl⟩ (by decide +kernel) ?_
          show Ev l d mi_X3_numberOf 46 [some (.ref x0), some (.int x1), some (.int x2), some (.int x3), none, none] [.int q10.1] (hp q10.2) 0 0 _
          refine Ev.goto (off := 4) (tgt := 50) (by decide +kernel) (by decide) ?_
          exact (e_X3_numberOf_j50 hd (f_X3_numberOf_L10 n) ih) x0 x1 x2 x3 q10.1 q10.2 _ hf
def f_X3_numberOf (o : Nat) (p0 : Int32) (s : ST) : Option (Int32 × ST) := (if 0 ≤ p0 then (f_X3_numberOf_L10 fuel) o p0 (Int32.ofInt 0) (Int32.ofInt 0) s else some ((Int32.ofInt (-1)), s))
set_option maxHeartbeats 2000000 in
set_option maxRecDepth 20000 in
theorem e_X3_numberOf {l : Launch} {d : Nat} (hd : 3 ≤ d) (o : Nat) (p0 : Int32) (s : ST) (r : Int32 × ST) (hf : f_X3_numberOf o p0 s = some r) : Cl l d mi_X3_numberOf [.ref o, .int p0] (hp s) (some (.int r.1), hp r.2) := by
  refine Ev.entry (by decide +kernel) rfl rfl ?_
  show Ev l d mi_X3_numberOf 0 [some (.ref o), some (.int p0), none, none, none, none] [] (hp s) 0 0 _
  unfold f_X3_numberOf at hf
  refine Ev.blk (pc' := 1) [(.iload_n 1, 0, 0, 0)] (by decide +kernel) trivial rfl (?_)
  show Ev l d mi_X3_numberOf 1 [some (.ref o), some (.int p0), none, none, none, none] [.int p0] (hp s) 0 0 _
  refine Ev.if_ge (off := 5) (tgt := 6) (by decide +kernel) (by decide) (fun b1 => ?_) (fun b1 => ?_)
  · have hf := (if_pos b1).symm.trans hf
    refine Ev.blk (pc' := 10) [(.iconst 0, 0, 0, 0), (.istore_n 2, 0, 0, 0), (.iconst 0, 0, 0, 0), (.istore_n 3, 0, 0, 0)] (by decide +kernel) trivial rfl (And.intro (Nat.le_of_ble_eq_true rfl) (And.intro (Nat.le_of_ble_eq_true rfl) (?_)))
    show Ev l d mi_X3_numberOf 10 [some (.ref o), some (.int p0), some (.int (Int32.ofInt 0)), some (.int (Int32.ofInt 0)), none, none] [] (hp s) 0 0 _
    exact (e_X3_numberOf_L10 hd fuel) o p0 (Int32.ofInt 0) (Int32.ofInt 0) s _ hf
  · have hf := (if_neg b1).symm.trans hf
    refine Ev.blk (pc' := 5) [(.iconst (-1), 0, 0, 0)] (by decide +kernel) trivial rfl (?_)
    show Ev l d mi_X3_numberOf 5 [some (.ref o), some (.int p0), none, none, none, none] [.int (Int32.ofInt (-1))] (hp s) 0 0 _
    cases hf
    exact Ev.iret .int rfl rfl (by decide +kernel) (Nat.le_refl _) (Nat.le_refl _)
def f_X3_lift (o : Nat) (p0 : Int32) (p1 : Int32) (s : ST) : Option (ST) := gd (kk o 3) ((RR s.2.2 o 4).bind (fun a2 => gd (kk a2 13) (gd (ib p0 (K0 a2).2) ((RR (uI s a2 p0.toNatClampNeg (Int32.ofInt (-1))).2.2 o 6).bind (fun a5 => gd (kk a5 13) (gd (ib p1 (K0 a5).2) ((RR (uI (uI s a2 p0.toNatClampNeg (Int32.ofInt (-1))) a5 p1.toNatClampNeg (Int32.ofInt (-1))).2.2 o 7).bind (fun a8 => (RR (uI (uI s a2 p0.toNatClampNeg (Int32.ofInt (-1))) a5 p1.toNatClampNeg (Int32.ofInt (-1))).2.2 o 0).bind (fun a9 => gd (kk a9 4) ((RR (uI (uI s a2 p0.toNatClampNeg (Int32.ofInt (-1))) a5 p1.toNatClampNeg (Int32.ofInt (-1))).2.2 a9 10).bind (fun a11 => gd (kk a11 13) (gd (ib p0 (K0 a11).2) (gd (kk a8 13) (gd (ib ((uI (uI s a2 p0.toNatClampNeg (Int32.ofInt (-1))) a5 p1.toNatClampNeg (Int32.ofInt (-1))).1 a11 p0.toNatClampNeg) (K0 a8).2) (gd (ib ((uI (uI s a2 p0.toNatClampNeg (Int32.ofInt (-1))) a5 p1.toNatClampNeg (Int32.ofInt (-1))).1 a11 p0.toNatClampNeg) (K0 a8).2) (lt (uI (uI (uI s a2 p0.toNatClampNeg (Int32.ofInt (-1))) a5 p1.toNatClampNeg (Int32.ofInt (-1))) a8 ((uI (uI s a2 p0.toNatClampNeg (Int32.ofInt (-1))) a5 p1.toNatClampNeg (Int32.ofInt (-1))).1 a11 p0.toNatClampNeg).toNatClampNeg (((uI (uI s a2 p0.toNatClampNeg (Int32.ofInt (-1))) a5 p1.toNatClampNeg (Int32.ofInt (-1))).1 a8 ((uI (uI s a2 p0.toNatClampNeg (Int32.ofInt (-1))) a5 p1.toNatClampNeg (Int32.ofInt (-1))).1 a11 p0.toNatClampNeg).toNatClampNeg) &&& (((Int32.ofInt 1) <<< (p1 &&& 31)) ^^^ (Int32.ofInt (-1))))) (fun s17 => some s17)))))))))))))))))
set_option maxHeartbeats 2000000 in
set_option maxRecDepth 20000 in
theorem e_X3_lift {l : Launch} {d : Nat} (hd : 1 ≤ d) (o : Nat) (p0 : Int32) (p1 : Int32) (s : ST) (r : ST) (hf : f_X3_lift o p0 p1 s = some r) : Cl l d mi_X3_lift [.ref o, .int p0, .int p1] (hp s) (none, hp r) := by
  refine Ev.entry (by decide +kernel) rfl rfl ?_
  show Ev l d mi_X3_lift 0 [some (.ref o), some (.int p0), some (.int p1)] [] (hp s) 0 0 _
  unfold f_X3_lift at hf
  obtain ⟨c1, hf⟩ := gd_some hf
  obtain ⟨a2, ha2, hf⟩ := bd_some hf
  obtain ⟨c3, hf⟩ := gd_some hf
  obtain ⟨c4, hf⟩ := gd_some hf
  obtain ⟨a5, ha5, hf⟩ := bd_some hf
  obtain ⟨c6, hf⟩ := gd_some hf
  obtain ⟨c7, hf⟩ := gd_some hf
  obtain ⟨a8, ha8, hf⟩ := bd_some hf
  obtain ⟨a9, ha9, hf⟩ := bd_some hf
  obtain ⟨c10, hf⟩ := gd_some hf
  obtain ⟨a11, ha11, hf⟩ := bd_some hf
  obtain ⟨c12, hf⟩ := gd_some hf
  obtain ⟨c13, hf⟩ := gd_some hf
  obtain ⟨c14, hf⟩ := gd_some hf
  obtain ⟨c15, hf⟩ := gd_some hf
  obtain ⟨c16, hf⟩ := gd_some hf
  obtain ⟨s17, hs17, hf⟩ := lt_some hf
  refine Ev.blk (pc' := 36) [(.aload_n 0, 0, 0, 0), (.getfield 22, 0, 3, 4), (.iload_n 1, 0, 0, 0), (.iconst (-1), 0, 0, 0), (.iastore, 0, 0, 0), (.aload_n 0, 0, 0, 0), (.getfield 28, 0, 3, 6), (.iload_n 2, 0, 0, 0), (.iconst (-1), 0, 0, 0), (.iastore, 0, 0, 0), (.aload_n 0, 0, 0, 0), (.getfield 31, 0, 3, 7), (.aload_n 0, 0, 0, 0), (.getfield 56, 0, 3, 0), (.getfield 106, 0, 4, 10), (.iload_n 1, 0, 0, 0), (.iaload, 0, 0, 0), (.dup2, 0, 0, 0), (.iaload, 0, 0, 0), (.iconst 1, 0, 0, 0), (.iload_n 2, 0, 0, 0), (.ishl, 0, 0, 0), (.iconst (-1), 0, 0, 0), (.ixor, 0, 0, 0), (.iand, 0, 0, 0), (.iastore, 0, 0, 0)] (by decide +kernel) ⟨kf_3_22, ⟨kf_3_28, ⟨kf_3_31, ⟨kf_3_56, ⟨kf_3_106, trivial⟩⟩⟩⟩⟩ rfl (And.intro (kk_ok c1) (Exists.intro a2 (And.intro ha2 (And.intro (kk_ok c3) (And.intro (ib_ok c4) (And.intro (kk_ok c1) (Exists.intro a5 (And.intro ha5 (And.intro (kk_ok c6) (And.intro (ib_ok c7) (And.intro (kk_ok c1) (Exists.intro a8 (And.intro ha8 (And.intro (kk_ok c1) (Exists.intro a9 (And.intro ha9 (And.intro (kk_ok c10) (Exists.intro a11 (And.intro ha11 (And.intro (kk_ok c12) (And.intro (ib_ok c13) (And.intro (And.intro rfl rfl) (And.intro (kk_ok c14) (And.intro (ib_ok c15) (And.intro (kk_ok c14) (And.intro (ib_ok c16) (?_)))))))))))))))))))))))))))
  show Ev l d mi_X3_lift 36 [some (.ref o), some (.int p0), some (.int p1)] [] (hp (uI (uI (uI s a2 p0.toNatClampNeg (Int32.ofInt (-1))) a5 p1.toNatClampNeg (Int32.ofInt (-1))) a8 ((uI (uI s a2 p0.toNatClampNeg (Int32.ofInt (-1))) a5 p1.toNatClampNeg (Int32.ofInt (-1))).1 a11 p0.toNatClampNeg).toNatClampNeg (((uI (uI s a2 p0.toNatClampNeg (Int32.ofInt (-1))) a5 p1.toNatClampNeg (Int32.ofInt (-1))).1 a8 ((uI (uI s a2 p0.toNatClampNeg (Int32.ofInt (-1))) a5 p1.toNatClampNeg (Int32.ofInt (-1))).1 a11 p0.toNatClampNeg).toNatClampNeg) &&& (((Int32.ofInt 1) <<< (p1 &&& 31)) ^^^ (Int32.ofInt (-1)))))) 0 0 _
  rw [← hs17]
  cases hf
  exact Ev.vret rfl (by decide +kernel) (Nat.le_refl _) (Nat.le_refl _)
def f_X3_carry_j56 (x0 : Nat) (x1 : Int32) (x2 : Int32) (x3 : Int32) (s : ST) : Option (Int32 × ST) := gd (kk x0 3) ((RR s.2.2 x0 4).bind (fun a16 => gd (kk a16 13) (gd (ib x1 (K0 a16).2) ((f_X3_lift x0 x1 (s.1 a16 x1.toNatClampNeg) s).bind (fun q19 => (f_X3_set x0 x1 x2 q19).bind (fun q20 => some (x3, q20)))))))
set_option maxHeartbeats 2000000 in
set_option maxRecDepth 20000 in
theorem e_X3_carry_j56 {l : Launch} {d : Nat} (hd : 2 ≤ d) (x0 : Nat) (x1 : Int32) (x2 : Int32) (x3 : Int32) (s : ST) (r : Int32 × ST) (hf : f_X3_carry_j56 x0 x1 x2 x3 s = some r) : Ev l d mi_X3_carry 56 [some (.ref x0), some (.int x1), some (.int x2), some (.int x3)] [] (hp s) 0 0 (some (.int r.1), hp r.2) := by
  unfold f_X3_carry_j56 at hf
  obtain ⟨c15, hf⟩ := gd_some hf
  obtain ⟨a16, ha16, hf⟩ := bd_some hf
  obtain ⟨c17, hf⟩ := gd_some hf
  obtain ⟨c18, hf⟩ := gd_some hf
  refine Ev.blk (pc' := 64) [(.aload_n 0, 0, 0, 0), (.iload_n 1, 0, 0, 0), (.aload_n 0, 0, 0, 0), (.getfield 22, 0, 3, 4), (.iload_n 1, 0, 0, 0), (.iaload, 0, 0, 0)] (by decide +kernel) ⟨kf_3_22, trivial⟩ rfl (And.intro (kk_ok c15) (Exists.intro a16 (And.intro ha16 (And.intro (kk_ok c17) (And.intro (ib_ok c18) (?_))))))
  show Ev l d mi_X3_carry 64 [some (.ref x0), some (.int x1), some (.int x2), some (.int x3)] [.int (s.1 a16 x1.toNatClampNeg), .int x1, .ref x0] (hp s) 0 0 _
  obtain ⟨q19, hq19, hf⟩ := bd_some hf
  refine Ev.callV (o := x0) (M' := mi_X3_lift) (d' := d - 1) (As := [.int x1, .int (s.1 a16 x1.toNatClampNeg)]) (rest := []) (r' := (none, hp q19)) (e_X3_lift (d := d - 1) (by omega) x0 x1 (s.1 a16 x1.toNatClampNeg) s _ hq19) (by omega) wm_X3_lift wi_X3_lift wv_X3_lift km_3_168 (kk_ok c15) (Nat.le_of_ble_eq_true rfl) rfl rfl rfl (Nat.le_of_ble_eq_true rfl) ⟨Nat.le_of_ble_eq_true rfl, Nat.le_of_ble_eq_true rfl⟩ (by decide +kernel) ?_
  show Ev l d mi_X3_carry 67 [some (.ref x0), some (.int x1), some (.int x2), some (.int x3)] [] (hp q19) 0 0 _
  refine Ev.blk (pc' := 70) [(.aload_n 0, 0, 0, 0), (.iload_n 1, 0, 0, 0), (.iload_n 2, 0, 0, 0)] (by decide +kernel) trivial rfl (?_)
  show Ev l d mi_X3_carry 70 [some (.ref x0), some (.int x1), some (.int x2), some (.int x3)] [.int x2, .int x1, .ref x0] (hp q19) 0 0 _
  obtain ⟨q20, hq20, hf⟩ := bd_some hf
  refine Ev.callV (o := x0) (M' := mi_X3_set) (d' := d - 1) (As := [.int x1, .int x2]) (rest := []) (r' := (none, hp q20)) (e_X3_set (d := d - 1) (by omega) x0 x1 x2 q19 _ hq20) (by omega) wm_X3_set wi_X3_set wv_X3_set km_3_90 (kk_ok c15) (Nat.le_of_ble_eq_true rfl) rfl rfl rfl (Nat.le_of_ble_eq_true rfl) ⟨Nat.le_of_ble_eq_true rfl, Nat.le_of_ble_eq_true rfl⟩ (by decide +kernel) ?_
  show Ev l d mi_X3_carry 73 [some (.ref x0), some (.int x1), some (.int x2), some (.int x3)] [] (hp q20) 0 0 _
  refine Ev.blk (pc' := 74) [(.iload_n 3, 0, 0, 0)] (by decide +kernel) trivial rfl (?_)
  show Ev l d mi_X3_carry 74 [some (.ref x0), some (.int x1), some (.int x2), some (.int x3)] [.int x3] (hp q20) 0 0 _
  cases hf
  exact Ev.iret .int rfl rfl (by decide +kernel) (Nat.le_refl _) (Nat.le_refl _)
def f_X3_carry_j52 (x0 : Nat) (x1 : Int32) (x2 : Int32) (x3 : Int32) (y0 : Nat) (y1 : Int32) (y2 : Int32) (s : ST) : Option (Int32 × ST) := gd (kk y0 3) (lt (uI s y0 9 (y1 + y2)) (fun s14 => f_X3_carry_j56 x0 x1 x2 x3 s14))
set_option maxHeartbeats 2000000 in
set_option maxRecDepth 20000 in
theorem e_X3_carry_j52 {l : Launch} {d : Nat} (hd : 2 ≤ d) (x0 : Nat) (x1 : Int32) (x2 : Int32) (x3 : Int32) (y0 : Nat) (y1 : Int32) (y2 : Int32) (s : ST) (r : Int32 × ST) (hf : f_X3_carry_j52 x0 x1 x2 x3 y0 y1 y2 s = some r) : Ev l d mi_X3_carry 52 [some (.ref x0), some (.int x1), some (.int x2), some (.int x3)] [.int y2, .int y1, .ref y0] (hp s) 0 0 (some (.int r.1), hp r.2) := by
  unfold f_X3_carry_j52 at hf
  obtain ⟨c13, hf⟩ := gd_some hf
  obtain ⟨s14, hs14, hf⟩ := lt_some hf
  refine Ev.blk (pc' := 56) [(.iadd, 0, 0, 0), (.putfield 37, 0, 3, 9)] (by decide +kernel) ⟨⟨kf_3_37, Or.inl rfl⟩, trivial⟩ rfl (And.intro (kk_ok c13) (?_))
  show Ev l d mi_X3_carry 56 [some (.ref x0), some (.int x1), some (.int x2), some (.int x3)] [] (hp (uI s y0 9 (y1 + y2))) 0 0 _
  rw [← hs14]
  exact (e_X3_carry_j56 hd) x0 x1 x2 x3 s14 _ hf
def f_X3_carry (o : Nat) (p0 : Int32) (p1 : Int32) (s : ST) : Option (Int32 × ST) := gd (kk o 3) ((RR s.2.2 o 6).bind (fun a2 => gd (kk a2 13) (gd (ib p1 (K0 a2).2) ((if (s.1 a2 p1.toNatClampNeg) < 0 then f_X3_carry_j56 o p0 p1 (s.1 a2 p1.toNatClampNeg) s else (f_X3_lift o (s.1 a2 p1.toNatClampNeg) p1 s).bind (fun q6 => (f_X3_leadOf o (s.1 a2 p1.toNatClampNeg) q6).bind (fun q7 => (RR (uI q7.2 o 8 ((q6.1 o 8) - q7.1)).2.2 o 0).bind (fun a8 => lt (uI q7.2 o 8 ((q6.1 o 8) - q7.1)) (fun s9 => (f_X4_isCrown a8 (s.1 a2 p1.toNatClampNeg) s9).bind (fun q10 => gd (kk a8 4) ((if q10.1 = 0 then f_X3_carry_j52 o p0 p1 (s.1 a2 p1.toNatClampNeg) o (s9.1 o 9) (Int32.ofInt 0) q10.2 else f_X3_carry_j52 o p0 p1 (s.1 a2 p1.toNatClampNeg) o (s9.1 o 9) (Int32.ofInt 1) q10.2))))))))))))
set_option maxHeartbeats 2000000 in
set_option maxRecDepth 20000 in
theorem e_X3_carry {l : Launch} {d : Nat} (hd : 2 ≤ d) (o : Nat) (p0 : Int32) (p1 : Int32) (s : ST) (r : Int32 × ST) (hf : f_X3_carry o p0 p1 s = some r) : Cl l d mi_X3_carry [.ref o, .int p0, .int p1] (hp s) (some (.int r.1), hp r.2) := by
  refine Ev.entry (by decide +kernel) rfl rfl ?_
  show Ev l d mi_X3_carry 0 [some (.ref o), some (.int p0), some (.int p1), none] [] (hp s) 0 0 _
  unfold f_X3_carry at hf
  obtain ⟨c1, hf⟩ := gd_some hf
  obtain ⟨a2, ha2, hf⟩ := bd_some hf
  obtain ⟨c3, hf⟩ := gd_some hf
  obtain ⟨c4, hf⟩ := gd_some hf
  refine Ev.blk (pc' := 8) [(.aload_n 0, 0, 0, 0), (.getfield 28, 0, 3, 6), (.iload_n 2, 0, 0, 0), (.iaload, 0, 0, 0), (.istore_n 3, 0, 0, 0), (.iload_n 3, 0, 0, 0)] (by decide +kernel) ⟨kf_3_28, trivial⟩ rfl (And.intro (kk_ok c1) (Exists.intro a2 (And.intro ha2 (And.intro (kk_ok c3) (And.intro (ib_ok c4) (And.intro (Nat.le_of_ble_eq_true rfl) (?_)))))))
  show Ev l d mi_X3_carry 8 [some (.ref o), some (.int p0), some (.int p1), some (.int (s.1 a2 p1.toNatClampNeg))] [.int (s.1 a2 p1.toNatClampNeg)] (hp s) 0 0 _
  refine Ev.if_lt (off := 48) (tgt := 56) (by decide +kernel) (by decide) (fun b5 => ?_) (fun b5 => ?_)
  · have hf := (if_pos b5).symm.trans hf
    exact (e_X3_carry_j56 hd) o p0 p1 (s.1 a2 p1.toNatClampNeg) s _ hf
  · have hf := (if_neg b5).symm.trans hf
    refine Ev.blk (pc' := 14) [(.aload_n 0, 0, 0, 0), (.iload_n 3, 0, 0, 0), (.iload_n 2, 0, 0, 0)] (by decide +kernel) trivial rfl (?_)
    show Ev l d mi_X3_carry 14 [some (.ref o), some (.int p0), some (.int p1), some (.int (s.1 a2 p1.toNatClampNeg))] [.int p1, .int (s.1 a2 p1.toNatClampNeg), .ref o] (hp s) 0 0 _
    obtain ⟨q6, hq6, hf⟩ := bd_some hf
    refine Ev.callV (o := o) (M' := mi_X3_lift) (d' := d - 1) (As := [.int (s.1 a2 p1.toNatClampNeg), .int p1]) (rest := []) (r' := (none, hp q6)) (e_X3_lift (d := d - 1) (by omega) o (s.1 a2 p1.toNatClampNeg) p1 s _ hq6) (by omega) wm_X3_lift wi_X3_lift wv_X3_lift km_3_168 (kk_ok c1) (Nat.le_of_ble_eq_true rfl) rfl rfl rfl (Nat.le_of_ble_eq_true rfl) ⟨Nat.le_of_ble_eq_true rfl, Nat.le_of_ble_eq_true rfl⟩ (by decide +kernel) ?_
    show Ev l d mi_X3_carry 17 [some (.ref o), some (.int p0), some (.int p1), some (.int (s.1 a2 p1.toNatClampNeg))] [] (hp q6) 0 0 _
    refine Ev.blk (pc' := 24) [(.aload_n 0, 0, 0, 0), (.dup, 0, 0, 0), (.getfield 34, 0, 3, 8), (.aload_n 0, 0, 0, 0), (.iload_n 3, 0, 0, 0)] (by decide +kernel) ⟨kf_3_34, trivial⟩ rfl (And.intro rfl (And.intro (kk_ok c1) (?_)))
    show Ev l d mi_X3_carry 24 [some (.ref o), some (.int p0), some (.int p1), some (.int (s.1 a2 p1.toNatClampNeg))] [.int (s.1 a2 p1.toNatClampNeg), .ref o, .int (q6.1 o 8), .ref o] (hp q6) 0 0 _
    obtain ⟨q7, hq7, hf⟩ := bd_some hf
    refine Ev.callV (o := o) (M' := mi_X3_leadOf) (d' := d - 1) (As := [.int (s.1 a2 p1.toNatClampNeg)]) (rest := [.int (q6.1 o 8), .ref o]) (r' := (some (.int q7.1), hp q7.2)) (e_X3_leadOf (d := d - 1) (by omega) o (s.1 a2 p1.toNatClampNeg) q6 _ hq7) (by omega) wm_X3_leadOf wi_X3_leadOf wv_X3_leadOf km_3_94 (kk_ok c1) (Nat.le_of_ble_eq_true rfl) rfl rfl rfl (Nat.le_of_ble_eq_true rfl) ⟨Nat.le_of_ble_eq_true rfl, Nat.le_of_ble_eq_true rfl⟩ (by decide +kernel) ?_
    show Ev l d mi_X3_carry 27 [some (.ref o), some (.int p0), some (.int p1), some (.int (s.1 a2 p1.toNatClampNeg))] [.int q7.1, .int (q6.1 o 8), .ref o] (hp q7.2) 0 0 _
    obtain ⟨a8, ha8, hf⟩ := bd_some hf
    obtain ⟨s9, hs9, hf⟩ := lt_some hf
    refine Ev.blk (pc' := 41) [(.isub, 0, 0, 0), (.putfield 34, 0, 3, 8), (.aload_n 0, 0, 0, 0), (.dup, 0, 0, 0), (.getfield 37, 0, 3, 9), (.aload_n 0, 0, 0, 0), (.getfield 56, 0, 3, 0), (.iload_n 3, 0, 0, 0)] (by decide +kernel) ⟨⟨kf_3_34, Or.inl rfl⟩, ⟨kf_3_37, ⟨kf_3_56, trivial⟩⟩⟩ rfl (And.intro (kk_ok c1) (And.intro rfl (And.intro (kk_ok c1) (And.intro (kk_ok c1) (Exists.intro a8 (And.intro ha8 (?_)))))))
    show Ev l d mi_X3_carry 41 [some (.ref o), some (.int p0), some (.int p1), some (.int (s.1 a2 p1.toNatClampNeg))] [.int (s.1 a2 p1.toNatClampNeg), .ref a8, .int ((uI q7.2 o 8 ((q6.1 o 8) - q7.1)).1 o 9), .ref o] (hp (uI q7.2 o 8 ((q6.1 o 8) - q7.1))) 0 0 _
    rw [← hs9]
    obtain ⟨q10, hq10, hf⟩ := bd_some hf
    obtain ⟨c11, hf⟩ := gd_some hf
    refine Ev.callV (o := a8) (M' := mi_X4_isCrown) (d' := d - 1) (As := [.int (s.1 a2 p1.toNatClampNeg)]) (rest := [.int (s9.1 o 9), .ref o]) (r' := (some (.int q10.1), hp q10.2)) (e_X4_isCrown (d := d - 1) (by omega) a8 (s.1 a2 p1.toNatClampNeg) s9 _ hq10) (by omega) wm_X4_isCrown wi_X4_isCrown wv_X4_isCrown km_3_98 (kk_ok c11) (Nat.le_of_ble_eq_true rfl) rfl rfl rfl (Nat.le_of_ble_eq_true rfl) ⟨Nat.le_of_ble_eq_true rfl, Nat.le_of_ble_eq_true rfl⟩ (by decide +kernel) ?_
    show Ev l d mi_X3_carry 44 [some (.ref o), some (.int p0), some (.int p1), some (.int (s.1 a2 p1.toNatClampNeg))] [.int q10.1, .int (s9.1 o 9), .ref o] (hp q10.2) 0 0 _
    refine Ev.if_eq (off := 7) (tgt := 51) (by decide +kernel) (by decide) (fun b12 => ?_) (fun b12 => ?_)
    · have hf := (if_pos b12).symm.trans hf
      refine Ev.blk (pc' := 52) [(.iconst 0, 0, 0, 0)] (by decide +kernel) trivial rfl (?_)
      show Ev l d mi_X3_carry 52 [some (.ref o), some (.int p0), some (.int p1), some (.int (s.1 a2 p1.toNatClampNeg))] [.int (Int32.ofInt 0), .int (s9.1 o 9), .ref o] (hp q10.2) 0 0 _
      exact (e_X3_carry_j52 hd) o p0 p1 (s.1 a2 p1.toNatClampNeg) o (s9.1 o 9) (Int32.ofInt 0) q10.2 _ hf
    · have hf := (if_neg b12).symm.trans hf
      refine Ev.blk (pc' := 48) [(.iconst 1, 0, 0, 0)] (by decide +kernel) trivial rfl (?_)
      show Ev l d mi_X3_carry 48 [some (.ref o), some (.int p0), some (.int p1), some (.int (s.1 a2 p1.toNatClampNeg))] [.int (Int32.ofInt 1), .int (s9.1 o 9), .ref o] (hp q10.2) 0 0 _
      refine Ev.goto (off := 4) (tgt := 52) (by decide +kernel) (by decide) ?_
      exact (e_X3_carry_j52 hd) o p0 p1 (s.1 a2 p1.toNatClampNeg) o (s9.1 o 9) (Int32.ofInt 1) q10.2 _ hf
def f_X3_carryBack_j67 (y0 : Nat) (y1 : Int32) (y2 : Int32) (s : ST) : Option (ST) := gd (kk y0 3) (lt (uI s y0 9 (y1 - y2)) (fun s16 => some s16))
set_option maxHeartbeats 2000000 in
set_option maxRecDepth 20000 in
theorem e_X3_carryBack_j67 {l : Launch} {d : Nat} (hd : 2 ≤ d) (y0 : Nat) (y1 : Int32) (y2 : Int32) (s : ST) (r : ST) (hf : f_X3_carryBack_j67 y0 y1 y2 s = some r) : Ev l d mi_X3_carryBack 67 [none, none, none, none, none] [.int y2, .int y1, .ref y0] (hp s) 0 0 (none, hp r) := by
  unfold f_X3_carryBack_j67 at hf
  obtain ⟨c15, hf⟩ := gd_some hf
  obtain ⟨s16, hs16, hf⟩ := lt_some hf
  refine Ev.blk (pc' := 71) [(.isub, 0, 0, 0), (.putfield 37, 0, 3, 9)] (by decide +kernel) ⟨⟨kf_3_37, Or.inl rfl⟩, trivial⟩ rfl (And.intro (kk_ok c15) (?_))
  show Ev l d mi_X3_carryBack 71 [none, none, none, none, none] [] (hp (uI s y0 9 (y1 - y2))) 0 0 _
  rw [← hs16]
  cases hf
  exact Ev.vret rfl (by decide +kernel) (Nat.le_refl _) (Nat.le_refl _)
def f_X3_carryBack (o : Nat) (p0 : Int32) (p1 : Int32) (p2 : Int32) (s : ST) : Option (ST) := gd (kk o 3) ((RR s.2.2 o 4).bind (fun a2 => gd (kk a2 13) (gd (ib p0 (K0 a2).2) ((f_X3_lift o p0 (s.1 a2 p0.toNatClampNeg) s).bind (fun q5 => (f_X3_set o p0 p1 q5).bind (fun q6 => (if p2 < 0 then some q6 else (f_X3_set o p2 (s.1 a2 p0.toNatClampNeg) q6).bind (fun q8 => (f_X3_leadOf o p2 q8).bind (fun q9 => (RR (uI q9.2 o 8 ((q8.1 o 8) + q9.1)).2.2 o 0).bind (fun a10 => lt (uI q9.2 o 8 ((q8.1 o 8) + q9.1)) (fun s11 => (f_X4_isCrown a10 p2 s11).bind (fun q12 => gd (kk a10 4) ((if q12.1 = 0 then f_X3_carryBack_j67 o (s11.1 o 9) (Int32.ofInt 0) q12.2 else f_X3_carryBack_j67 o (s11.1 o 9) (Int32.ofInt 1) q12.2))))))))))))))
set_option maxHeartbeats 2000000 in
set_option maxRecDepth 20000 in
theorem e_X3_carryBack {l : Launch} {d : Nat} (hd : 2 ≤ d) (o : Nat) (p0 : Int32) (p1 : Int32) (p2 : Int32) (s : ST) (r : ST) (hf : f_X3_carryBack o p0 p1 p2 s = some r) : Cl l d mi_X3_carryBack [.ref o, .int p0, .int p1, .int p2] (hp s) (none, hp r) := by
  refine Ev.entry (by decide +kernel) rfl rfl ?_
  show Ev l d mi_X3_carryBack 0 [some (.ref o), some (.int p0), some (.int p1), some (.int p2), none] [] (hp s) 0 0 _
  unfold f_X3_carryBack at hf
  obtain ⟨c1, hf⟩ := gd_some hf
  obtain ⟨a2, ha2, hf⟩ := bd_some hf
  obtain ⟨c3, hf⟩ := gd_some hf
  obtain ⟨c4, hf⟩ := gd_some hf
  refine Ev.blk (pc' := 12) [(.aload_n 0, 0, 0, 0), (.getfield 22, 0, 3, 4), (.iload_n 1, 0, 0, 0), (.iaload, 0, 0, 0), (.istore 4, 0, 0, 0), (.aload_n 0, 0, 0, 0), (.iload_n 1, 0, 0, 0), (.iload 4, 0, 0, 0)] (by decide +kernel) ⟨kf_3_22, trivial⟩ rfl (And.intro (kk_ok c1) (Exists.intro a2 (And.intro ha2 (And.intro (kk_ok c3) (And.intro (ib_ok c4) (And.intro (Nat.le_of_ble_eq_true rfl) (?_)))))))
  show Ev l d mi_X3_carryBack 12 [some (.ref o), some (.int p0), some (.int p1), some (.int p2), some (.int (s.1 a2 p0.toNatClampNeg))] [.int (s.1 a2 p0.toNatClampNeg), .int p0, .ref o] (hp s) 0 0 _
  obtain ⟨q5, hq5, hf⟩ := bd_some hf
  refine Ev.callV (o := o) (M' := mi_X3_lift) (d' := d - 1) (As := [.int p0, .int (s.1 a2 p0.toNatClampNeg)]) (rest := []) (r' := (none, hp q5)) (e_X3_lift (d := d - 1) (by omega) o p0 (s.1 a2 p0.toNatClampNeg) s _ hq5) (by omega) wm_X3_lift wi_X3_lift wv_X3_lift km_3_168 (kk_ok c1) (Nat.le_of_ble_eq_true rfl) rfl rfl rfl (Nat.le_of_ble_eq_true rfl) ⟨Nat.le_of_ble_eq_true rfl, Nat.le_of_ble_eq_true rfl⟩ (by decide +kernel) ?_
  show Ev l d mi_X3_carryBack 15 [some (.ref o), some (.int p0), some (.int p1), some (.int p2), some (.int (s.1 a2 p0.toNatClampNeg))] [] (hp q5) 0 0 _
  refine Ev.blk (pc' := 18) [(.aload_n 0, 0, 0, 0), (.iload_n 1, 0, 0, 0), (.iload_n 2, 0, 0, 0)] (by decide +kernel) trivial rfl (?_)
  show Ev l d mi_X3_carryBack 18 [some (.ref o), some (.int p0), some (.int p1), some (.int p2), some (.int (s.1 a2 p0.toNatClampNeg))] [.int p1, .int p0, .ref o] (hp q5) 0 0 _
  obtain ⟨q6, hq6, hf⟩ := bd_some hf
  refine Ev.callV (o := o) (M' := mi_X3_set) (d' := d - 1) (As := [.int p0, .int p1]) (rest := []) (r' := (none, hp q6)) (e_X3_set (d := d - 1) (by omega) o p0 p1 q5 _ hq6) (by omega) wm_X3_set wi_X3_set wv_X3_set km_3_90 (kk_ok c1) (Nat.le_of_ble_eq_true rfl) rfl rfl rfl (Nat.le_of_ble_eq_true rfl) ⟨Nat.le_of_ble_eq_true rfl, Nat.le_of_ble_eq_true rfl⟩ (by decide +kernel) ?_
  show Ev l d mi_X3_carryBack 21 [some (.ref o), some (.int p0), some (.int p1), some (.int p2), some (.int (s.1 a2 p0.toNatClampNeg))] [] (hp q6) 0 0 _
  refine Ev.blk (pc' := 22) [(.iload_n 3, 0, 0, 0)] (by decide +kernel) trivial rfl (?_)
  show Ev l d mi_X3_carryBack 22 [some (.ref o), some (.int p0), some (.int p1), some (.int p2), some (.int (s.1 a2 p0.toNatClampNeg))] [.int p2] (hp q6) 0 0 _
  refine Ev.if_lt (off := 49) (tgt := 71) (by decide +kernel) (by decide) (fun b7 => ?_) (fun b7 => ?_)
  · have hf := (if_pos b7).symm.trans hf
    cases hf
    exact Ev.vret rfl (by decide +kernel) (Nat.le_refl _) (Nat.le_refl _)
  · have hf := (if_neg b7).symm.trans hf
    refine Ev.blk (pc' := 29) [(.aload_n 0, 0, 0, 0), (.iload_n 3, 0, 0, 0), (.iload 4, 0, 0, 0)] (by decide +kernel) trivial rfl (?_)
    show Ev l d mi_X3_carryBack 29 [some (.ref o), some (.int p0), some (.int p1), some (.int p2), some (.int (s.1 a2 p0.toNatClampNeg))] [.int (s.1 a2 p0.toNatClampNeg), .int p2, .ref o] (hp q6) 0 0 _
    obtain ⟨q8, hq8, hf⟩ := bd_some hf
    refine Ev.callV (o := o) (M' := mi_X3_set) (d' := d - 1) (As := [.int p2, .int (s.1 a2 p0.toNatClampNeg)]) (rest := []) (r' := (none, hp q8)) (e_X3_set (d := d - 1) (by omega) o p2 (s.1 a2 p0.toNatClampNeg) q6 _ hq8) (by omega) wm_X3_set wi_X3_set wv_X3_set km_3_90 (kk_ok c1) (Nat.le_of_ble_eq_true rfl) rfl rfl rfl (Nat.le_of_ble_eq_true rfl) ⟨Nat.le_of_ble_eq_true rfl, Nat.le_of_ble_eq_true rfl⟩ (by decide +kernel) ?_
    show Ev l d mi_X3_carryBack 32 [some (.ref o), some (.int p0), some (.int p1), some (.int p2), some (.int (s.1 a2 p0.toNatClampNeg))] [] (hp q8) 0 0 _
    refine Ev.blk (pc' := 39) [(.aload_n 0, 0, 0, 0), (.dup, 0, 0, 0), (.getfield 34, 0, 3, 8), (.aload_n 0, 0, 0, 0), (.iload_n 3, 0, 0, 0)] (by decide +kernel) ⟨kf_3_34, trivial⟩ rfl (And.intro rfl (And.intro (kk_ok c1) (?_)))
    show Ev l d mi_X3_carryBack 39 [some (.ref o), some (.int p0), some (.int p1), some (.int p2), some (.int (s.1 a2 p0.toNatClampNeg))] [.int p2, .ref o, .int (q8.1 o 8), .ref o] (hp q8) 0 0 _
    obtain ⟨q9, hq9, hf⟩ := bd_some hf
    refine Ev.callV (o := o) (M' := mi_X3_leadOf) (d' := d - 1) (As := [.int p2]) (rest := [.int (q8.1 o 8), .ref o]) (r' := (some (.int q9.1), hp q9.2)) (e_X3_leadOf (d := d - 1) (by omega) o p2 q8 _ hq9) (by omega) wm_X3_leadOf wi_X3_leadOf wv_X3_leadOf km_3_94 (kk_ok c1) (Nat.le_of_ble_eq_true rfl) rfl rfl rfl (Nat.le_of_ble_eq_true rfl) ⟨Nat.le_of_ble_eq_true rfl, Nat.le_of_ble_eq_true rfl⟩ (by decide +kernel) ?_
    show Ev l d mi_X3_carryBack 42 [some (.ref o), some (.int p0), some (.int p1), some (.int p2), some (.int (s.1 a2 p0.toNatClampNeg))] [.int q9.1, .int (q8.1 o 8), .ref o] (hp q9.2) 0 0 _
    obtain ⟨a10, ha10, hf⟩ := bd_some hf
    obtain ⟨s11, hs11, hf⟩ := lt_some hf
    refine Ev.blk (pc' := 56) [(.iadd, 0, 0, 0), (.putfield 34, 0, 3, 8), (.aload_n 0, 0, 0, 0), (.dup, 0, 0, 0), (.getfield 37, 0, 3, 9), (.aload_n 0, 0, 0, 0), (.getfield 56, 0, 3, 0), (.iload_n 3, 0, 0, 0)] (by decide +kernel) ⟨⟨kf_3_34, Or.inl rfl⟩, ⟨kf_3_37, ⟨kf_3_56, trivial⟩⟩⟩ rfl (And.intro (kk_ok c1) (And.intro rfl (And.intro (kk_ok c1) (And.intro (kk_ok c1) (Exists.intro a10 (And.intro ha10 (?_)))))))
    show Ev l d mi_X3_carryBack 56 [some (.ref o), some (.int p0), some (.int p1), some (.int p2), some (.int (s.1 a2 p0.toNatClampNeg))] [.int p2, .ref a10, .int ((uI q9.2 o 8 ((q8.1 o 8) + q9.1)).1 o 9), .ref o] (hp (uI q9.2 o 8 ((q8.1 o 8) + q9.1))) 0 0 _
    rw [← hs11]
    obtain ⟨q12, hq12, hf⟩ := bd_some hf
    obtain ⟨c13, hf⟩ := gd_some hf
    refine Ev.callV (o := a10) (M' := mi_X4_isCrown) (d' := d - 1) (As := [.int p2]) (rest := [.int (s11.1 o 9), .ref o]) (r' := (some (.int q12.1), hp q12.2)) (e_X4_isCrown (d := d - 1) (by omega) a10 p2 s11 _ hq12) (by omega) wm_X4_isCrown wi_X4_isCrown wv_X4_isCrown km_3_98 (kk_ok c13) (Nat.le_of_ble_eq_true rfl) rfl rfl rfl (Nat.le_of_ble_eq_true rfl) ⟨Nat.le_of_ble_eq_true rfl, Nat.le_of_ble_eq_true rfl⟩ (by decide +kernel) ?_
    show Ev l d mi_X3_carryBack 59 [some (.ref o), some (.int p0), some (.int p1), some (.int p2), some (.int (s.1 a2 p0.toNatClampNeg))] [.int q12.1, .int (s11.1 o 9), .ref o] (hp q12.2) 0 0 _
    refine Ev.if_eq (off := 7) (tgt := 66) (by decide +kernel) (by decide) (fun b14 => ?_) (fun b14 => ?_)
    · have hf := (if_pos b14).symm.trans hf
      refine Ev.blk (pc' := 67) [(.iconst 0, 0, 0, 0)] (by decide +kernel) trivial rfl (?_)
      show Ev l d mi_X3_carryBack 67 [some (.ref o), some (.int p0), some (.int p1), some (.int p2), some (.int (s.1 a2 p0.toNatClampNeg))] [.int (Int32.ofInt 0), .int (s11.1 o 9), .ref o] (hp q12.2) 0 0 _
      exact Ev.wk ((e_X3_carryBack_j67 hd) o (s11.1 o 9) (Int32.ofInt 0) q12.2 _ hf) (And.intro (Or.inl rfl) (And.intro (Or.inl rfl) (And.intro (Or.inl rfl) (And.intro (Or.inl rfl) (And.intro (Or.inl rfl) (trivial))))))
    · have hf := (if_neg b14).symm.trans hf
      refine Ev.blk (pc' := 63) [(.iconst 1, 0, 0, 0)] (by decide +kernel) trivial rfl (?_)
      show Ev l d mi_X3_carryBack 63 [some (.ref o), some (.int p0), some (.int p1), some (.int p2), some (.int (s.1 a2 p0.toNatClampNeg))] [.int (Int32.ofInt 1), .int (s11.1 o 9), .ref o] (hp q12.2) 0 0 _
      refine Ev.goto (off := 4) (tgt := 67) (by decide +kernel) (by decide) ?_
      exact Ev.wk ((e_X3_carryBack_j67 hd) o (s11.1 o 9) (Int32.ofInt 1) q12.2 _ hf) (And.intro (Or.inl rfl) (And.intro (Or.inl rfl) (And.intro (Or.inl rfl) (And.intro (Or.inl rfl) (And.intro (Or.inl rfl) (trivial))))))
def f_X4_worthOf (o : Nat) (p0 : Int32) (s : ST) : Option (Int32 × ST) := (if p0 < 0 then some ((Int32.ofInt 0), s) else gd (kk o 4) ((if (s.1 o 8) ≤ p0 then some ((Int32.ofInt 0), s) else (RR s.2.2 o 6).bind (fun a4 => (RR s.2.2 o 9).bind (fun a5 => gd (kk a5 13) (gd (ib p0 (K0 a5).2) (gd (kk a4 13) (gd (ib (s.1 a5 p0.toNatClampNeg) (K0 a4).2) (some ((s.1 a4 (s.1 a5 p0.toNatClampNeg).toNatClampNeg), s))))))))))
set_option maxHeartbeats 2000000 in
set_option maxRecDepth 20000 in
theorem e_X4_worthOf {l : Launch} {d : Nat} (hd : 1 ≤ d) (o : Nat) (p0 : Int32) (s : ST) (r : Int32 × ST) (hf : f_X4_worthOf o p0 s = some r) : Cl l d mi_X4_worthOf [.ref o, .int p0] (hp s) (some (.int r.1), hp r.2) := by
  refine Ev.entry (by decide +kernel) rfl rfl ?_
  show Ev l d mi_X4_worthOf 0 [some (.ref o), some (.int p0)] [] (hp s) 0 0 _
  unfold f_X4_worthOf at hf
  refine Ev.blk (pc' := 1) [(.iload_n 1, 0, 0, 0)] (by decide +kernel) trivial rfl (?_)
  show Ev l d mi_X4_worthOf 1 [some (.ref o), some (.int p0)] [.int p0] (hp s) 0 0 _
  refine Ev.if_lt (off := 25) (tgt := 26) (by decide +kernel) (by decide) (fun b1 => ?_) (fun b1 => ?_)
  · have hf := (if_pos b1).symm.trans hf
    refine Ev.blk (pc' := 27) [(.iconst 0, 0, 0, 0)] (by decide +kernel) trivial rfl (?_)
    show Ev l d mi_X4_worthOf 27 [some (.ref o), some (.int p0)] [.int (Int32.ofInt 0)] (hp s) 0 0 _
    cases hf
    exact Ev.iret .int rfl rfl (by decide +kernel) (Nat.le_refl _) (Nat.le_refl _)
  · have hf := (if_neg b1).symm.trans hf
    obtain ⟨c2, hf⟩ := gd_some hf
    refine Ev.blk (pc' := 9) [(.iload_n 1, 0, 0, 0), (.aload_n 0, 0, 0, 0), (.getfield 37, 0, 4, 8)] (by decide +kernel) ⟨kf_4_37, trivial⟩ rfl (And.intro (kk_ok c2) (?_))
    show Ev l d mi_X4_worthOf 9 [some (.ref o), some (.int p0)] [.int (s.1 o 8), .int p0] (hp s) 0 0 _
    refine Ev.icmp_ge (off := 17) (tgt := 26) (by decide +kernel) (by decide) (fun b3 => ?_) (fun b3 => ?_)
    · have hf := (if_pos b3).symm.trans hf
      refine Ev.blk (pc' := 27) [(.iconst 0, 0, 0, 0)] (by decide +kernel) trivial rfl (?_)
      show Ev l d mi_X4_worthOf 27 [some (.ref o), some (.int p0)] [.int (Int32.ofInt 0)] (hp s) 0 0 _
      cases hf
      exact Ev.iret .int rfl rfl (by decide +kernel) (Nat.le_refl _) (Nat.le_refl _)
    · have hf := (if_neg b3).symm.trans hf
      obtain ⟨a4, ha4, hf⟩ := bd_some hf
      obtain ⟨a5, ha5, hf⟩ := bd_some hf
      obtain ⟨c6, hf⟩ := gd_some hf
      obtain ⟨c7, hf⟩ := gd_some hf
      obtain ⟨c8, hf⟩ := gd_some hf
      obtain ⟨c9, hf⟩ := gd_some hf
      refine Ev.blk (pc' := 23) [(.aload_n 0, 0, 0, 0), (.getfield 31, 0, 4, 6), (.aload_n 0, 0, 0, 0), (.getfield 40, 0, 4, 9), (.iload_n 1, 0, 0, 0), (.iaload, 0, 0, 0), (.iaload, 0, 0, 0)] (by decide +kernel) ⟨kf_4_31, ⟨kf_4_40, trivial⟩⟩ rfl (And.intro (kk_ok c2) (Exists.intro a4 (And.intro ha4 (And.intro (kk_ok c2) (Exists.intro a5 (And.intro ha5 (And.intro (kk_ok c6) (And.intro (ib_ok c7) (And.intro (kk_ok c8) (And.intro (ib_ok c9) (?_)))))))))))
      show Ev l d mi_X4_worthOf 23 [some (.ref o), some (.int p0)] [.int (s.1 a4 (s.1 a5 p0.toNatClampNeg).toNatClampNeg)] (hp s) 0 0 _
      refine Ev.goto (off := 4) (tgt := 27) (by decide +kernel) (by decide) ?_
      cases hf
      exact Ev.iret .int rfl rfl (by decide +kernel) (Nat.le_refl _) (Nat.le_refl _)
def f_X3_dearestPrey_j34 (k4 : Nat → Int32 → Int32 → Int32 → ST → Option (Int32 × ST)) (x0 : Nat) (x1 : Int32) (x3 : Int32) (y0 : Int32) (y1 : Int32) (s : ST) : Option (Int32 × ST) := k4 x0 x1 (y0 ||| y1) (x3 + Int32.ofInt 1) s
set_option maxHeartbeats 2000000 in
set_option maxRecDepth 20000 in
theorem e_X3_dearestPrey_j34 {l : Launch} {d : Nat} (hd : 3 ≤ d) (k4 : Nat → Int32 → Int32 → Int32 → ST → Option (Int32 × ST)) (hk4 : ∀ (x0 : Nat) (x1 : Int32) (x2 : Int32) (x3 : Int32) (s : ST) (r : Int32 × ST), k4 x0 x1 x2 x3 s = some r → Ev l d mi_X3_dearestPrey 4 [some (.ref x0), some (.int x1), some (.int x2), some (.int x3), none] [] (hp s) 0 0 (some (.int r.1), hp r.2)) (x0 : Nat) (x1 : Int32) (x3 : Int32) (y0 : Int32) (y1 : Int32) (s : ST) (r : Int32 × ST) (hf : f_X3_dearestPrey_j34 k4 x0 x1 x3 y0 y1 s = some r) : Ev l d mi_X3_dearestPrey 34 [some (.ref x0), some (.int x1), none, some (.int x3), none] [.int y1, .int y0] (hp s) 0 0 (some (.int r.1), hp r.2) := by
  unfold f_X3_dearestPrey_j34 at hf
  refine Ev.blk (pc' := 39) [(.ior, 0, 0, 0), (.istore_n 2, 0, 0, 0), (.iinc 3 1, 0, 0, 0)] (by decide +kernel) trivial rfl (And.intro (Nat.le_of_ble_eq_true rfl) (And.intro (Nat.le_of_ble_eq_true rfl) (?_)))
  show Ev l d mi_X3_dearestPrey 39 [some (.ref x0), some (.int x1), some (.int (y0 ||| y1)), some (.int (x3 + Int32.ofInt 1)), none] [] (hp s) 0 0 _
  refine Ev.goto (off := -35) (tgt := 4) (by decide +kernel) (by decide) ?_
  exact hk4 x0 x1 (y0 ||| y1) (x3 + Int32.ofInt 1) s _ hf
def f_X3_dearestPrey_L4 (k42 : Nat → Int32 → Int32 → ST → Option (Int32 × ST)) : Nat → Nat → Int32 → Int32 → Int32 → ST → Option (Int32 × ST)
  | 0, _, _, _, _, _ => none
  | n + 1, x0, x1, x2, x3, s => gd (kk x0 3) ((RR s.2.2 x0 0).bind (fun a2 => gd (kk a2 4) ((if (s.1 a2 8) ≤ x3 then k42 x0 x1 x2 s else (f_X3_isOut x0 x3 x1 s).bind (fun q5 => (if q5.1 = 0 then (f_X3_dearestPrey_j34 (f_X3_dearestPrey_L4 k42 n)) x0 x1 x3 x2 (Int32.ofInt 0) q5.2 else (f_X3_goals x0 x3 q5.2).bind (fun q7 => (f_X3_dearestPrey_j34 (f_X3_dearestPrey_L4 k42 n)) x0 x1 x3 x2 q7.1 q7.2)))))))
set_option maxHeartbeats 2000000 in
set_option maxRecDepth 20000 in
theorem e_X3_dearestPrey_L4 {l : Launch} {d : Nat} (hd : 3 ≤ d) (k42 : Nat → Int32 → Int32 → ST → Option (Int32 × ST)) (hk42 : ∀ (x0 : Nat) (x1 : Int32) (x2 : Int32) (s : ST) (r : Int32 × ST), k42 x0 x1 x2 s = some r → Ev l d mi_X3_dearestPrey 42 [some (.ref x0), some (.int x1), some (.int x2), none, none] [] (hp s) 0 0 (some (.int r.1), hp r.2)) : ∀ (n : Nat) (x0 : Nat) (x1 : Int32) (x2 : Int32) (x3 : Int32) (s : ST) (r : Int32 × ST), f_X3_dearestPrey_L4 k42 n x0 x1 x2 x3 s = some r → Ev l d mi_X3_dearestPrey 4 [some (.ref x0), some (.int x1), some (.int x2), some (.int x3), none] [] (hp s) 0 0 (some (.int r.1), hp r.2) := by
  intro n
  induction n with
  | zero =>
    intro x0 x1 x2 x3 s r hf
    cases hf
  | succ n ih =>
    intro x0 x1 x2 x3 s r hf
    unfold f_X3_dearestPrey_L4 at hf
    obtain ⟨c1, hf⟩ := gd_some hf
    obtain ⟨a2, ha2, hf⟩ := bd_some hf
    obtain ⟨c3, hf⟩ := gd_some hf
    refine Ev.blk (pc' := 12) [(.iload_n 3, 0, 0, 0), (.aload_n 0, 0, 0, 0), (.getfield 56, 0, 3, 0), (.getfield 66, 0, 4, 8)] (by decide +kernel) ⟨kf_3_56, ⟨kf_3_66, trivial⟩⟩ rfl (And.intro (kk_ok c1) (Exists.intro a2 (And.intro ha2 (And.intro (kk_ok c3) (?_)))))
    show Ev l d mi_X3_dearestPrey 12 [some (.ref x0), some (.int x1), some (.int x2), some (.int x3), none] [.int (s.1 a2 8), .int x3] (hp s) 0 0 _
    refine Ev.icmp_ge (off := 30) (tgt := 42) (by decide +kernel) (by decide) (fun b4 => ?_) (fun b4 => ?_)
    · have hf := (if_pos b4).symm.trans hf
      exact Ev.wk (hk42 x0 x1 x2 s _ hf) (And.intro (Or.inr rfl) (And.intro (Or.inr rfl) (And.intro (Or.inr rfl) (And.intro (Or.inl rfl) (And.intro (Or.inr rfl) (trivial))))))
    · have hf := (if_neg b4).symm.trans hf
      refine Ev.blk (pc' := 19) [(.iload_n 2, 0, 0, 0), (.aload_n 0, 0, 0, 0), (.iload_n 3, 0, 0, 0), (.iload_n 1, 0, 0, 0)] (by decide +kernel) trivial rfl (?_)
      show Ev l d mi_X3_dearestPrey 19 [some (.ref x0), some (.int x1), some (.int x2), some (.int x3), none] [.int x1, .int x3, .ref x0, .int x2] (hp s) 0 0 _
      obtain ⟨q5, hq5, hf⟩ := bd_some hf
      refine Ev.callV (o := x0) (M' := mi_X3_isOut) (d' := d - 1) (As := [.int x3, .int x1]) (rest := [.int x2]) (r' := (some (.int q5.1), hp q5.2)) (e_X3_isOut (d := d - 1) (by omega) x0 x3 x1 s _ hq5) (by omega) wm_X3_isOut wi_X3_isOut wv_X3_isOut km_3_102 (kk_ok c1) (Nat.le_of_ble_eq_true rfl) rfl rfl rfl (Nat.le_of_ble_eq_true rfl) ⟨Nat.le_of_ble_eq_true rfl, Nat.le_of_ble_eq_true rfl⟩ (by decide +kernel) ?_
      show Ev l d mi_X3_dearestPrey 22 [some (.ref x0), some (.int x1), some (.int x2), some (.int x3), none] [.int q5.1, .int x2] (hp q5.2) 0 0 _
      refine Ev.if_eq (off := 11) (tgt := 33) (by decide +kernel) (by decide) (fun b6 => ?_) (fun b6 => ?_)
      · have hf := (if_pos b6).symm.trans hf
        refine Ev.blk (pc' := 34) [(.iconst 0, 0, 0, 0)] (by decide +kernel) trivial rfl (?_)
        show Ev l d mi_X3_dearestPrey 34 [some (.ref x0), some (.int x1), some (.int x2), some (.int x3), none] [.int (Int32.ofInt 0), .int x2] (hp q5.2) 0 0 _
        exact Ev.wk ((e_X3_dearestPrey_j34 hd (f_X3_dearestPrey_L4 k42 n) ih) x0 x1 x3 x2 (Int32.ofInt 0) q5.2 _ hf) (And.intro (Or.inr rfl) (And.intro (Or.inr rfl) (And.intro (Or.inl rfl) (And.intro (Or.inr rfl) (And.intro (Or.inr rfl) (trivial))))))
      · have hf := (if_neg b6).symm.trans hf
        refine Ev.blk (pc' := 27) [(.aload_n 0, 0, 0, 0), (.iload_n 3, 0, 0, 0)] (by decide +kernel) trivial rfl (?_)
        show Ev l d mi_X3_dearestPrey 27 [some (.ref x0), some (.int x1), some (.int x2), some (.int x3), none] [.int x3, .ref x0, .int x2] (hp q5.2) 0 0 _
        obtain ⟨q7, hq7, hf⟩ := bd_some hf
        refine Ev.callV (o := x0) (M' := mi_X3_goals) (d' := d - 1) (As := [.int x3]) (rest := [.int x2]) (r' := (some (.int q7.1), hp q7.2)) (e_X3_goals (d := d - 1) (by omega) x0 x3 q5.2 _ hq7) (by omega) wm_X3_goals wi_X3_goals wv_X3_goals km_3_143 (kk_ok c1) (Nat.le_of_ble_eq_true rfl) rfl rfl rfl (Nat.le_of_ble_eq_true rfl) ⟨Nat.le_of_ble_eq_true rfl, Nat.le_of_ble_eq_true rfl⟩ (by decide +kernel) ?_
        show Ev l d mi_X3_dearestPrey 30 [some (.ref x0), some (.int x1), some (.int x2), some (.int x3), none] [.int q7.1, .int x2] (hp q7.2) 0 0 _
        refine Ev.goto (off := 4) (tgt := 34) (by decide +kernel) (by decide) ?_
        exact Ev.wk ((e_X3_dearestPrey_j34 hd (f_X3_dearestPrey_L4 k42 n) ih) x0 x1 x3 x2 q7.1 q7.2 _ hf) (And.intro (Or.inr rfl) (And.intro (Or.inr rfl) (And.intro (Or.inl rfl) (And.intro (Or.inr rfl) (And.intro (Or.inr rfl) (trivial))))))
def f_X3_dearestPrey_L47 : Nat → Nat → Int32 → Int32 → Int32 → Int32 → ST → Option (Int32 × ST)
  | 0, _, _, _, _, _, _ => none
  | n + 1, x0, x1, x2, x3, x4, s => gd (kk x0 3) ((RR s.2.2 x0 0).bind (fun a9 => gd (kk a9 4) ((if (s.1 a9 8) ≤ x4 then some (x3, s) else (f_X3_isOut x0 x4 ((Int32.ofInt 1) - x1) s).bind (fun q12 => (if q12.1 = 0 then (f_X3_dearestPrey_L47 n) x0 x1 x2 x3 (x4 + Int32.ofInt 1) q12.2 else (RR q12.2.2.2 x0 4).bind (fun a14 => gd (kk a14 13) (gd (ib x4 (K0 a14).2) (lt ((x2 >>> ((q12.2.1 a14 x4.toNatClampNeg) &&& 31)) &&& (Int32.ofInt 1)) (fun v17 => (if v17 = 0 then (f_X3_dearestPrey_L47 n) x0 x1 x2 x3 (x4 + Int32.ofInt 1) q12.2 else (RR q12.2.2.2 x0 0).bind (fun a19 => (f_X4_worthOf a19 x4 q12.2).bind (fun q20 => gd (kk a19 4) ((f_X3_dearestPrey_L47 n) x0 x1 x2 (if x3 < q20.1 then q20.1 else x3) (x4 + Int32.ofInt 1) q20.2))))))))))))))
set_option maxHeartbeats 2000000 in
set_option maxRecDepth 20000 in
theorem e_X3_dearestPrey_L47 {l : Launch} {d : Nat} (hd : 3 ≤ d) : ∀ (n : Nat) (x0 : Nat) (x1 : Int32) (x2 : Int32) (x3 : Int32) (x4 : Int32) (s : ST) (r : Int32 × ST), f_X3_dearestPrey_L47 n x0 x1 x2 x3 x4 s = some r → Ev l d mi_X3_dearestPrey 47 [some (.ref x0), some (.int x1), some (.int x2), some (.int x3), some (.int x4)] [] (hp s) 0 0 (some (.int r.1), hp r.2) := by
  intro n
  induction n with
  | zero =>
    intro x0 x1 x2 x3 x4 s r hf
    cases hf
  | succ n ih =>
    intro x0 x1 x2 x3 x4 s r hf
    unfold f_X3_dearestPrey_L47 at hf
    obtain ⟨c8, hf⟩ := gd_some hf
    obtain ⟨a9, ha9, hf⟩ := bd_some hf
    obtain ⟨c10, hf⟩ := gd_some hf
    refine Ev.blk (pc' := 56) [(.iload 4, 0, 0, 0), (.aload_n 0, 0, 0, 0), (.getfield 56, 0, 3, 0), (.getfield 66, 0, 4, 8)] (by decide +kernel) ⟨kf_3_56, ⟨kf_3_66, trivial⟩⟩ rfl (And.intro (kk_ok c8) (Exists.intro a9 (And.intro ha9 (And.intro (kk_ok c10) (?_)))))
    show Ev l d mi_X3_dearestPrey 56 [some (.ref x0), some (.int x1), some (.int x2), some (.int x3), some (.int x4)] [.int (s.1 a9 8), .int x4] (hp s) 0 0 _
    refine Ev.icmp_ge (off := 49) (tgt := 105) (by decide +kernel) (by decide) (fun b11 => ?_) (fun b11 => ?_)
    · have hf := (if_pos b11).symm.trans hf
      refine Ev.blk (pc' := 106) [(.iload_n 3, 0, 0, 0)] (by decide +kernel) trivial rfl (?_)
      show Ev l d mi_X3_dearestPrey 106 [some (.ref x0), some (.int x1), some (.int x2), some (.int x3), some (.int x4)] [.int x3] (hp s) 0 0 _
      cases hf
      exact Ev.iret .int rfl rfl (by decide +kernel) (Nat.le_refl _) (Nat.le_refl _)
    · have hf := (if_neg b11).symm.trans hf
      refine Ev.blk (pc' := 65) [(.aload_n 0, 0, 0, 0), (.iload 4, 0, 0, 0), (.iconst 1, 0, 0, 0), (.iload_n 1, 0, 0, 0), (.isub, 0, 0, 0)] (by decide +kernel) trivial rfl (?_)
      show Ev l d mi_X3_dearestPrey 65 [some (.ref x0), some (.int x1), some (.int x2), some (.int x3), some (.int x4)] [.int ((Int32.ofInt 1) - x1), .int x4, .ref x0] (hp s) 0 0 _
      obtain ⟨q12, hq12, hf⟩ := bd_some hf
      refine Ev.callV (o := x0) (M' := mi_X3_isOut) (d' := d - 1) (As := [.int x4, .int ((Int32.ofInt 1) - x1)]) (rest := []) (r' := (some (.int q12.1), hp q12.2)) (e_X3_isOut (d := d - 1) (by omega) x0 x4 ((Int32.ofInt 1) - x1) s _ hq12) (by omega) wm_X3_isOut wi_X3_isOut wv_X3_isOut km_3_102 (kk_ok c8) (Nat.le_of_ble_eq_true rfl) rfl rfl rfl (Nat.le_of_ble_eq_true rfl) ⟨Nat.le_of_ble_eq_true rfl, Nat.le_of_ble_eq_true rfl⟩ (by decide +kernel) ?_
      show Ev l d mi_X3_dearestPrey 68 [some (.ref x0), some (.int x1), some (.int x2), some (.int x3), some (.int x4)] [.int q12.1] (hp q12.2) 0 0 _
      refine Ev.if_eq (off := 31) (tgt := 99) (by decide +kernel) (by decide) (fun b13 => ?_) (fun b13 => ?_)
      · have hf := (if_pos b13).symm.trans hf
        refine Ev.blk (pc' := 102) [(.iinc 4 1, 0, 0, 0)] (by decide +kernel) trivial rfl (And.intro (Nat.le_of_ble_eq_true rfl) (?_))
        show Ev l d mi_X3_dearestPrey 102 [some (.ref x0), some (.int x1), some (.int x2), some (.int x3), some (.int (x4 + Int32.ofInt 1))] [] (hp q12.2) 0 0 _
        refine Ev.goto (off := -55) (tgt := 47) (by decide +kernel) (by decide) ?_
        exact ih x0 x1 x2 x3 (x4 + Int32.ofInt 1) q12.2 _ hf
      · have hf := (if_neg b13).symm.trans hf
        obtain ⟨a14, ha14, hf⟩ := bd_some hf
        obtain ⟨c15, hf⟩ := gd_some hf
        obtain ⟨c16, hf⟩ := gd_some hf
        obtain ⟨v17, hv17, hf⟩ := lt_some hf
        refine Ev.blk (pc' := 82) [(.iload_n 2, 0, 0, 0), (.aload_n 0, 0, 0, 0), (.getfield 22, 0, 3, 4), (.iload 4, 0, 0, 0), (.iaload, 0, 0, 0), (.ishr, 0, 0, 0), (.iconst 1, 0, 0, 0), (.iand, 0, 0, 0)] (by decide +kernel) ⟨kf_3_22, trivial⟩ rfl (And.intro (kk_ok c8) (Exists.intro a14 (And.intro ha14 (And.intro (kk_ok c15) (And.intro (ib_ok c16) (?_))))))
        show Ev l d mi_X3_dearestPrey 82 [some (.ref x0), some (.int x1), some (.int x2), some (.int x3), some (.int x4)] [.int ((x2 >>> ((q12.2.1 a14 x4.toNatClampNeg) &&& 31)) &&& (Int32.ofInt 1))] (hp q12.2) 0 0 _
        rw [← hv17]
        refine Ev.if_eq (off := 17) (tgt := 99) (by decide +kernel) (by decide) (fun b18 => ?_) (fun b18 => ?_)
        · have hf := (if_pos b18).symm.trans hf
          refine Ev.blk (pc' := 102) [(.iinc 4 1, 0, 0, 0)] (by decide +kernel) trivial rfl (And.intro (Nat.le_of_ble_eq_true rfl) (?_))
          show Ev l d mi_X3_dearestPrey 102 [some (.ref x0), some (.int x1), some (.int x2), some (.int x3), some (.int (x4 + Int32.ofInt 1))] [] (hp q12.2) 0 0 _
          refine Ev.goto (off := -55) (tgt := 47) (by decide +kernel) (by decide) ?_
          exact ih x0 x1 x2 x3 (x4 + Int32.ofInt 1) q12.2 _ hf
        · have hf := (if_neg b18).symm.trans hf
          obtain ⟨a19, ha19, hf⟩ := bd_some hf
          refine Ev.blk (pc' := 92) [(.iload_n 3, 0, 0, 0), (.aload_n 0, 0, 0, 0), (.getfield 56, 0, 3, 0), (.iload 4, 0, 0, 0)] (by decide +kernel) ⟨kf_3_56, trivial⟩ rfl (And.intro (kk_ok c8) (Exists.intro a19 (And.intro ha19 (?_))))
          show Ev l d mi_X3_dearestPrey 92 [some (.ref x0), some (.int x1), some (.int x2), some (.int x3), some (.int x4)] [.int x4, .ref a19, .int x3] (hp q12.2) 0 0 _
          obtain ⟨q20, hq20, hf⟩ := bd_some hf
          obtain ⟨c21, hf⟩ := gd_some hf
          refine Ev.callV (o := a19) (M' := mi_X4_worthOf) (d' := d - 1) (As := [.int x4]) (rest := [.int x3]) (r' := (some (.int q20.1), hp q20.2)) (e_X4_worthOf (d := d - 1) (by omega) a19 x4 q12.2 _ hq20) (by omega) wm_X4_worthOf wi_X4_worthOf wv_X4_worthOf km_3_196 (kk_ok c21) (Nat.le_of_ble_eq_true rfl) rfl rfl rfl (Nat.le_of_ble_eq_true rfl) ⟨Nat.le_of_ble_eq_true rfl, Nat.le_of_ble_eq_true rfl⟩ (by decide +kernel) ?_
          show Ev l d mi_X3_dearestPrey 95 [some (.ref x0), some (.int x1), some (.int x2), some (.int x3), some (.int x4)] [.int q20.1, .int x3] (hp q20.2) 0 0 _
          refine Ev.mmax km_3_181 wt_J9_max_7cf53 wini_12 wm_J9_max_7cf53.1 (by omega) (Nat.le_of_ble_eq_true rfl) ⟨Nat.le_refl _, Nat.le_refl _⟩ (by decide +kernel) ?_
          show Ev l d mi_X3_dearestPrey 98 [some (.ref x0), some (.int x1), some (.int x2), some (.int x3), some (.int x4)] [.int (if x3 < q20.1 then q20.1 else x3)] (hp q20.2) 0 0 _
          refine Ev.blk (pc' := 102) [(.istore_n 3, 0, 0, 0), (.iinc 4 1, 0, 0, 0)] (by decide +kernel) trivial rfl (And.intro (Nat.le_of_ble_eq_true rfl) (And.intro (Nat.le_of_ble_eq_true rfl) (?_)))
          show Ev l d mi_X3_dearestPrey 102 [some (.ref x0), some (.int x1), some (.int x2), some (.int (if x3 < q20.1 then q20.1 else x3)), some (.int (x4 + Int32.ofInt 1))] [] (hp q20.2) 0 0 _
          refine Ev.goto (off := -55) (tgt := 47) (by decide +kernel) (by decide) ?_
          exact ih x0 x1 x2 (if x3 < q20.1 then q20.1 else x3) (x4 + Int32.ofInt 1) q20.2 _ hf
def f_X3_dearestPrey_j42 (x0 : Nat) (x1 : Int32) (x2 : Int32) (s : ST) : Option (Int32 × ST) := (f_X3_dearestPrey_L47 fuel) x0 x1 x2 (Int32.ofInt 0) (Int32.ofInt 0) s
set_option maxHeartbeats 2000000 in
set_option maxRecDepth 20000 in
theorem e_X3_dearestPrey_j42 {l : Launch} {d : Nat} (hd : 3 ≤ d) (x0 : Nat) (x1 : Int32) (x2 : Int32) (s : ST) (r : Int32 × ST) (hf : f_X3_dearestPrey_j42 x0 x1 x2 s = some r) : Ev l d mi_X3_dearestPrey 42 [some (.ref x0), some (.int x1), some (.int x2), none, none] [] (hp s) 0 0 (some (.int r.1), hp r.2) := by
  unfold f_X3_dearestPrey_j42 at hf
  refine Ev.blk (pc' := 47) [(.iconst 0, 0, 0, 0), (.istore_n 3, 0, 0, 0), (.iconst 0, 0, 0, 0), (.istore 4, 0, 0, 0)] (by decide +kernel) trivial rfl (And.intro (Nat.le_of_ble_eq_true rfl) (And.intro (Nat.le_of_ble_eq_true rfl) (?_)))
  show Ev l d mi_X3_dearestPrey 47 [some (.ref x0), some (.int x1), some (.int x2), some (.int (Int32.ofInt 0)), some (.int (Int32.ofInt 0))] [] (hp s) 0 0 _
  exact (e_X3_dearestPrey_L47 hd fuel) x0 x1 x2 (Int32.ofInt 0) (Int32.ofInt 0) s _ hf
def f_X3_dearestPrey (o : Nat) (p0 : Int32) (s : ST) : Option (Int32 × ST) := (f_X3_dearestPrey_L4 f_X3_dearestPrey_j42 fuel) o p0 (Int32.ofInt 0) (Int32.ofInt 0) s
set_option maxHeartbeats 2000000 in
set_option maxRecDepth 20000 in
theorem e_X3_dearestPrey {l : Launch} {d : Nat} (hd : 3 ≤ d) (o : Nat) (p0 : Int32) (s : ST) (r : Int32 × ST) (hf : f_X3_dearestPrey o p0 s = some r) : Cl l d mi_X3_dearestPrey [.ref o, .int p0] (hp s) (some (.int r.1), hp r.2) := by
  refine Ev.entry (by decide +kernel) rfl rfl ?_
  show Ev l d mi_X3_dearestPrey 0 [some (.ref o), some (.int p0), none, none, none] [] (hp s) 0 0 _
  unfold f_X3_dearestPrey at hf
  refine Ev.blk (pc' := 4) [(.iconst 0, 0, 0, 0), (.istore_n 2, 0, 0, 0), (.iconst 0, 0, 0, 0), (.istore_n 3, 0, 0, 0)] (by decide +kernel) trivial rfl (And.intro (Nat.le_of_ble_eq_true rfl) (And.intro (Nat.le_of_ble_eq_true rfl) (?_)))
  show Ev l d mi_X3_dearestPrey 4 [some (.ref o), some (.int p0), some (.int (Int32.ofInt 0)), some (.int (Int32.ofInt 0)), none] [] (hp s) 0 0 _
  exact (e_X3_dearestPrey_L4 hd f_X3_dearestPrey_j42 (e_X3_dearestPrey_j42 hd) fuel) o p0 (Int32.ofInt 0) (Int32.ofInt 0) s _ hf
def f_X3_outlook_j128 (rc_X3_outlookBehind : Nat → Int32 → Int32 → Int32 → ST → Option (Int32 × ST)) (k79 : Nat → Int32 → Int32 → Int32 → Int32 → Int32 → Int32 → Int32 → ST → Option (Int32 × ST)) (x0 : Nat) (x1 : Int32) (x2 : Int32) (x5 : Int32) (x6 : Int32) (x7 : Int32) (y0 : Int32) (s : ST) : Option (Int32 × ST) := k79 x0 x1 x2 (Int32.ofInt 1) y0 x5 x6 (x7 + Int32.ofInt 1) s
set_option maxHeartbeats 2000000 in
set_option maxRecDepth 20000 in
theorem e_X3_outlook_j128 {l : Launch} {d : Nat} (hd : 4 ≤ d) (rc_X3_outlookBehind : Nat → Int32 → Int32 → Int32 → ST → Option (Int32 × ST)) (h_X3_outlookBehind : ∀ (o : Nat) (p0 : Int32) (p1 : Int32) (p2 : Int32) (s : ST) (r : Int32 × ST), rc_X3_outlookBehind o p0 p1 p2 s = some r → Cl l (d - 1) mi_X3_outlookBehind [.ref o, .int p0, .int p1, .int p2] (hp s) (some (.int r.1), hp r.2)) (k79 : Nat → Int32 → Int32 → Int32 → Int32 → Int32 → Int32 → Int32 → ST → Option (Int32 × ST)) (hk79 : ∀ (x0 : Nat) (x1 : Int32) (x2 : Int32) (x3 : Int32) (x4 : Int32) (x5 : Int32) (x6 : Int32) (x7 : Int32) (s : ST) (r : Int32 × ST), k79 x0 x1 x2 x3 x4 x5 x6 x7 s = some r → Ev l d mi_X3_outlook 79 [some (.ref x0), some (.int x1), some (.int x2), some (.int x3), some (.int x4), some (.int x5), some (.int x6), some (.int x7), none] [] (hp s) 0 0 (some (.int r.1), hp r.2)) (x0 : Nat) (x1 : Int32) (x2 : Int32) (x5 : Int32) (x6 : Int32) (x7 : Int32) (y0 : Int32) (s : ST) (r : Int32 × ST) (hf : f_X3_outlook_j128 rc_X3_outlookBehind k79 x0 x1 x2 x5 x6 x7 y0 s = some r) : Ev l d mi_X3_outlook 128 [some (.ref x0), some (.int x1), some (.int x2), none, none, some (.int x5), some (.int x6), some (.int x7), none] [.int y0] (hp s) 0 0 (some (.int r.1), hp r.2) := by
  unfold f_X3_outlook_j128 at hf
  refine Ev.blk (pc' := 135) [(.istore 4, 0, 0, 0), (.iconst 1, 0, 0, 0), (.istore_n 3, 0, 0, 0), (.iinc 7 1, 0, 0, 0)] (by decide +kernel) trivial rfl (And.intro (Nat.le_of_ble_eq_true rfl) (And.intro (Nat.le_of_ble_eq_true rfl) (And.intro (Nat.le_of_ble_eq_true rfl) (?_))))
  show Ev l d mi_X3_outlook 135 [some (.ref x0), some (.int x1), some (.int x2), some (.int (Int32.ofInt 1)), some (.int y0), some (.int x5), some (.int x6), some (.int (x7 + Int32.ofInt 1)), none] [] (hp s) 0 0 _
  refine Ev.goto (off := -56) (tgt := 79) (by decide +kernel) (by decide) ?_
  exact hk79 x0 x1 x2 (Int32.ofInt 1) y0 x5 x6 (x7 + Int32.ofInt 1) s _ hf
def f_X3_outlook_L79 (rc_X3_outlookBehind : Nat → Int32 → Int32 → Int32 → ST → Option (Int32 × ST)) (k42 : Nat → Int32 → Int32 → Int32 → Int32 → Int32 → ST → Option (Int32 × ST)) : Nat → Nat → Int32 → Int32 → Int32 → Int32 → Int32 → Int32 → Int32 → ST → Option (Int32 × ST)
  | 0, _, _, _, _, _, _, _, _, _ => none
  | n + 1, x0, x1, x2, x3, x4, x5, x6, x7, s => (if x6 = 0 then k42 x0 x1 x2 x3 x4 (x5 + Int32.ofInt 1) s else (if ((Int8.ofInt 25).toInt32) ≤ x7 then k42 x0 x1 x2 x3 x4 (x5 + Int32.ofInt 1) s else (if ((x6 >>> (x7 &&& 31)) &&& (Int32.ofInt 1)) = 0 then (f_X3_outlook_L79 rc_X3_outlookBehind k42 n) x0 x1 x2 x3 x4 x5 x6 (x7 + Int32.ofInt 1) s else (rc_X3_outlookBehind x0 x5 x7 x2 s).bind (fun q22 => gd (kk x0 3) ((if x3 = 0 then (f_X3_outlook_j128 rc_X3_outlookBehind (f_X3_outlook_L79 rc_X3_outlookBehind k42 n)) x0 x1 x2 x5 x6 x7 q22.1 q22.2 else (f_X3_outlook_j128 rc_X3_outlookBehind (f_X3_outlook_L79 rc_X3_outlookBehind k42 n)) x0 x1 x2 x5 x6 x7 (if x4 < q22.1 then q22.1 else x4) q22.2))))))
set_option maxHeartbeats 2000000 in
set_option maxRecDepth 20000 in
theorem e_X3_outlook_L79 {l : Launch} {d : Nat} (hd : 4 ≤ d) (rc_X3_outlookBehind : Nat → Int32 → Int32 → Int32 → ST → Option (Int32 × ST)) (h_X3_outlookBehind : ∀ (o : Nat) (p0 : Int32) (p1 : Int32) (p2 : Int32) (s : ST) (r : Int32 × ST), rc_X3_outlookBehind o p0 p1 p2 s = some r → Cl l (d - 1) mi_X3_outlookBehind [.ref o, .int p0, .int p1, .int p2] (hp s) (some (.int r.1), hp r.2)) (k42 : Nat → Int32 → Int32 → Int32 → Int32 → Int32 → ST → Option (Int32 × ST)) (hk42 : ∀ (x0 : Nat) (x1 : Int32) (x2 : Int32) (x3 : Int32) (x4 : Int32) (x5 : Int32) (s : ST) (r : Int32 × ST), k42 x0 x1 x2 x3 x4 x5 s = some r → Ev l d mi_X3_outlook 42 [some (.ref x0), some (.int x1), some (.int x2), some (.int x3), some (.int x4), some (.int x5), none, none, none] [] (hp s) 0 0 (some (.int r.1), hp r.2)) : ∀ (n : Nat) (x0 : Nat) (x1 : Int32) (x2 : Int32) (x3 : Int32) (x4 : Int32) (x5 : Int32) (x6 : Int32) (x7 : Int32) (s : ST) (r : Int32 × ST), f_X3_outlook_L79 rc_X3_outlookBehind k42 n x0 x1 x2 x3 x4 x5 x6 x7 s = some r → Ev l d mi_X3_outlook 79 [some (.ref x0), some (.int x1), some (.int x2), some (.int x3), some (.int x4), some (.int x5), some (.int x6), some (.int x7), none] [] (hp s) 0 0 (some (.int r.1), hp r.2) := by
  intro n
  induction n with
  | zero =>
    intro x0 x1 x2 x3 x4 x5 x6 x7 s r hf
    cases hf
  | succ n ih =>
    intro x0 x1 x2 x3 x4 x5 x6 x7 s r hf
    unfold f_X3_outlook_L79 at hf
    refine Ev.blk (pc' := 81) [(.iload 6, 0, 0, 0)] (by decide +kernel) trivial rfl (?_)
    show Ev l d mi_X3_outlook 81 [some (.ref x0), some (.int x1), some (.int x2), some (.int x3), some (.int x4), some (.int x5), some (.int x6), some (.int x7), none] [.int x6] (hp s) 0 0 _
    refine Ev.if_eq (off := 57) (tgt := 138) (by decide +kernel) (by decide) (fun b19 => ?_) (fun b19 => ?_)
    · have hf := (if_pos b19).symm.trans hf
      refine Ev.blk (pc' := 141) [(.iinc 5 1, 0, 0, 0)] (by decide +kernel) trivial rfl (And.intro (Nat.le_of_ble_eq_true rfl) (?_))
      show Ev l d mi_X3_outlook 141 [some (.ref x0), some (.int x1), some (.int x2), some (.int x3), some (.int x4), some (.int (x5 + Int32.ofInt 1)), some (.int x6), some (.int x7), none] [] (hp s) 0 0 _
      refine Ev.goto (off := -99) (tgt := 42) (by decide +kernel) (by decide) ?_
      exact Ev.wk (hk42 x0 x1 x2 x3 x4 (x5 + Int32.ofInt 1) s _ hf) (And.intro (Or.inr rfl) (And.intro (Or.inr rfl) (And.intro (Or.inr rfl) (And.intro (Or.inr rfl) (And.intro (Or.inr rfl) (And.intro (Or.inr rfl) (And.intro (Or.inl rfl) (And.intro (Or.inl rfl) (And.intro (Or.inr rfl) (trivial))))))))))
    · have hf := (if_neg b19).symm.trans hf
      refine Ev.blk (pc' := 88) [(.iload 7, 0, 0, 0), (.bipush 25, 0, 0, 0)] (by decide +kernel) trivial rfl (?_)
      show Ev l d mi_X3_outlook 88 [some (.ref x0), some (.int x1), some (.int x2), some (.int x3), some (.int x4), some (.int x5), some (.int x6), some (.int x7), none] [.int ((Int8.ofInt 25).toInt32), .int x7] (hp s) 0 0 _
      refine Ev.icmp_ge (off := 50) (tgt := 138) (by decide +kernel) (by decide) (fun b20 => ?_) (fun b20 => ?_)
      · have hf := (if_pos b20).symm.trans hf
        refine Ev.blk (pc' := 141) [(.iinc 5 1, 0, 0, 0)] (by decide +kernel) trivial rfl (And.intro (Nat.le_of_ble_eq_true rfl) (?_))
        show Ev l d mi_X3_outlook 141 [some (.ref x0), some (.int x1), some (.int x2), some (.int x3), some (.int x4), some (.int (x5 + Int32.ofInt 1)), some (.int x6), some (.int x7), none] [] (hp s) 0 0 _
        refine Ev.goto (off := -99) (tgt := 42) (by decide +kernel) (by decide) ?_
        exact Ev.wk (hk42 x0 x1 x2 x3 x4 (x5 + Int32.ofInt 1) s _ hf) (And.intro (Or.inr rfl) (And.intro (Or.inr rfl) (And.intro (Or.inr rfl) (And.intro (Or.inr rfl) (And.intro (Or.inr rfl) (And.intro (Or.inr rfl) (And.intro (Or.inl rfl) (And.intro (Or.inl rfl) (And.intro (Or.inr rfl) (trivial))))))))))
      · have hf := (if_neg b20).symm.trans hf
        refine Ev.blk (pc' := 98) [(.iload 6, 0, 0, 0), (.iload 7, 0, 0, 0), (.ishr, 0, 0, 0), (.iconst 1, 0, 0, 0), (.iand, 0, 0, 0)] (by decide +kernel) trivial rfl (?_)
        show Ev l d mi_X3_outlook 98 [some (.ref x0), some (.int x1), some (.int x2), some (.int x3), some (.int x4), some (.int x5), some (.int x6), some (.int x7), none] [.int ((x6 >>> (x7 &&& 31)) &&& (Int32.ofInt 1))] (hp s) 0 0 _
        refine Ev.if_eq (off := 34) (tgt := 132) (by decide +kernel) (by decide) (fun b21 => ?_) (fun b21 => ?_)
        · have hf := (if_pos b21).symm.trans hf
          refine Ev.blk (pc' := 135) [(.iinc 7 1, 0, 0, 0)] (by decide +kernel) trivial rfl (And.intro (Nat.le_of_ble_eq_true rfl) (?_))
          show Ev l d mi_X3_outlook 135 [some (.ref x0), some (.int x1), some (.int x2), some (.int x3), some (.int x4), some (.int x5), some (.int x6), some (.int (x7 + Int32.ofInt 1)), none] [] (hp s) 0 0 _
          refine Ev.goto (off := -56) (tgt := 79) (by decide +kernel) (by decide) ?_
          exact ih x0 x1 x2 x3 x4 x5 x6 (x7 + Int32.ofInt 1) s _ hf
        · have hf := (if_neg b21).symm.trans hf
          refine Ev.blk (pc' := 107) [(.aload_n 0, 0, 0, 0), (.iload 5, 0, 0, 0), (.iload 7, 0, 0, 0), (.iload_n 2, 0, 0, 0)] (by decide +kernel) trivial rfl (?_)
          show Ev l d mi_X3_outlook 107 [some (.ref x0), some (.int x1), some (.int x2), some (.int x3), some (.int x4), some (.int x5), some (.int x6), some (.int x7), none] [.int x2, .int x7, .int x5, .ref x0] (hp s) 0 0 _
          obtain ⟨q22, hq22, hf⟩ := bd_some hf
          obtain ⟨c23, hf⟩ := gd_some hf
          refine Ev.callV (o := x0) (M' := mi_X3_outlookBehind) (d' := d - 1) (As := [.int x5, .int x7, .int x2]) (rest := []) (r' := (some (.int q22.1), hp q22.2)) (h_X3_outlookBehind x0 x5 x7 x2 s _ hq22) (by omega) wm_X3_outlookBehind wi_X3_outlookBehind wv_X3_outlookBehind km_3_177 (kk_ok c23) (Nat.le_of_ble_eq_true rfl) rfl rfl rfl (Nat.le_of_ble_eq_true rfl) ⟨Nat.le_of_ble_eq_true rfl, Nat.le_of_ble_eq_true rfl⟩ (by decide +kernel) ?_
          show Ev l d mi_X3_outlook 110 [some (.ref x0), some (.int x1), some (.int x2), some (.int x3), some (.int x4), some (.int x5), some (.int x6), some (.int x7), none] [.int q22.1] (hp q22.2) 0 0 _
          refine Ev.blk (pc' := 113) [(.istore 8, 0, 0, 0), (.iload_n 3, 0, 0, 0)] (by decide +kernel) trivial rfl (And.intro (Nat.le_of_ble_eq_true rfl) (?_))
          show Ev l d mi_X3_outlook 113 [some (.ref x0), some (.int x1), some (.int x2), some (.int x3), some (.int x4), some (.int x5), some (.int x6), some (.int x7), some (.int q22.1)] [.int x3] (hp q22.2) 0 0 _
          refine Ev.if_eq (off := 13) (tgt := 126) (by decide +kernel) (by decide) (fun b24 => ?_) (fun b24 => ?_)
          · have hf := (if_pos b24).symm.trans hf
            refine Ev.blk (pc' := 128) [(.iload 8, 0, 0, 0)] (by decide +kernel) trivial rfl (?_)
            show Ev l d mi_X3_outlook 128 [some (.ref x0), some (.int x1), some (.int x2), some (.int x3), some (.int x4), some (.int x5), some (.int x6), some (.int x7), some (.int q22.1)] [.int q22.1] (hp q22.2) 0 0 _
            exact Ev.wk ((e_X3_outlook_j128 hd rc_X3_outlookBehind h_X3_outlookBehind (f_X3_outlook_L79 rc_X3_outlookBehind k42 n) ih) x0 x1 x2 x5 x6 x7 q22.1 q22.2 _ hf) (And.intro (Or.inr rfl) (And.intro (Or.inr rfl) (And.intro (Or.inr rfl) (And.intro (Or.inl rfl) (And.intro (Or.inl rfl) (And.intro (Or.inr rfl) (And.intro (Or.inr rfl) (And.intro (Or.inr rfl) (And.intro (Or.inl rfl) (trivial))))))))))
          · have hf := (if_neg b24).symm.trans hf
            refine Ev.blk (pc' := 120) [(.iload 4, 0, 0, 0), (.iload 8, 0, 0, 0)] (by decide +kernel) trivial rfl (?_)
            show Ev l d mi_X3_outlook 120 [some (.ref x0), some (.int x1), some (.int x2), some (.int x3), some (.int x4), some (.int x5), some (.int x6), some (.int x7), some (.int q22.1)] [.int q22.1, .int x4] (hp q22.2) 0 0 _
            refine Ev.mmax km_3_181 wt_J9_max_7cf53 wini_12 wm_J9_max_7cf53.1 (by omega) (Nat.le_of_ble_eq_true rfl) ⟨Nat.le_refl _, Nat.le_refl _⟩ (by decide +kernel) ?_
            show Ev l d mi_X3_outlook 123 [some (.ref x0), some (.int x1), some (.int x2), some (.int x3), some (.int x4), some (.int x5), some (.int x6), some (.int x7), some (.int q22.1)] [.int (if x4 < q22.1 then q22.1 else x4)] (hp q22.2) 0 0 _
            refine Ev.goto (off := 5) (tgt := 128) (by decide +kernel) (by decide) ?_
            exact Ev.wk ((e_X3_outlook_j128 hd rc_X3_outlookBehind h_X3_outlookBehind (f_X3_outlook_L79 rc_X3_outlookBehind k42 n) ih) x0 x1 x2 x5 x6 x7 (if x4 < q22.1 then q22.1 else x4) q22.2 _ hf) (And.intro (Or.inr rfl) (And.intro (Or.inr rfl) (And.intro (Or.inr rfl) (And.intro (Or.inl rfl) (And.intro (Or.inl rfl) (And.intro (Or.inr rfl) (And.intro (Or.inr rfl) (And.intro (Or.inr rfl) (And.intro (Or.inl rfl) (trivial))))))))))
def f_X3_outlook_j74 (rc_X3_outlookBehind : Nat → Int32 → Int32 → Int32 → ST → Option (Int32 × ST)) (k42 : Nat → Int32 → Int32 → Int32 → Int32 → Int32 → ST → Option (Int32 × ST)) (x0 : Nat) (x1 : Int32) (x2 : Int32) (x3 : Int32) (x4 : Int32) (x5 : Int32) (y0 : Int32) (s : ST) : Option (Int32 × ST) := (f_X3_outlook_L79 rc_X3_outlookBehind k42 fuel) x0 x1 x2 x3 x4 x5 y0 (Int32.ofInt 0) s
set_option maxHeartbeats 2000000 in
set_option maxRecDepth 20000 in
theorem e_X3_outlook_j74 {l : Launch} {d : Nat} (hd : 4 ≤ d) (rc_X3_outlookBehind : Nat → Int32 → Int32 → Int32 → ST → Option (Int32 × ST)) (h_X3_outlookBehind : ∀ (o : Nat) (p0 : Int32) (p1 : Int32) (p2 : Int32) (s : ST) (r : Int32 × ST), rc_X3_outlookBehind o p0 p1 p2 s = some r → Cl l (d - 1) mi_X3_outlookBehind [.ref o, .int p0, .int p1, .int p2] (hp s) (some (.int r.1), hp r.2)) (k42 : Nat → Int32 → Int32 → Int32 → Int32 → Int32 → ST → Option (Int32 × ST)) (hk42 : ∀ (x0 : Nat) (x1 : Int32) (x2 : Int32) (x3 : Int32) (x4 : Int32) (x5 : Int32) (s : ST) (r : Int32 × ST), k42 x0 x1 x2 x3 x4 x5 s = some r → Ev l d mi_X3_outlook 42 [some (.ref x0), some (.int x1), some (.int x2), some (.int x3), some (.int x4), some (.int x5), none, none, none] [] (hp s) 0 0 (some (.int r.1), hp r.2)) (x0 : Nat) (x1 : Int32) (x2 : Int32) (x3 : Int32) (x4 : Int32) (x5 : Int32) (y0 : Int32) (s : ST) (r : Int32 × ST) (hf : f_X3_outlook_j74 rc_X3_outlookBehind k42 x0 x1 x2 x3 x4 x5 y0 s = some r) : Ev l d mi_X3_outlook 74 [some (.ref x0), some (.int x1), some (.int x2), some (.int x3), some (.int x4), some (.int x5), none, none, none] [.int y0] (hp s) 0 0 (some (.int r.1), hp r.2) := by
  unfold f_X3_outlook_j74 at hf
  refine Ev.blk (pc' := 79) [(.istore 6, 0, 0, 0), (.iconst 0, 0, 0, 0), (.istore 7, 0, 0, 0)] (by decide +kernel) trivial rfl (And.intro (Nat.le_of_ble_eq_true rfl) (And.intro (Nat.le_of_ble_eq_true rfl) (?_)))
  show Ev l d mi_X3_outlook 79 [some (.ref x0), some (.int x1), some (.int x2), some (.int x3), some (.int x4), some (.int x5), some (.int y0), some (.int (Int32.ofInt 0)), none] [] (hp s) 0 0 _
  exact (e_X3_outlook_L79 hd rc_X3_outlookBehind h_X3_outlookBehind k42 hk42 fuel) x0 x1 x2 x3 x4 x5 y0 (Int32.ofInt 0) s _ hf
def f_X3_outlook_L42 (rc_X3_outlookBehind : Nat → Int32 → Int32 → Int32 → ST → Option (Int32 × ST)) (k144 : Nat → Int32 → Int32 → Int32 → ST → Option (Int32 × ST)) : Nat → Nat → Int32 → Int32 → Int32 → Int32 → Int32 → ST → Option (Int32 × ST)
  | 0, _, _, _, _, _, _, _ => none
  | n + 1, x0, x1, x2, x3, x4, x5, s => gd (kk x0 3) ((RR s.2.2 x0 0).bind (fun a10 => gd (kk a10 4) ((if (s.1 a10 8) ≤ x5 then k144 x0 x1 x3 x4 s else (f_X3_isOut x0 x5 x1 s).bind (fun q13 => (if q13.1 = 0 then (f_X3_outlook_j74 rc_X3_outlookBehind (f_X3_outlook_L42 rc_X3_outlookBehind k144 n)) x0 x1 x2 x3 x4 x5 (Int32.ofInt 0) q13.2 else (f_X3_goals x0 x5 q13.2).bind (fun q15 => (f_X3_outlook_j74 rc_X3_outlookBehind (f_X3_outlook_L42 rc_X3_outlookBehind k144 n)) x0 x1 x2 x3 x4 x5 q15.1 q15.2)))))))
set_option maxHeartbeats 2000000 in
set_option maxRecDepth 20000 in
theorem e_X3_outlook_L42 {l : Launch} {d : Nat} (hd : 4 ≤ d) (rc_X3_outlookBehind : Nat → Int32 → Int32 → Int32 → ST → Option (Int32 × ST)) (h_X3_outlookBehind : ∀ (o : Nat) (p0 : Int32) (p1 : Int32) (p2 : Int32) (s : ST) (r : Int32 × ST), rc_X3_outlookBehind o p0 p1 p2 s = some r → Cl l (d - 1) mi_X3_outlookBehind [.ref o, .int p0, .int p1, .int p2] (hp s) (some (.int r.1), hp r.2)) (k144 : Nat → Int32 → Int32 → Int32 → ST → Option (Int32 × ST)) (hk144 : ∀ (x0 : Nat) (x1 : Int32) (x3 : Int32) (x4 : Int32) (s : ST) (r : Int32 × ST), k144 x0 x1 x3 x4 s = some r → Ev l d mi_X3_outlook 144 [some (.ref x0), some (.int x1), none, some (.int x3), some (.int x4), none, none, none, none] [] (hp s) 0 0 (some (.int r.1), hp r.2)) : ∀ (n : Nat) (x0 : Nat) (x1 : Int32) (x2 : Int32) (x3 : Int32) (x4 : Int32) (x5 : Int32) (s : ST) (r : Int32 × ST), f_X3_outlook_L42 rc_X3_outlookBehind k144 n x0 x1 x2 x3 x4 x5 s = some r → Ev l d mi_X3_outlook 42 [some (.ref x0), some (.int x1), some (.int x2), some (.int x3), some (.int x4), some (.int x5), none, none, none] [] (hp s) 0 0 (some (.int r.1), hp r.2) := by
  intro n
  induction n with
  | zero =>
    intro x0 x1 x2 x3 x4 x5 s r hf
    cases hf
  | succ n ih =>
    intro x0 x1 x2 x3 x4 x5 s r hf
    unfold f_X3_outlook_L42 at hf
    obtain ⟨c9, hf⟩ := gd_some hf
    obtain ⟨a10, ha10, hf⟩ := bd_some hf
    obtain ⟨c11, hf⟩ := gd_some hf
    refine Ev.blk (pc' := 51) [(.iload 5, 0, 0, 0), (.aload_n 0, 0, 0, 0), (.getfield 56, 0, 3, 0), (.getfield 66, 0, 4, 8)] (by decide +kernel) ⟨kf_3_56, ⟨kf_3_66, trivial⟩⟩ rfl (And.intro (kk_ok c9) (Exists.intro a10 (And.intro ha10 (And.intro (kk_ok c11) (?_)))))
    show Ev l d mi_X3_outlook 51 [some (.ref x0), some (.int x1), some (.int x2), some (.int x3), some (.int x4), some (.int x5), none, none, none] [.int (s.1 a10 8), .int x5] (hp s) 0 0 _
    refine Ev.icmp_ge (off := 93) (tgt := 144) (by decide +kernel) (by decide) (fun b12 => ?_) (fun b12 => ?_)
    · have hf := (if_pos b12).symm.trans hf
      exact Ev.wk (hk144 x0 x1 x3 x4 s _ hf) (And.intro (Or.inr rfl) (And.intro (Or.inr rfl) (And.intro (Or.inl rfl) (And.intro (Or.inr rfl) (And.intro (Or.inr rfl) (And.intro (Or.inl rfl) (And.intro (Or.inr rfl) (And.intro (Or.inr rfl) (And.intro (Or.inr rfl) (trivial))))))))))
    · have hf := (if_neg b12).symm.trans hf
      refine Ev.blk (pc' := 58) [(.aload_n 0, 0, 0, 0), (.iload 5, 0, 0, 0), (.iload_n 1, 0, 0, 0)] (by decide +kernel) trivial rfl (?_)
      show Ev l d mi_X3_outlook 58 [some (.ref x0), some (.int x1), some (.int x2), some (.int x3), some (.int x4), some (.int x5), none, none, none] [.int x1, .int x5, .ref x0] (hp s) 0 0 _
      obtain ⟨q13, hq13, hf⟩ := bd_some hf
      refine Ev.callV (o := x0) (M' := mi_X3_isOut) (d' := d - 1) (As := [.int x5, .int x1]) (rest := []) (r' := (some (.int q13.1), hp q13.2)) (e_X3_isOut (d := d - 1) (by omega) x0 x5 x1 s _ hq13) (by omega) wm_X3_isOut wi_X3_isOut wv_X3_isOut km_3_102 (kk_ok c9) (Nat.le_of_ble_eq_true rfl) rfl rfl rfl (Nat.le_of_ble_eq_true rfl) ⟨Nat.le_of_ble_eq_true rfl, Nat.le_of_ble_eq_true rfl⟩ (by decide +kernel) ?_
      show Ev l d mi_X3_outlook 61 [some (.ref x0), some (.int x1), some (.int x2), some (.int x3), some (.int x4), some (.int x5), none, none, none] [.int q13.1] (hp q13.2) 0 0 _
      refine Ev.if_eq (off := 12) (tgt := 73) (by decide +kernel) (by decide) (fun b14 => ?_) (fun b14 => ?_)
      · have hf := (if_pos b14).symm.trans hf
        refine Ev.blk (pc' := 74) [(.iconst 0, 0, 0, 0)] (by decide +kernel) trivial rfl (?_)
        show Ev l d mi_X3_outlook 74 [some (.ref x0), some (.int x1), some (.int x2), some (.int x3), some (.int x4), some (.int x5), none, none, none] [.int (Int32.ofInt 0)] (hp q13.2) 0 0 _
        exact (e_X3_outlook_j74 hd rc_X3_outlookBehind h_X3_outlookBehind (f_X3_outlook_L42 rc_X3_outlookBehind k144 n) ih) x0 x1 x2 x3 x4 x5 (Int32.ofInt 0) q13.2 _ hf
      · have hf := (if_neg b14).symm.trans hf
        refine Ev.blk (pc' := 67) [(.aload_n 0, 0, 0, 0), (.iload 5, 0, 0, 0)] (by decide +kernel) trivial rfl (?_)
        show Ev l d mi_X3_outlook 67 [some (.ref x0), some (.int x1), some (.int x2), some (.int x3), some (.int x4), some (.int x5), none, none, none] [.int x5, .ref x0] (hp q13.2) 0 0 _
        obtain ⟨q15, hq15, hf⟩ := bd_some hf
        refine Ev.callV (o := x0) (M' := mi_X3_goals) (d' := d - 1) (As := [.int x5]) (rest := []) (r' := (some (.int q15.1), hp q15.2)) (e_X3_goals (d := d - 1) (by omega) x0 x5 q13.2 _ hq15) (by omega) wm_X3_goals wi_X3_goals wv_X3_goals km_3_143 (kk_ok c9) (Nat.le_of_ble_eq_true rfl) rfl rfl rfl (Nat.le_of_ble_eq_true rfl) ⟨Nat.le_of_ble_eq_true rfl, Nat.le_of_ble_eq_true rfl⟩ (by decide +kernel) ?_
        show Ev l d mi_X3_outlook 70 [some (.ref x0), some (.int x1), some (.int x2), some (.int x3), some (.int x4), some (.int x5), none, none, none] [.int q15.1] (hp q15.2) 0 0 _
        refine Ev.goto (off := 4) (tgt := 74) (by decide +kernel) (by decide) ?_
        exact (e_X3_outlook_j74 hd rc_X3_outlookBehind h_X3_outlookBehind (f_X3_outlook_L42 rc_X3_outlookBehind k144 n) ih) x0 x1 x2 x3 x4 x5 q15.1 q15.2 _ hf
def f_X3_outlook_j144 (rc_X3_outlookBehind : Nat → Int32 → Int32 → Int32 → ST → Option (Int32 × ST)) (x0 : Nat) (x1 : Int32) (x3 : Int32) (x4 : Int32) (s : ST) : Option (Int32 × ST) := (if x3 = 0 then (f_X3_balanceOf x0 x1 s).bind (fun q17 => gd (kk x0 3) (some (q17.1, q17.2))) else some (x4, s))
set_option maxHeartbeats 2000000 in
set_option maxRecDepth 20000 in
theorem e_X3_outlook_j144 {l : Launch} {d : Nat} (hd : 4 ≤ d) (rc_X3_outlookBehind : Nat → Int32 → Int32 → Int32 → ST → Option (Int32 × ST)) (h_X3_outlookBehind : ∀ (o : Nat) (p0 : Int32) (p1 : Int32) (p2 : Int32) (s : ST) (r : Int32 × ST), rc_X3_outlookBehind o p0 p1 p2 s = some r → Cl l (d - 1) mi_X3_outlookBehind [.ref o, .int p0, .int p1, .int p2] (hp s) (some (.int r.1), hp r.2)) (x0 : Nat) (x1 : Int32) (x3 : Int32) (x4 : Int32) (s : ST) (r : Int32 × ST) (hf : f_X3_outlook_j144 rc_X3_outlookBehind x0 x1 x3 x4 s = some r) : Ev l d mi_X3_outlook 144 [some (.ref x0), some (.int x1), none, some (.int x3), some (.int x4), none, none, none, none] [] (hp s) 0 0 (some (.int r.1), hp r.2) := by
  unfold f_X3_outlook_j144 at hf
  refine Ev.blk (pc' := 145) [(.iload_n 3, 0, 0, 0)] (by decide +kernel) trivial rfl (?_)
  show Ev l d mi_X3_outlook 145 [some (.ref x0), some (.int x1), none, some (.int x3), some (.int x4), none, none, none, none] [.int x3] (hp s) 0 0 _
  refine Ev.if_eq (off := 8) (tgt := 153) (by decide +kernel) (by decide) (fun b16 => ?_) (fun b16 => ?_)
  · have hf := (if_pos b16).symm.trans hf
    refine Ev.blk (pc' := 155) [(.aload_n 0, 0, 0, 0), (.iload_n 1, 0, 0, 0)] (by decide +kernel) trivial rfl (?_)
    show Ev l d mi_X3_outlook 155 [some (.ref x0), some (.int x1), none, some (.int x3), some (.int x4), none, none, none, none] [.int x1, .ref x0] (hp s) 0 0 _
    obtain ⟨q17, hq17, hf⟩ := bd_some hf
    obtain ⟨c18, hf⟩ := gd_some hf
    refine Ev.callV (o := x0) (M' := mi_X3_balanceOf) (d' := d - 1) (As := [.int x1]) (rest := []) (r' := (some (.int q17.1), hp q17.2)) (e_X3_balanceOf (d := d - 1) (by omega) x0 x1 s _ hq17) (by omega) wm_X3_balanceOf wi_X3_balanceOf wv_X3_balanceOf km_3_171 (kk_ok c18) (Nat.le_of_ble_eq_true rfl) rfl rfl rfl (Nat.le_of_ble_eq_true rfl) ⟨Nat.le_of_ble_eq_true rfl, Nat.le_of_ble_eq_true rfl⟩ (by decide +kernel) ?_
    show Ev l d mi_X3_outlook 158 [some (.ref x0), some (.int x1), none, some (.int x3), some (.int x4), none, none, none, none] [.int q17.1] (hp q17.2) 0 0 _
    cases hf
    exact Ev.iret .int rfl rfl (by decide +kernel) (Nat.le_refl _) (Nat.le_refl _)
  · have hf := (if_neg b16).symm.trans hf
    refine Ev.blk (pc' := 150) [(.iload 4, 0, 0, 0)] (by decide +kernel) trivial rfl (?_)
    show Ev l d mi_X3_outlook 150 [some (.ref x0), some (.int x1), none, some (.int x3), some (.int x4), none, none, none, none] [.int x4] (hp s) 0 0 _
    refine Ev.goto (off := 8) (tgt := 158) (by decide +kernel) (by decide) ?_
    cases hf
    exact Ev.iret .int rfl rfl (by decide +kernel) (Nat.le_refl _) (Nat.le_refl _)
def f_X3_outlook_j11 (rc_X3_outlookBehind : Nat → Int32 → Int32 → Int32 → ST → Option (Int32 × ST)) (x0 : Nat) (x1 : Int32) (s : ST) : Option (Int32 × ST) := (f_X3_balanceOf x0 x1 s).bind (fun q7 => gd (kk x0 3) (some (q7.1, q7.2)))
set_option maxHeartbeats 2000000 in
set_option maxRecDepth 20000 in
theorem e_X3_outlook_j11 {l : Launch} {d : Nat} (hd : 4 ≤ d) (rc_X3_outlookBehind : Nat → Int32 → Int32 → Int32 → ST → Option (Int32 × ST)) (h_X3_outlookBehind : ∀ (o : Nat) (p0 : Int32) (p1 : Int32) (p2 : Int32) (s : ST) (r : Int32 × ST), rc_X3_outlookBehind o p0 p1 p2 s = some r → Cl l (d - 1) mi_X3_outlookBehind [.ref o, .int p0, .int p1, .int p2] (hp s) (some (.int r.1), hp r.2)) (x0 : Nat) (x1 : Int32) (s : ST) (r : Int32 × ST) (hf : f_X3_outlook_j11 rc_X3_outlookBehind x0 x1 s = some r) : Ev l d mi_X3_outlook 11 [some (.ref x0), some (.int x1), none, none, none, none, none, none, none] [] (hp s) 0 0 (some (.int r.1), hp r.2) := by
  unfold f_X3_outlook_j11 at hf
  refine Ev.blk (pc' := 13) [(.aload_n 0, 0, 0, 0), (.iload_n 1, 0, 0, 0)] (by decide +kernel) trivial rfl (?_)
  show Ev l d mi_X3_outlook 13 [some (.ref x0), some (.int x1), none, none, none, none, none, none, none] [.int x1, .ref x0] (hp s) 0 0 _
  obtain ⟨q7, hq7, hf⟩ := bd_some hf
  obtain ⟨c8, hf⟩ := gd_some hf
  refine Ev.callV (o := x0) (M' := mi_X3_balanceOf) (d' := d - 1) (As := [.int x1]) (rest := []) (r' := (some (.int q7.1), hp q7.2)) (e_X3_balanceOf (d := d - 1) (by omega) x0 x1 s _ hq7) (by omega) wm_X3_balanceOf wi_X3_balanceOf wv_X3_balanceOf km_3_171 (kk_ok c8) (Nat.le_of_ble_eq_true rfl) rfl rfl rfl (Nat.le_of_ble_eq_true rfl) ⟨Nat.le_of_ble_eq_true rfl, Nat.le_of_ble_eq_true rfl⟩ (by decide +kernel) ?_
  show Ev l d mi_X3_outlook 16 [some (.ref x0), some (.int x1), none, none, none, none, none, none, none] [.int q7.1] (hp q7.2) 0 0 _
  cases hf
  exact Ev.iret .int rfl rfl (by decide +kernel) (Nat.le_refl _) (Nat.le_refl _)
def f_X3_outlook (rc_X3_outlookBehind : Nat → Int32 → Int32 → Int32 → ST → Option (Int32 × ST)) (o : Nat) (p0 : Int32) (p1 : Int32) (s : ST) : Option (Int32 × ST) := (if p1 ≤ 0 then (f_X3_outlook_j11 rc_X3_outlookBehind) o p0 s else gd (kk o 3) ((if (s.1 o 9) ≤ 0 then (if p1 = (Int32.ofInt 1) then (f_X3_balanceOf o p0 s).bind (fun q5 => (f_X3_dearestPrey o p0 q5.2).bind (fun q6 => some ((q5.1 + q6.1), q6.2))) else (f_X3_outlook_L42 rc_X3_outlookBehind (f_X3_outlook_j144 rc_X3_outlookBehind) fuel) o p0 p1 (Int32.ofInt 0) (Int32.ofInt 0) (Int32.ofInt 0) s) else (f_X3_outlook_j11 rc_X3_outlookBehind) o p0 s)))
set_option maxHeartbeats 2000000 in
set_option maxRecDepth 20000 in
theorem e_X3_outlook {l : Launch} {d : Nat} (hd : 4 ≤ d) (rc_X3_outlookBehind : Nat → Int32 → Int32 → Int32 → ST → Option (Int32 × ST)) (h_X3_outlookBehind : ∀ (o : Nat) (p0 : Int32) (p1 : Int32) (p2 : Int32) (s : ST) (r : Int32 × ST), rc_X3_outlookBehind o p0 p1 p2 s = some r → Cl l (d - 1) mi_X3_outlookBehind [.ref o, .int p0, .int p1, .int p2] (hp s) (some (.int r.1), hp r.2)) (o : Nat) (p0 : Int32) (p1 : Int32) (s : ST) (r : Int32 × ST) (hf : f_X3_outlook rc_X3_outlookBehind o p0 p1 s = some r) : Cl l d mi_X3_outlook [.ref o, .int p0, .int p1] (hp s) (some (.int r.1), hp r.2) := by
  refine Ev.entry (by decide +kernel) rfl rfl ?_
  show Ev l d mi_X3_outlook 0 [some (.ref o), some (.int p0), some (.int p1), none, none, none, none, none, none] [] (hp s) 0 0 _
  unfold f_X3_outlook at hf
  refine Ev.blk (pc' := 1) [(.iload_n 2, 0, 0, 0)] (by decide +kernel) trivial rfl (?_)
  show Ev l d mi_X3_outlook 1 [some (.ref o), some (.int p0), some (.int p1), none, none, none, none, none, none] [.int p1] (hp s) 0 0 _
  refine Ev.if_le (off := 10) (tgt := 11) (by decide +kernel) (by decide) (fun b1 => ?_) (fun b1 => ?_)
  · have hf := (if_pos b1).symm.trans hf
    exact Ev.wk ((e_X3_outlook_j11 hd rc_X3_outlookBehind h_X3_outlookBehind) o p0 s _ hf) (And.intro (Or.inr rfl) (And.intro (Or.inr rfl) (And.intro (Or.inl rfl) (And.intro (Or.inr rfl) (And.intro (Or.inr rfl) (And.intro (Or.inr rfl) (And.intro (Or.inr rfl) (And.intro (Or.inr rfl) (And.intro (Or.inr rfl) (trivial))))))))))
  · have hf := (if_neg b1).symm.trans hf
    obtain ⟨c2, hf⟩ := gd_some hf
    refine Ev.blk (pc' := 8) [(.aload_n 0, 0, 0, 0), (.getfield 37, 0, 3, 9)] (by decide +kernel) ⟨kf_3_37, trivial⟩ rfl (And.intro (kk_ok c2) (?_))
    show Ev l d mi_X3_outlook 8 [some (.ref o), some (.int p0), some (.int p1), none, none, none, none, none, none] [.int (s.1 o 9)] (hp s) 0 0 _
    refine Ev.if_le (off := 9) (tgt := 17) (by decide +kernel) (by decide) (fun b3 => ?_) (fun b3 => ?_)
    · have hf := (if_pos b3).symm.trans hf
      refine Ev.blk (pc' := 19) [(.iload_n 2, 0, 0, 0), (.iconst 1, 0, 0, 0)] (by decide +kernel) trivial rfl (?_)
      show Ev l d mi_X3_outlook 19 [some (.ref o), some (.int p0), some (.int p1), none, none, none, none, none, none] [.int (Int32.ofInt 1), .int p1] (hp s) 0 0 _
      refine Ev.icmp_ne (off := 15) (tgt := 34) (by decide +kernel) (by decide) (fun b4 => ?_) (fun b4 => ?_)
      · have hf := (if_neg b4).symm.trans hf
        refine Ev.blk (pc' := 42) [(.iconst 0, 0, 0, 0), (.istore_n 3, 0, 0, 0), (.iconst 0, 0, 0, 0), (.istore 4, 0, 0, 0), (.iconst 0, 0, 0, 0), (.istore 5, 0, 0, 0)] (by decide +kernel) trivial rfl (And.intro (Nat.le_of_ble_eq_true rfl) (And.intro (Nat.le_of_ble_eq_true rfl) (And.intro (Nat.le_of_ble_eq_true rfl) (?_))))
        show Ev l d mi_X3_outlook 42 [some (.ref o), some (.int p0), some (.int p1), some (.int (Int32.ofInt 0)), some (.int (Int32.ofInt 0)), some (.int (Int32.ofInt 0)), none, none, none] [] (hp s) 0 0 _
        exact (e_X3_outlook_L42 hd rc_X3_outlookBehind h_X3_outlookBehind (f_X3_outlook_j144 rc_X3_outlookBehind) (e_X3_outlook_j144 hd rc_X3_outlookBehind h_X3_outlookBehind) fuel) o p0 p1 (Int32.ofInt 0) (Int32.ofInt 0) (Int32.ofInt 0) s _ hf
      · have hf := (if_pos b4).symm.trans hf
        refine Ev.blk (pc' := 24) [(.aload_n 0, 0, 0, 0), (.iload_n 1, 0, 0, 0)] (by decide +kernel) trivial rfl (?_)
        show Ev l d mi_X3_outlook 24 [some (.ref o), some (.int p0), some (.int p1), none, none, none, none, none, none] [.int p0, .ref o] (hp s) 0 0 _
        obtain ⟨q5, hq5, hf⟩ := bd_some hf
        refine Ev.callV (o := o) (M' := mi_X3_balanceOf) (d' := d - 1) (As := [.int p0]) (rest := []) (r' := (some (.int q5.1), hp q5.2)) (e_X3_balanceOf (d := d - 1) (by omega) o p0 s _ hq5) (by omega) wm_X3_balanceOf wi_X3_balanceOf wv_X3_balanceOf km_3_171 (kk_ok c2) (Nat.le_of_ble_eq_true rfl) rfl rfl rfl (Nat.le_of_ble_eq_true rfl) ⟨Nat.le_of_ble_eq_true rfl, Nat.le_of_ble_eq_true rfl⟩ (by decide +kernel) ?_
        show Ev l d mi_X3_outlook 27 [some (.ref o), some (.int p0), some (.int p1), none, none, none, none, none, none] [.int q5.1] (hp q5.2) 0 0 _
        refine Ev.blk (pc' := 29) [(.aload_n 0, 0, 0, 0), (.iload_n 1, 0, 0, 0)] (by decide +kernel) trivial rfl (?_)
        show Ev l d mi_X3_outlook 29 [some (.ref o), some (.int p0), some (.int p1), none, none, none, none, none, none] [.int p0, .ref o, .int q5.1] (hp q5.2) 0 0 _
        obtain ⟨q6, hq6, hf⟩ := bd_some hf
        refine Ev.callV (o := o) (M' := mi_X3_dearestPrey) (d' := d - 1) (As := [.int p0]) (rest := [.int q5.1]) (r' := (some (.int q6.1), hp q6.2)) (e_X3_dearestPrey (d := d - 1) (by omega) o p0 q5.2 _ hq6) (by omega) wm_X3_dearestPrey wi_X3_dearestPrey wv_X3_dearestPrey km_3_174 (kk_ok c2) (Nat.le_of_ble_eq_true rfl) rfl rfl rfl (Nat.le_of_ble_eq_true rfl) ⟨Nat.le_of_ble_eq_true rfl, Nat.le_of_ble_eq_true rfl⟩ (by decide +kernel) ?_
        show Ev l d mi_X3_outlook 32 [some (.ref o), some (.int p0), some (.int p1), none, none, none, none, none, none] [.int q6.1, .int q5.1] (hp q6.2) 0 0 _
        refine Ev.blk (pc' := 33) [(.iadd, 0, 0, 0)] (by decide +kernel) trivial rfl (?_)
        show Ev l d mi_X3_outlook 33 [some (.ref o), some (.int p0), some (.int p1), none, none, none, none, none, none] [.int (q5.1 + q6.1)] (hp q6.2) 0 0 _
        cases hf
        exact Ev.iret .int rfl rfl (by decide +kernel) (Nat.le_refl _) (Nat.le_refl _)
    · have hf := (if_neg b3).symm.trans hf
      exact Ev.wk ((e_X3_outlook_j11 hd rc_X3_outlookBehind h_X3_outlookBehind) o p0 s _ hf) (And.intro (Or.inr rfl) (And.intro (Or.inr rfl) (And.intro (Or.inl rfl) (And.intro (Or.inr rfl) (And.intro (Or.inr rfl) (And.intro (Or.inr rfl) (And.intro (Or.inr rfl) (And.intro (Or.inr rfl) (And.intro (Or.inr rfl) (trivial))))))))))
def f_X3_outlookBehind (rc_X3_outlook : Nat → Int32 → Int32 → ST → Option (Int32 × ST)) (o : Nat) (p0 : Int32) (p1 : Int32) (p2 : Int32) (s : ST) : Option (Int32 × ST) := gd (kk o 3) ((RR s.2.2 o 4).bind (fun a2 => gd (kk a2 13) (gd (ib p0 (K0 a2).2) ((f_X3_carry o p0 p1 s).bind (fun q5 => (RR q5.2.2.2 o 0).bind (fun a6 => gd (kk a6 4) ((RR q5.2.2.2 a6 10).bind (fun a8 => gd (kk a8 13) (gd (ib p0 (K0 a8).2) ((rc_X3_outlook o ((Int32.ofInt 1) - (q5.2.1 a8 p0.toNatClampNeg)) (p2 - (Int32.ofInt 1)) q5.2).bind (fun q11 => (f_X3_carryBack o p0 (s.1 a2 p0.toNatClampNeg) q5.1 q11.2).bind (fun q12 => some ((-q11.1), q12)))))))))))))
set_option maxHeartbeats 2000000 in
set_option maxRecDepth 20000 in
theorem e_X3_outlookBehind {l : Launch} {d : Nat} (hd : 3 ≤ d) (rc_X3_outlook : Nat → Int32 → Int32 → ST → Option (Int32 × ST)) (h_X3_outlook : ∀ (o : Nat) (p0 : Int32) (p1 : Int32) (s : ST) (r : Int32 × ST), rc_X3_outlook o p0 p1 s = some r → Cl l (d - 1) mi_X3_outlook [.ref o, .int p0, .int p1] (hp s) (some (.int r.1), hp r.2)) (o : Nat) (p0 : Int32) (p1 : Int32) (p2 : Int32) (s : ST) (r : Int32 × ST) (hf : f_X3_outlookBehind rc_X3_outlook o p0 p1 p2 s = some r) : Cl l d mi_X3_outlookBehind [.ref o, .int p0, .int p1, .int p2] (hp s) (some (.int r.1), hp r.2) := by
  refine Ev.entry (by decide +kernel) rfl rfl ?_
  show Ev l d mi_X3_outlookBehind 0 [some (.ref o), some (.int p0), some (.int p1), some (.int p2), none, none, none] [] (hp s) 0 0 _
  unfold f_X3_outlookBehind at hf
  obtain ⟨c1, hf⟩ := gd_some hf
  obtain ⟨a2, ha2, hf⟩ := bd_some hf
  obtain ⟨c3, hf⟩ := gd_some hf
  obtain ⟨c4, hf⟩ := gd_some hf
  refine Ev.blk (pc' := 11) [(.aload_n 0, 0, 0, 0), (.getfield 22, 0, 3, 4), (.iload_n 1, 0, 0, 0), (.iaload, 0, 0, 0), (.istore 4, 0, 0, 0), (.aload_n 0, 0, 0, 0), (.iload_n 1, 0, 0, 0), (.iload_n 2, 0, 0, 0)] (by decide +kernel) ⟨kf_3_22, trivial⟩ rfl (And.intro (kk_ok c1) (Exists.intro a2 (And.intro ha2 (And.intro (kk_ok c3) (And.intro (ib_ok c4) (And.intro (Nat.le_of_ble_eq_true rfl) (?_)))))))
  show Ev l d mi_X3_outlookBehind 11 [some (.ref o), some (.int p0), some (.int p1), some (.int p2), some (.int (s.1 a2 p0.toNatClampNeg)), none, none] [.int p1, .int p0, .ref o] (hp s) 0 0 _
  obtain ⟨q5, hq5, hf⟩ := bd_some hf
  refine Ev.callV (o := o) (M' := mi_X3_carry) (d' := d - 1) (As := [.int p0, .int p1]) (rest := []) (r' := (some (.int q5.1), hp q5.2)) (e_X3_carry (d := d - 1) (by omega) o p0 p1 s _ hq5) (by omega) wm_X3_carry wi_X3_carry wv_X3_carry km_3_186 (kk_ok c1) (Nat.le_of_ble_eq_true rfl) rfl rfl rfl (Nat.le_of_ble_eq_true rfl) ⟨Nat.le_of_ble_eq_true rfl, Nat.le_of_ble_eq_true rfl⟩ (by decide +kernel) ?_
  show Ev l d mi_X3_outlookBehind 14 [some (.ref o), some (.int p0), some (.int p1), some (.int p2), some (.int (s.1 a2 p0.toNatClampNeg)), none, none] [.int q5.1] (hp q5.2) 0 0 _
  obtain ⟨a6, ha6, hf⟩ := bd_some hf
  obtain ⟨c7, hf⟩ := gd_some hf
  obtain ⟨a8, ha8, hf⟩ := bd_some hf
  obtain ⟨c9, hf⟩ := gd_some hf
  obtain ⟨c10, hf⟩ := gd_some hf
  refine Ev.blk (pc' := 31) [(.istore 5, 0, 0, 0), (.aload_n 0, 0, 0, 0), (.iconst 1, 0, 0, 0), (.aload_n 0, 0, 0, 0), (.getfield 56, 0, 3, 0), (.getfield 106, 0, 4, 10), (.iload_n 1, 0, 0, 0), (.iaload, 0, 0, 0), (.isub, 0, 0, 0), (.iload_n 3, 0, 0, 0), (.iconst 1, 0, 0, 0), (.isub, 0, 0, 0)] (by decide +kernel) ⟨kf_3_56, ⟨kf_3_106, trivial⟩⟩ rfl (And.intro (Nat.le_of_ble_eq_true rfl) (And.intro (kk_ok c1) (Exists.intro a6 (And.intro ha6 (And.intro (kk_ok c7) (Exists.intro a8 (And.intro ha8 (And.intro (kk_ok c9) (And.intro (ib_ok c10) (?_))))))))))
  show Ev l d mi_X3_outlookBehind 31 [some (.ref o), some (.int p0), some (.int p1), some (.int p2), some (.int (s.1 a2 p0.toNatClampNeg)), some (.int q5.1), none] [.int (p2 - (Int32.ofInt 1)), .int ((Int32.ofInt 1) - (q5.2.1 a8 p0.toNatClampNeg)), .ref o] (hp q5.2) 0 0 _
  obtain ⟨q11, hq11, hf⟩ := bd_some hf
  refine Ev.callV (o := o) (M' := mi_X3_outlook) (d' := d - 1) (As := [.int ((Int32.ofInt 1) - (q5.2.1 a8 p0.toNatClampNeg)), .int (p2 - (Int32.ofInt 1))]) (rest := []) (r' := (some (.int q11.1), hp q11.2)) (h_X3_outlook o ((Int32.ofInt 1) - (q5.2.1 a8 p0.toNatClampNeg)) (p2 - (Int32.ofInt 1)) q5.2 _ hq11) (by omega) wm_X3_outlook wi_X3_outlook wv_X3_outlook km_3_189 (kk_ok c1) (Nat.le_of_ble_eq_true rfl) rfl rfl rfl (Nat.le_of_ble_eq_true rfl) ⟨Nat.le_of_ble_eq_true rfl, Nat.le_of_ble_eq_true rfl⟩ (by decide +kernel) ?_
  show Ev l d mi_X3_outlookBehind 34 [some (.ref o), some (.int p0), some (.int p1), some (.int p2), some (.int (s.1 a2 p0.toNatClampNeg)), some (.int q5.1), none] [.int q11.1] (hp q11.2) 0 0 _
  refine Ev.blk (pc' := 43) [(.ineg, 0, 0, 0), (.istore 6, 0, 0, 0), (.aload_n 0, 0, 0, 0), (.iload_n 1, 0, 0, 0), (.iload 4, 0, 0, 0), (.iload 5, 0, 0, 0)] (by decide +kernel) trivial rfl (And.intro (Nat.le_of_ble_eq_true rfl) (?_))
  show Ev l d mi_X3_outlookBehind 43 [some (.ref o), some (.int p0), some (.int p1), some (.int p2), some (.int (s.1 a2 p0.toNatClampNeg)), some (.int q5.1), some (.int (-q11.1))] [.int q5.1, .int (s.1 a2 p0.toNatClampNeg), .int p0, .ref o] (hp q11.2) 0 0 _
  obtain ⟨q12, hq12, hf⟩ := bd_some hf
  refine Ev.callV (o := o) (M' := mi_X3_carryBack) (d' := d - 1) (As := [.int p0, .int (s.1 a2 p0.toNatClampNeg), .int q5.1]) (rest := []) (r' := (none, hp q12)) (e_X3_carryBack (d := d - 1) (by omega) o p0 (s.1 a2 p0.toNatClampNeg) q5.1 q11.2 _ hq12) (by omega) wm_X3_carryBack wi_X3_carryBack wv_X3_carryBack km_3_192 (kk_ok c1) (Nat.le_of_ble_eq_true rfl) rfl rfl rfl (Nat.le_of_ble_eq_true rfl) ⟨Nat.le_of_ble_eq_true rfl, Nat.le_of_ble_eq_true rfl⟩ (by decide +kernel) ?_
  show Ev l d mi_X3_outlookBehind 46 [some (.ref o), some (.int p0), some (.int p1), some (.int p2), some (.int (s.1 a2 p0.toNatClampNeg)), some (.int q5.1), some (.int (-q11.1))] [] (hp q12) 0 0 _
  refine Ev.blk (pc' := 48) [(.iload 6, 0, 0, 0)] (by decide +kernel) trivial rfl (?_)
  show Ev l d mi_X3_outlookBehind 48 [some (.ref o), some (.int p0), some (.int p1), some (.int p2), some (.int (s.1 a2 p0.toNatClampNeg)), some (.int q5.1), some (.int (-q11.1))] [.int (-q11.1)] (hp q12) 0 0 _
  cases hf
  exact Ev.iret .int rfl rfl (by decide +kernel) (Nat.le_refl _) (Nat.le_refl _)
def t2_outlook : Nat → Nat → Int32 → Int32 → ST → Option (Int32 × ST)
  | 0, _, _, _, _ => none
  | n + 1, o, a, b, s => f_X3_outlook (f_X3_outlookBehind (t2_outlook n)) o a b s
theorem te2_outlook {l : Launch} : ∀ (n d : Nat), 5 + 2 * n ≤ d → ∀ (o : Nat) (a b : Int32) (s : ST) (r : Int32 × ST), t2_outlook n o a b s = some r → Cl l d mi_X3_outlook [.ref o, .int a, .int b] (hp s) (some (.int r.1), hp r.2) := by
  intro n
  induction n with
  | zero =>
    intro d hd o a b s r hf
    cases hf
  | succ n ih =>
    intro d hd o a b s r hf
    exact e_X3_outlook (by omega) (f_X3_outlookBehind (t2_outlook n)) (fun o p0 p1 p2 s r h => e_X3_outlookBehind (d := d - 1) (by omega) (t2_outlook n) (fun o p0 p1 s r h => ih (d - 1 - 1) (by omega) o p0 p1 s r h) o p0 p1 p2 s r h) o a b s r hf
def t_X3_outlook (o : Nat) (a b : Int32) (s : ST) : Option (Int32 × ST) := t2_outlook 6 o a b s
theorem te_X3_outlook {l : Launch} {d : Nat} (hd : 24 ≤ d) (o : Nat) (a b : Int32) (s : ST) (r : Int32 × ST) (hf : t_X3_outlook o a b s = some r) : Cl l d mi_X3_outlook [.ref o, .int a, .int b] (hp s) (some (.int r.1), hp r.2) := te2_outlook 6 d (by omega) o a b s r hf
def t_X3_outlookBehind (o : Nat) (a b c : Int32) (s : ST) : Option (Int32 × ST) := f_X3_outlookBehind (t2_outlook 6) o a b c s
theorem te_X3_outlookBehind {l : Launch} {d : Nat} (hd : 23 ≤ d) (o : Nat) (a b c : Int32) (s : ST) (r : Int32 × ST) (hf : t_X3_outlookBehind o a b c s = some r) : Cl l d mi_X3_outlookBehind [.ref o, .int a, .int b, .int c] (hp s) (some (.int r.1), hp r.2) := e_X3_outlookBehind (by omega) (t2_outlook 6) (fun o p0 p1 s r h => te2_outlook 6 (d - 1) (by omega) o p0 p1 s r h) o a b c s r hf
def f_X3_depth (o : Nat) (s : ST) : Option (Int32 × ST) := gd (kk o 3) ((RR s.2.2 o 3).bind (fun a2 => gd (kk a2 13) (gd (ib (s.1 o 2) (K0 a2).2) (some ((s.1 a2 (s.1 o 2).toNatClampNeg), s)))))
set_option maxHeartbeats 2000000 in
set_option maxRecDepth 20000 in
theorem e_X3_depth {l : Launch} {d : Nat} (hd : 1 ≤ d) (o : Nat) (s : ST) (r : Int32 × ST) (hf : f_X3_depth o s = some r) : Cl l d mi_X3_depth [.ref o] (hp s) (some (.int r.1), hp r.2) := by
  refine Ev.entry (by decide +kernel) rfl rfl ?_
  show Ev l d mi_X3_depth 0 [some (.ref o)] [] (hp s) 0 0 _
  unfold f_X3_depth at hf
  obtain ⟨c1, hf⟩ := gd_some hf
  obtain ⟨a2, ha2, hf⟩ := bd_some hf
  obtain ⟨c3, hf⟩ := gd_some hf
  obtain ⟨c4, hf⟩ := gd_some hf
  refine Ev.blk (pc' := 9) [(.aload_n 0, 0, 0, 0), (.getfield 18, 0, 3, 3), (.aload_n 0, 0, 0, 0), (.getfield 15, 0, 3, 2), (.iaload, 0, 0, 0)] (by decide +kernel) ⟨kf_3_18, ⟨kf_3_15, trivial⟩⟩ rfl (And.intro (kk_ok c1) (Exists.intro a2 (And.intro ha2 (And.intro (kk_ok c1) (And.intro (kk_ok c3) (And.intro (ib_ok c4) (?_)))))))
  show Ev l d mi_X3_depth 9 [some (.ref o)] [.int (s.1 a2 (s.1 o 2).toNatClampNeg)] (hp s) 0 0 _
  cases hf
  exact Ev.iret .int rfl rfl (by decide +kernel) (Nat.le_refl _) (Nat.le_refl _)
def f_X3_bestMove_j100 (k54 : Nat → Int32 → Int32 → Int32 → Int32 → Int32 → Int32 → ST → Option (Int32 × ST)) (x0 : Nat) (x1 : Int32) (x4 : Int32) (x5 : Int32) (x6 : Int32) (x7 : Int32) (s : ST) : Option (Int32 × ST) := (f_X9_moveOf x4 x6 s).bind (fun q16 => k54 x0 x1 q16.1 x7 x4 x5 (x6 + Int32.ofInt 1) q16.2)
set_option maxHeartbeats 2000000 in
set_option maxRecDepth 20000 in
theorem e_X3_bestMove_j100 {l : Launch} {d : Nat} (hd : 24 ≤ d) (k54 : Nat → Int32 → Int32 → Int32 → Int32 → Int32 → Int32 → ST → Option (Int32 × ST)) (hk54 : ∀ (x0 : Nat) (x1 : Int32) (x2 : Int32) (x3 : Int32) (x4 : Int32) (x5 : Int32) (x6 : Int32) (s : ST) (r : Int32 × ST), k54 x0 x1 x2 x3 x4 x5 x6 s = some r → Ev l d mi_X3_bestMove 54 [some (.ref x0), some (.int x1), some (.int x2), some (.int x3), some (.int x4), some (.int x5), some (.int x6), none] [] (hp s) 0 0 (some (.int r.1), hp r.2)) (x0 : Nat) (x1 : Int32) (x4 : Int32) (x5 : Int32) (x6 : Int32) (x7 : Int32) (s : ST) (r : Int32 × ST) (hf : f_X3_bestMove_j100 k54 x0 x1 x4 x5 x6 x7 s = some r) : Ev l d mi_X3_bestMove 100 [some (.ref x0), some (.int x1), none, none, some (.int x4), some (.int x5), some (.int x6), some (.int x7)] [] (hp s) 0 0 (some (.int r.1), hp r.2) := by
  unfold f_X3_bestMove_j100 at hf
  refine Ev.blk (pc' := 104) [(.iload 4, 0, 0, 0), (.iload 6, 0, 0, 0)] (by decide +kernel) trivial rfl (?_)
  show Ev l d mi_X3_bestMove 104 [some (.ref x0), some (.int x1), none, none, some (.int x4), some (.int x5), some (.int x6), some (.int x7)] [.int x6, .int x4] (hp s) 0 0 _
  obtain ⟨q16, hq16, hf⟩ := bd_some hf
  refine Ev.callSN (M' := mi_X9_moveOf) (d' := d - 1) (As := [.int x4, .int x6]) (rest := []) (r' := (some (.int q16.1), hp q16.2)) (e_X9_moveOf (d := d - 1) (by omega) x4 x6 s _ hq16) (by omega) wm_X9_moveOf wt_X9_moveOf kn_3_159 rfl rfl rfl (Nat.le_of_ble_eq_true rfl) ⟨Nat.le_of_ble_eq_true rfl, Nat.le_of_ble_eq_true rfl⟩ (by decide +kernel) ?_
  show Ev l d mi_X3_bestMove 107 [some (.ref x0), some (.int x1), none, none, some (.int x4), some (.int x5), some (.int x6), some (.int x7)] [.int q16.1] (hp q16.2) 0 0 _
  refine Ev.blk (pc' := 114) [(.istore_n 2, 0, 0, 0), (.iload 7, 0, 0, 0), (.istore_n 3, 0, 0, 0), (.iinc 6 1, 0, 0, 0)] (by decide +kernel) trivial rfl (And.intro (Nat.le_of_ble_eq_true rfl) (And.intro (Nat.le_of_ble_eq_true rfl) (And.intro (Nat.le_of_ble_eq_true rfl) (?_))))
  show Ev l d mi_X3_bestMove 114 [some (.ref x0), some (.int x1), some (.int q16.1), some (.int x7), some (.int x4), some (.int x5), some (.int (x6 + Int32.ofInt 1)), some (.int x7)] [] (hp q16.2) 0 0 _
  refine Ev.goto (off := -60) (tgt := 54) (by decide +kernel) (by decide) ?_
  exact Ev.wk (hk54 x0 x1 q16.1 x7 x4 x5 (x6 + Int32.ofInt 1) q16.2 _ hf) (And.intro (Or.inr rfl) (And.intro (Or.inr rfl) (And.intro (Or.inr rfl) (And.intro (Or.inr rfl) (And.intro (Or.inr rfl) (And.intro (Or.inr rfl) (And.intro (Or.inr rfl) (And.intro (Or.inl rfl) (trivial)))))))))
def f_X3_bestMove_L54 (k7 : Nat → Int32 → Int32 → Int32 → Int32 → ST → Option (Int32 × ST)) : Nat → Nat → Int32 → Int32 → Int32 → Int32 → Int32 → Int32 → ST → Option (Int32 × ST)
  | 0, _, _, _, _, _, _, _, _ => none
  | n + 1, x0, x1, x2, x3, x4, x5, x6, s => (if x5 = 0 then k7 x0 x1 x2 x3 (x4 + Int32.ofInt 1) s else (if ((Int8.ofInt 25).toInt32) ≤ x6 then k7 x0 x1 x2 x3 (x4 + Int32.ofInt 1) s else (if ((x5 >>> (x6 &&& 31)) &&& (Int32.ofInt 1)) = 0 then (f_X3_bestMove_L54 k7 n) x0 x1 x2 x3 x4 x5 (x6 + Int32.ofInt 1) s else (t_X3_outlookBehind x0 x4 x6 x1 s).bind (fun q12 => gd (kk x0 3) ((if x2 < 0 then (f_X3_bestMove_j100 (f_X3_bestMove_L54 k7 n)) x0 x1 x4 x5 x6 q12.1 q12.2 else (if q12.1 ≤ x3 then (f_X3_bestMove_L54 k7 n) x0 x1 x2 x3 x4 x5 (x6 + Int32.ofInt 1) q12.2 else (f_X3_bestMove_j100 (f_X3_bestMove_L54 k7 n)) x0 x1 x4 x5 x6 q12.1 q12.2)))))))
set_option maxHeartbeats 2000000 in
set_option maxRecDepth 20000 in
theorem e_X3_bestMove_L54 {l : Launch} {d : Nat} (hd : 24 ≤ d) (k7 : Nat → Int32 → Int32 → Int32 → Int32 → ST → Option (Int32 × ST)) (hk7 : ∀ (x0 : Nat) (x1 : Int32) (x2 : Int32) (x3 : Int32) (x4 : Int32) (s : ST) (r : Int32 × ST), k7 x0 x1 x2 x3 x4 s = some r → Ev l d mi_X3_bestMove 7 [some (.ref x0), some (.int x1), some (.int x2), some (.int x3), some (.int x4), none, none, none] [] (hp s) 0 0 (some (.int r.1), hp r.2)) : ∀ (n : Nat) (x0 : Nat) (x1 : Int32) (x2 : Int32) (x3 : Int32) (x4 : Int32) (x5 : Int32) (x6 : Int32) (s : ST) (r : Int32 × ST), f_X3_bestMove_L54 k7 n x0 x1 x2 x3 x4 x5 x6 s = some r → Ev l d mi_X3_bestMove 54 [some (.ref x0), some (.int x1), some (.int x2), some (.int x3), some (.int x4), some (.int x5), some (.int x6), none] [] (hp s) 0 0 (some (.int r.1), hp r.2) := by
  intro n
  induction n with
  | zero =>
    intro x0 x1 x2 x3 x4 x5 x6 s r hf
    cases hf
  | succ n ih =>
    intro x0 x1 x2 x3 x4 x5 x6 s r hf
    unfold f_X3_bestMove_L54 at hf
    refine Ev.blk (pc' := 56) [(.iload 5, 0, 0, 0)] (by decide +kernel) trivial rfl (?_)
    show Ev l d mi_X3_bestMove 56 [some (.ref x0), some (.int x1), some (.int x2), some (.int x3), some (.int x4), some (.int x5), some (.int x6), none] [.int x5] (hp s) 0 0 _
    refine Ev.if_eq (off := 61) (tgt := 117) (by decide +kernel) (by decide) (fun b9 => ?_) (fun b9 => ?_)
    · have hf := (if_pos b9).symm.trans hf
      refine Ev.blk (pc' := 120) [(.iinc 4 1, 0, 0, 0)] (by decide +kernel) trivial rfl (And.intro (Nat.le_of_ble_eq_true rfl) (?_))
      show Ev l d mi_X3_bestMove 120 [some (.ref x0), some (.int x1), some (.int x2), some (.int x3), some (.int (x4 + Int32.ofInt 1)), some (.int x5), some (.int x6), none] [] (hp s) 0 0 _
      refine Ev.goto (off := -113) (tgt := 7) (by decide +kernel) (by decide) ?_
      exact Ev.wk (hk7 x0 x1 x2 x3 (x4 + Int32.ofInt 1) s _ hf) (And.intro (Or.inr rfl) (And.intro (Or.inr rfl) (And.intro (Or.inr rfl) (And.intro (Or.inr rfl) (And.intro (Or.inr rfl) (And.intro (Or.inl rfl) (And.intro (Or.inl rfl) (And.intro (Or.inr rfl) (trivial)))))))))
    · have hf := (if_neg b9).symm.trans hf
      refine Ev.blk (pc' := 63) [(.iload 6, 0, 0, 0), (.bipush 25, 0, 0, 0)] (by decide +kernel) trivial rfl (?_)
      show Ev l d mi_X3_bestMove 63 [some (.ref x0), some (.int x1), some (.int x2), some (.int x3), some (.int x4), some (.int x5), some (.int x6), none] [.int ((Int8.ofInt 25).toInt32), .int x6] (hp s) 0 0 _
      refine Ev.icmp_ge (off := 54) (tgt := 117) (by decide +kernel) (by decide) (fun b10 => ?_) (fun b10 => ?_)
      · have hf := (if_pos b10).symm.trans hf
        refine Ev.blk (pc' := 120) [(.iinc 4 1, 0, 0, 0)] (by decide +kernel) trivial rfl (And.intro (Nat.le_of_ble_eq_true rfl) (?_))
        show Ev l d mi_X3_bestMove 120 [some (.ref x0), some (.int x1), some (.int x2), some (.int x3), some (.int (x4 + Int32.ofInt 1)), some (.int x5), some (.int x6), none] [] (hp s) 0 0 _
        refine Ev.goto (off := -113) (tgt := 7) (by decide +kernel) (by decide) ?_
        exact Ev.wk (hk7 x0 x1 x2 x3 (x4 + Int32.ofInt 1) s _ hf) (And.intro (Or.inr rfl) (And.intro (Or.inr rfl) (And.intro (Or.inr rfl) (And.intro (Or.inr rfl) (And.intro (Or.inr rfl) (And.intro (Or.inl rfl) (And.intro (Or.inl rfl) (And.intro (Or.inr rfl) (trivial)))))))))
      · have hf := (if_neg b10).symm.trans hf
        refine Ev.blk (pc' := 73) [(.iload 5, 0, 0, 0), (.iload 6, 0, 0, 0), (.ishr, 0, 0, 0), (.iconst 1, 0, 0, 0), (.iand, 0, 0, 0)] (by decide +kernel) trivial rfl (?_)
        show Ev l d mi_X3_bestMove 73 [some (.ref x0), some (.int x1), some (.int x2), some (.int x3), some (.int x4), some (.int x5), some (.int x6), none] [.int ((x5 >>> (x6 &&& 31)) &&& (Int32.ofInt 1))] (hp s) 0 0 _
        refine Ev.if_ne (off := 6) (tgt := 79) (by decide +kernel) (by decide) (fun b11 => ?_) (fun b11 => ?_)
        · have hf := (if_neg b11).symm.trans hf
          refine Ev.blk (pc' := 85) [(.aload_n 0, 0, 0, 0), (.iload 4, 0, 0, 0), (.iload 6, 0, 0, 0), (.iload_n 1, 0, 0, 0)] (by decide +kernel) trivial rfl (?_)
          show Ev l d mi_X3_bestMove 85 [some (.ref x0), some (.int x1), some (.int x2), some (.int x3), some (.int x4), some (.int x5), some (.int x6), none] [.int x1, .int x6, .int x4, .ref x0] (hp s) 0 0 _
          obtain ⟨q12, hq12, hf⟩ := bd_some hf
          obtain ⟨c13, hf⟩ := gd_some hf
          refine Ev.callV (o := x0) (M' := mi_X3_outlookBehind) (d' := d - 1) (As := [.int x4, .int x6, .int x1]) (rest := []) (r' := (some (.int q12.1), hp q12.2)) (te_X3_outlookBehind (d := d - 1) (by omega) x0 x4 x6 x1 s _ hq12) (by omega) wm_X3_outlookBehind wi_X3_outlookBehind wv_X3_outlookBehind km_3_177 (kk_ok c13) (Nat.le_of_ble_eq_true rfl) rfl rfl rfl (Nat.le_of_ble_eq_true rfl) ⟨Nat.le_of_ble_eq_true rfl, Nat.le_of_ble_eq_true rfl⟩ (by decide +kernel) ?_
          show Ev l d mi_X3_bestMove 88 [some (.ref x0), some (.int x1), some (.int x2), some (.int x3), some (.int x4), some (.int x5), some (.int x6), none] [.int q12.1] (hp q12.2) 0 0 _
          refine Ev.blk (pc' := 91) [(.istore 7, 0, 0, 0), (.iload_n 2, 0, 0, 0)] (by decide +kernel) trivial rfl (And.intro (Nat.le_of_ble_eq_true rfl) (?_))
          show Ev l d mi_X3_bestMove 91 [some (.ref x0), some (.int x1), some (.int x2), some (.int x3), some (.int x4), some (.int x5), some (.int x6), some (.int q12.1)] [.int x2] (hp q12.2) 0 0 _
          refine Ev.if_lt (off := 9) (tgt := 100) (by decide +kernel) (by decide) (fun b14 => ?_) (fun b14 => ?_)
          · have hf := (if_pos b14).symm.trans hf
            exact Ev.wk ((e_X3_bestMove_j100 hd (f_X3_bestMove_L54 k7 n) ih) x0 x1 x4 x5 x6 q12.1 q12.2 _ hf) (And.intro (Or.inr rfl) (And.intro (Or.inr rfl) (And.intro (Or.inl rfl) (And.intro (Or.inl rfl) (And.intro (Or.inr rfl) (And.intro (Or.inr rfl) (And.intro (Or.inr rfl) (And.intro (Or.inr rfl) (trivial)))))))))
          · have hf := (if_neg b14).symm.trans hf
            refine Ev.blk (pc' := 97) [(.iload 7, 0, 0, 0), (.iload_n 3, 0, 0, 0)] (by decide +kernel) trivial rfl (?_)
            show Ev l d mi_X3_bestMove 97 [some (.ref x0), some (.int x1), some (.int x2), some (.int x3), some (.int x4), some (.int x5), some (.int x6), some (.int q12.1)] [.int x3, .int q12.1] (hp q12.2) 0 0 _
            refine Ev.icmp_le (off := 14) (tgt := 111) (by decide +kernel) (by decide) (fun b15 => ?_) (fun b15 => ?_)
            · have hf := (if_pos b15).symm.trans hf
              refine Ev.blk (pc' := 114) [(.iinc 6 1, 0, 0, 0)] (by decide +kernel) trivial rfl (And.intro (Nat.le_of_ble_eq_true rfl) (?_))
              show Ev l d mi_X3_bestMove 114 [some (.ref x0), some (.int x1), some (.int x2), some (.int x3), some (.int x4), some (.int x5), some (.int (x6 + Int32.ofInt 1)), some (.int q12.1)] [] (hp q12.2) 0 0 _
              refine Ev.goto (off := -60) (tgt := 54) (by decide +kernel) (by decide) ?_
              exact Ev.wk (ih x0 x1 x2 x3 x4 x5 (x6 + Int32.ofInt 1) q12.2 _ hf) (And.intro (Or.inr rfl) (And.intro (Or.inr rfl) (And.intro (Or.inr rfl) (And.intro (Or.inr rfl) (And.intro (Or.inr rfl) (And.intro (Or.inr rfl) (And.intro (Or.inr rfl) (And.intro (Or.inl rfl) (trivial)))))))))
            · have hf := (if_neg b15).symm.trans hf
              exact Ev.wk ((e_X3_bestMove_j100 hd (f_X3_bestMove_L54 k7 n) ih) x0 x1 x4 x5 x6 q12.1 q12.2 _ hf) (And.intro (Or.inr rfl) (And.intro (Or.inr rfl) (And.intro (Or.inl rfl) (And.intro (Or.inl rfl) (And.intro (Or.inr rfl) (And.intro (Or.inr rfl) (And.intro (Or.inr rfl) (And.intro (Or.inr rfl) (trivial)))))))))
        · have hf := (if_pos b11).symm.trans hf
          refine Ev.goto (off := 35) (tgt := 111) (by decide +kernel) (by decide) ?_
          refine Ev.blk (pc' := 114) [(.iinc 6 1, 0, 0, 0)] (by decide +kernel) trivial rfl (And.intro (Nat.le_of_ble_eq_true rfl) (?_))
          show Ev l d mi_X3_bestMove 114 [some (.ref x0), some (.int x1), some (.int x2), some (.int x3), some (.int x4), some (.int x5), some (.int (x6 + Int32.ofInt 1)), none] [] (hp s) 0 0 _
          refine Ev.goto (off := -60) (tgt := 54) (by decide +kernel) (by decide) ?_
          exact ih x0 x1 x2 x3 x4 x5 (x6 + Int32.ofInt 1) s _ hf
def f_X3_bestMove_j49 (k7 : Nat → Int32 → Int32 → Int32 → Int32 → ST → Option (Int32 × ST)) (x0 : Nat) (x1 : Int32) (x2 : Int32) (x3 : Int32) (x4 : Int32) (y0 : Int32) (s : ST) : Option (Int32 × ST) := (f_X3_bestMove_L54 k7 fuel) x0 x1 x2 x3 x4 y0 (Int32.ofInt 0) s
set_option maxHeartbeats 2000000 in
set_option maxRecDepth 20000 in
theorem e_X3_bestMove_j49 {l : Launch} {d : Nat} (hd : 24 ≤ d) (k7 : Nat → Int32 → Int32 → Int32 → Int32 → ST → Option (Int32 × ST)) (hk7 : ∀ (x0 : Nat) (x1 : Int32) (x2 : Int32) (x3 : Int32) (x4 : Int32) (s : ST) (r : Int32 × ST), k7 x0 x1 x2 x3 x4 s = some r → Ev l d mi_X3_bestMove 7 [some (.ref x0), some (.int x1), some (.int x2), some (.int x3), some (.int x4), none, none, none] [] (hp s) 0 0 (some (.int r.1), hp r.2)) (x0 : Nat) (x1 : Int32) (x2 : Int32) (x3 : Int32) (x4 : Int32) (y0 : Int32) (s : ST) (r : Int32 × ST) (hf : f_X3_bestMove_j49 k7 x0 x1 x2 x3 x4 y0 s = some r) : Ev l d mi_X3_bestMove 49 [some (.ref x0), some (.int x1), some (.int x2), some (.int x3), some (.int x4), none, none, none] [.int y0] (hp s) 0 0 (some (.int r.1), hp r.2) := by
  unfold f_X3_bestMove_j49 at hf
  refine Ev.blk (pc' := 54) [(.istore 5, 0, 0, 0), (.iconst 0, 0, 0, 0), (.istore 6, 0, 0, 0)] (by decide +kernel) trivial rfl (And.intro (Nat.le_of_ble_eq_true rfl) (And.intro (Nat.le_of_ble_eq_true rfl) (?_)))
  show Ev l d mi_X3_bestMove 54 [some (.ref x0), some (.int x1), some (.int x2), some (.int x3), some (.int x4), some (.int y0), some (.int (Int32.ofInt 0)), none] [] (hp s) 0 0 _
  exact (e_X3_bestMove_L54 hd k7 hk7 fuel) x0 x1 x2 x3 x4 y0 (Int32.ofInt 0) s _ hf
def f_X3_bestMove_L7 : Nat → Nat → Int32 → Int32 → Int32 → Int32 → ST → Option (Int32 × ST)
  | 0, _, _, _, _, _, _ => none
  | n + 1, x0, x1, x2, x3, x4, s => gd (kk x0 3) ((if (s.1 x0 9) = 0 then (RR s.2.2 x0 0).bind (fun a3 => gd (kk a3 4) ((if (s.1 a3 8) ≤ x4 then some (x2, s) else (f_X3_isOut x0 x4 (s.1 x0 2) s).bind (fun q6 => (if q6.1 = 0 then (f_X3_bestMove_j49 (f_X3_bestMove_L7 n)) x0 x1 x2 x3 x4 (Int32.ofInt 0) q6.2 else (f_X3_goals x0 x4 q6.2).bind (fun q8 => (f_X3_bestMove_j49 (f_X3_bestMove_L7 n)) x0 x1 x2 x3 x4 q8.1 q8.2)))))) else some (x2, s)))
set_option maxHeartbeats 2000000 in
set_option maxRecDepth 20000 in
theorem e_X3_bestMove_L7 {l : Launch} {d : Nat} (hd : 24 ≤ d) : ∀ (n : Nat) (x0 : Nat) (x1 : Int32) (x2 : Int32) (x3 : Int32) (x4 : Int32) (s : ST) (r : Int32 × ST), f_X3_bestMove_L7 n x0 x1 x2 x3 x4 s = some r → Ev l d mi_X3_bestMove 7 [some (.ref x0), some (.int x1), some (.int x2), some (.int x3), some (.int x4), none, none, none] [] (hp s) 0 0 (some (.int r.1), hp r.2) := by
  intro n
  induction n with
  | zero =>
    intro x0 x1 x2 x3 x4 s r hf
    cases hf
  | succ n ih =>
    intro x0 x1 x2 x3 x4 s r hf
    unfold f_X3_bestMove_L7 at hf
    obtain ⟨c1, hf⟩ := gd_some hf
    refine Ev.blk (pc' := 11) [(.aload_n 0, 0, 0, 0), (.getfield 37, 0, 3, 9)] (by decide +kernel) ⟨kf_3_37, trivial⟩ rfl (And.intro (kk_ok c1) (?_))
    show Ev l d mi_X3_bestMove 11 [some (.ref x0), some (.int x1), some (.int x2), some (.int x3), some (.int x4), none, none, none] [.int (s.1 x0 9)] (hp s) 0 0 _
    refine Ev.if_ne (off := 112) (tgt := 123) (by decide +kernel) (by decide) (fun b2 => ?_) (fun b2 => ?_)
    · have hf := (if_neg b2).symm.trans hf
      refine Ev.blk (pc' := 124) [(.iload_n 2, 0, 0, 0)] (by decide +kernel) trivial rfl (?_)
      show Ev l d mi_X3_bestMove 124 [some (.ref x0), some (.int x1), some (.int x2), some (.int x3), some (.int x4), none, none, none] [.int x2] (hp s) 0 0 _
      cases hf
      exact Ev.iret .int rfl rfl (by decide +kernel) (Nat.le_refl _) (Nat.le_refl _)
    · have hf := (if_pos b2).symm.trans hf
      obtain ⟨a3, ha3, hf⟩ := bd_some hf
      obtain ⟨c4, hf⟩ := gd_some hf
      refine Ev.blk (pc' := 23) [(.iload 4, 0, 0, 0), (.aload_n 0, 0, 0, 0), (.getfield 56, 0, 3, 0), (.getfield 66, 0, 4, 8)] (by decide +kernel) ⟨kf_3_56, ⟨kf_3_66, trivial⟩⟩ rfl (And.intro (kk_ok c1) (Exists.intro a3 (And.intro ha3 (And.intro (kk_ok c4) (?_)))))
      show Ev l d mi_X3_bestMove 23 [some (.ref x0), some (.int x1), some (.int x2), some (.int x3), some (.int x4), none, none, none] [.int (s.1 a3 8), .int x4] (hp s) 0 0 _
      refine Ev.icmp_ge (off := 100) (tgt := 123) (by decide +kernel) (by decide) (fun b5 => ?_) (fun b5 => ?_)
      · have hf := (if_pos b5).symm.trans hf
        refine Ev.blk (pc' := 124) [(.iload_n 2, 0, 0, 0)] (by decide +kernel) trivial rfl (?_)
        show Ev l d mi_X3_bestMove 124 [some (.ref x0), some (.int x1), some (.int x2), some (.int x3), some (.int x4), none, none, none] [.int x2] (hp s) 0 0 _
        cases hf
        exact Ev.iret .int rfl rfl (by decide +kernel) (Nat.le_refl _) (Nat.le_refl _)
      · have hf := (if_neg b5).symm.trans hf
        refine Ev.blk (pc' := 33) [(.aload_n 0, 0, 0, 0), (.iload 4, 0, 0, 0), (.aload_n 0, 0, 0, 0), (.getfield 15, 0, 3, 2)] (by decide +kernel) ⟨kf_3_15, trivial⟩ rfl (And.intro (kk_ok c1) (?_))
        show Ev l d mi_X3_bestMove 33 [some (.ref x0), some (.int x1), some (.int x2), some (.int x3), some (.int x4), none, none, none] [.int (s.1 x0 2), .int x4, .ref x0] (hp s) 0 0 _
        obtain ⟨q6, hq6, hf⟩ := bd_some hf
        refine Ev.callV (o := x0) (M' := mi_X3_isOut) (d' := d - 1) (As := [.int x4, .int (s.1 x0 2)]) (rest := []) (r' := (some (.int q6.1), hp q6.2)) (e_X3_isOut (d := d - 1) (by omega) x0 x4 (s.1 x0 2) s _ hq6) (by omega) wm_X3_isOut wi_X3_isOut wv_X3_isOut km_3_102 (kk_ok c1) (Nat.le_of_ble_eq_true rfl) rfl rfl rfl (Nat.le_of_ble_eq_true rfl) ⟨Nat.le_of_ble_eq_true rfl, Nat.le_of_ble_eq_true rfl⟩ (by decide +kernel) ?_
        show Ev l d mi_X3_bestMove 36 [some (.ref x0), some (.int x1), some (.int x2), some (.int x3), some (.int x4), none, none, none] [.int q6.1] (hp q6.2) 0 0 _
        refine Ev.if_eq (off := 12) (tgt := 48) (by decide +kernel) (by decide) (fun b7 => ?_) (fun b7 => ?_)
        · have hf := (if_pos b7).symm.trans hf
          refine Ev.blk (pc' := 49) [(.iconst 0, 0, 0, 0)] (by decide +kernel) trivial rfl (?_)
          show Ev l d mi_X3_bestMove 49 [some (.ref x0), some (.int x1), some (.int x2), some (.int x3), some (.int x4), none, none, none] [.int (Int32.ofInt 0)] (hp q6.2) 0 0 _
          exact (e_X3_bestMove_j49 hd (f_X3_bestMove_L7 n) ih) x0 x1 x2 x3 x4 (Int32.ofInt 0) q6.2 _ hf
        · have hf := (if_neg b7).symm.trans hf
          refine Ev.blk (pc' := 42) [(.aload_n 0, 0, 0, 0), (.iload 4, 0, 0, 0)] (by decide +kernel) trivial rfl (?_)
          show Ev l d mi_X3_bestMove 42 [some (.ref x0), some (.int x1), some (.int x2), some (.int x3), some (.int x4), none, none, none] [.int x4, .ref x0] (hp q6.2) 0 0 _
          obtain ⟨q8, hq8, hf⟩ := bd_some hf
          refine Ev.callV (o := x0) (M' := mi_X3_goals) (d' := d - 1) (As := [.int x4]) (rest := []) (r' := (some (.int q8.1), hp q8.2)) (e_X3_goals (d := d - 1) (by omega) x0 x4 q6.2 _ hq8) (by omega) wm_X3_goals wi_X3_goals wv_X3_goals km_3_143 (kk_ok c1) (Nat.le_of_ble_eq_true rfl) rfl rfl rfl (Nat.le_of_ble_eq_true rfl) ⟨Nat.le_of_ble_eq_true rfl, Nat.le_of_ble_eq_true rfl⟩ (by decide +kernel) ?_
          show Ev l d mi_X3_bestMove 45 [some (.ref x0), some (.int x1), some (.int x2), some (.int x3), some (.int x4), none, none, none] [.int q8.1] (hp q8.2) 0 0 _
          refine Ev.goto (off := 4) (tgt := 49) (by decide +kernel) (by decide) ?_
          exact (e_X3_bestMove_j49 hd (f_X3_bestMove_L7 n) ih) x0 x1 x2 x3 x4 q8.1 q8.2 _ hf
def f_X3_bestMove (o : Nat) (p0 : Int32) (s : ST) : Option (Int32 × ST) := (f_X3_bestMove_L7 fuel) o p0 (Int32.ofInt (-1)) (Int32.ofInt 0) (Int32.ofInt 0) s
set_option maxHeartbeats 2000000 in
set_option maxRecDepth 20000 in
theorem e_X3_bestMove {l : Launch} {d : Nat} (hd : 24 ≤ d) (o : Nat) (p0 : Int32) (s : ST) (r : Int32 × ST) (hf : f_X3_bestMove o p0 s = some r) : Cl l d mi_X3_bestMove [.ref o, .int p0] (hp s) (some (.int r.1), hp r.2) := by
  refine Ev.entry (by decide +kernel) rfl rfl ?_
  show Ev l d mi_X3_bestMove 0 [some (.ref o), some (.int p0), none, none, none, none, none, none] [] (hp s) 0 0 _
  unfold f_X3_bestMove at hf
  refine Ev.blk (pc' := 7) [(.iconst (-1), 0, 0, 0), (.istore_n 2, 0, 0, 0), (.iconst 0, 0, 0, 0), (.istore_n 3, 0, 0, 0), (.iconst 0, 0, 0, 0), (.istore 4, 0, 0, 0)] (by decide +kernel) trivial rfl (And.intro (Nat.le_of_ble_eq_true rfl) (And.intro (Nat.le_of_ble_eq_true rfl) (And.intro (Nat.le_of_ble_eq_true rfl) (?_))))
  show Ev l d mi_X3_bestMove 7 [some (.ref o), some (.int p0), some (.int (Int32.ofInt (-1))), some (.int (Int32.ofInt 0)), some (.int (Int32.ofInt 0)), none, none, none] [] (hp s) 0 0 _
  exact (e_X3_bestMove_L7 hd fuel) o p0 (Int32.ofInt (-1)) (Int32.ofInt 0) (Int32.ofInt 0) s _ hf
def f_X3_threatens_L4 (k54 : Nat → Int32 → Int32 → ST → Option (Int32 × ST)) : Nat → Nat → Int32 → Int32 → Int32 → ST → Option (Int32 × ST)
  | 0, _, _, _, _, _ => none
  | n + 1, x0, x1, x2, x3, s => gd (kk x0 3) ((RR s.2.2 x0 0).bind (fun a2 => gd (kk a2 4) ((if (s.1 a2 8) ≤ x3 then k54 x0 x1 x2 s else (f_X3_isOut x0 x3 ((Int32.ofInt 1) - x1) s).bind (fun q5 => (if q5.1 = 0 then (f_X3_threatens_L4 k54 n) x0 x1 x2 (x3 + Int32.ofInt 1) q5.2 else (RR q5.2.2.2 x0 0).bind (fun a7 => (f_X4_isCrown a7 x3 q5.2).bind (fun q8 => gd (kk a7 4) ((if q8.1 = 0 then (f_X3_threatens_L4 k54 n) x0 x1 x2 (x3 + Int32.ofInt 1) q8.2 else (RR q8.2.2.2 x0 4).bind (fun a11 => gd (kk a11 13) (gd (ib x3 (K0 a11).2) (lt (x2 ||| ((Int32.ofInt 1) <<< ((q8.2.1 a11 x3.toNatClampNeg) &&& 31))) (fun v14 => (f_X3_threatens_L4 k54 n) x0 x1 v14 (x3 + Int32.ofInt 1) q8.2))))))))))))))
set_option maxHeartbeats 2000000 in
set_option maxRecDepth 20000 in
theorem e_X3_threatens_L4 {l : Launch} {d : Nat} (hd : 3 ≤ d) (k54 : Nat → Int32 → Int32 → ST → Option (Int32 × ST)) (hk54 : ∀ (x0 : Nat) (x1 : Int32) (x2 : Int32) (s : ST) (r : Int32 × ST), k54 x0 x1 x2 s = some r → Ev l d mi_X3_threatens 54 [some (.ref x0), some (.int x1), some (.int x2), none] [] (hp s) 0 0 (some (.int r.1), hp r.2)) : ∀ (n : Nat) (x0 : Nat) (x1 : Int32) (x2 : Int32) (x3 : Int32) (s : ST) (r : Int32 × ST), f_X3_threatens_L4 k54 n x0 x1 x2 x3 s = some r → Ev l d mi_X3_threatens 4 [some (.ref x0), some (.int x1), some (.int x2), some (.int x3)] [] (hp s) 0 0 (some (.int r.1), hp r.2) := by
  intro n
  induction n with
  | zero =>
    intro x0 x1 x2 x3 s r hf
    cases hf
  | succ n ih =>
    intro x0 x1 x2 x3 s r hf
    unfold f_X3_threatens_L4 at hf
    obtain ⟨c1, hf⟩ := gd_some hf
    obtain ⟨a2, ha2, hf⟩ := bd_some hf
    obtain ⟨c3, hf⟩ := gd_some hf
    refine Ev.blk (pc' := 12) [(.iload_n 3, 0, 0, 0), (.aload_n 0, 0, 0, 0), (.getfield 56, 0, 3, 0), (.getfield 66, 0, 4, 8)] (by decide +kernel) ⟨kf_3_56, ⟨kf_3_66, trivial⟩⟩ rfl (And.intro (kk_ok c1) (Exists.intro a2 (And.intro ha2 (And.intro (kk_ok c3) (?_)))))
    show Ev l d mi_X3_threatens 12 [some (.ref x0), some (.int x1), some (.int x2), some (.int x3)] [.int (s.1 a2 8), .int x3] (hp s) 0 0 _
    refine Ev.icmp_ge (off := 42) (tgt := 54) (by decide +kernel) (by decide) (fun b4 => ?_) (fun b4 => ?_)
    · have hf := (if_pos b4).symm.trans hf
      exact Ev.wk (hk54 x0 x1 x2 s _ hf) (And.intro (Or.inr rfl) (And.intro (Or.inr rfl) (And.intro (Or.inr rfl) (And.intro (Or.inl rfl) (trivial)))))
    · have hf := (if_neg b4).symm.trans hf
      refine Ev.blk (pc' := 20) [(.aload_n 0, 0, 0, 0), (.iload_n 3, 0, 0, 0), (.iconst 1, 0, 0, 0), (.iload_n 1, 0, 0, 0), (.isub, 0, 0, 0)] (by decide +kernel) trivial rfl (?_)
      show Ev l d mi_X3_threatens 20 [some (.ref x0), some (.int x1), some (.int x2), some (.int x3)] [.int ((Int32.ofInt 1) - x1), .int x3, .ref x0] (hp s) 0 0 _
      obtain ⟨q5, hq5, hf⟩ := bd_some hf
      refine Ev.callV (o := x0) (M' := mi_X3_isOut) (d' := d - 1) (As := [.int x3, .int ((Int32.ofInt 1) - x1)]) (rest := []) (r' := (some (.int q5.1), hp q5.2)) (e_X3_isOut (d := d - 1) (by omega) x0 x3 ((Int32.ofInt 1) - x1) s _ hq5) (by omega) wm_X3_isOut wi_X3_isOut wv_X3_isOut km_3_102 (kk_ok c1) (Nat.le_of_ble_eq_true rfl) rfl rfl rfl (Nat.le_of_ble_eq_true rfl) ⟨Nat.le_of_ble_eq_true rfl, Nat.le_of_ble_eq_true rfl⟩ (by decide +kernel) ?_
      show Ev l d mi_X3_threatens 23 [some (.ref x0), some (.int x1), some (.int x2), some (.int x3)] [.int q5.1] (hp q5.2) 0 0 _
      refine Ev.if_eq (off := 25) (tgt := 48) (by decide +kernel) (by decide) (fun b6 => ?_) (fun b6 => ?_)
      · have hf := (if_pos b6).symm.trans hf
        refine Ev.blk (pc' := 51) [(.iinc 3 1, 0, 0, 0)] (by decide +kernel) trivial rfl (And.intro (Nat.le_of_ble_eq_true rfl) (?_))
        show Ev l d mi_X3_threatens 51 [some (.ref x0), some (.int x1), some (.int x2), some (.int (x3 + Int32.ofInt 1))] [] (hp q5.2) 0 0 _
        refine Ev.goto (off := -47) (tgt := 4) (by decide +kernel) (by decide) ?_
        exact ih x0 x1 x2 (x3 + Int32.ofInt 1) q5.2 _ hf
      · have hf := (if_neg b6).symm.trans hf
        obtain ⟨a7, ha7, hf⟩ := bd_some hf
        refine Ev.blk (pc' := 31) [(.aload_n 0, 0, 0, 0), (.getfield 56, 0, 3, 0), (.iload_n 3, 0, 0, 0)] (by decide +kernel) ⟨kf_3_56, trivial⟩ rfl (And.intro (kk_ok c1) (Exists.intro a7 (And.intro ha7 (?_))))
        show Ev l d mi_X3_threatens 31 [some (.ref x0), some (.int x1), some (.int x2), some (.int x3)] [.int x3, .ref a7] (hp q5.2) 0 0 _
        obtain ⟨q8, hq8, hf⟩ := bd_some hf
        obtain ⟨c9, hf⟩ := gd_some hf
        refine Ev.callV (o := a7) (M' := mi_X4_isCrown) (d' := d - 1) (As := [.int x3]) (rest := []) (r' := (some (.int q8.1), hp q8.2)) (e_X4_isCrown (d := d - 1) (by omega) a7 x3 q5.2 _ hq8) (by omega) wm_X4_isCrown wi_X4_isCrown wv_X4_isCrown km_3_98 (kk_ok c9) (Nat.le_of_ble_eq_true rfl) rfl rfl rfl (Nat.le_of_ble_eq_true rfl) ⟨Nat.le_of_ble_eq_true rfl, Nat.le_of_ble_eq_true rfl⟩ (by decide +kernel) ?_
        show Ev l d mi_X3_threatens 34 [some (.ref x0), some (.int x1), some (.int x2), some (.int x3)] [.int q8.1] (hp q8.2) 0 0 _
        refine Ev.if_eq (off := 14) (tgt := 48) (by decide +kernel) (by decide) (fun b10 => ?_) (fun b10 => ?_)
        · have hf := (if_pos b10).symm.trans hf
          refine Ev.blk (pc' := 51) [(.iinc 3 1, 0, 0, 0)] (by decide +kernel) trivial rfl (And.intro (Nat.le_of_ble_eq_true rfl) (?_))
          show Ev l d mi_X3_threatens 51 [some (.ref x0), some (.int x1), some (.int x2), some (.int (x3 + Int32.ofInt 1))] [] (hp q8.2) 0 0 _
          refine Ev.goto (off := -47) (tgt := 4) (by decide +kernel) (by decide) ?_
          exact ih x0 x1 x2 (x3 + Int32.ofInt 1) q8.2 _ hf
        · have hf := (if_neg b10).symm.trans hf
          obtain ⟨a11, ha11, hf⟩ := bd_some hf
          obtain ⟨c12, hf⟩ := gd_some hf
          obtain ⟨c13, hf⟩ := gd_some hf
          obtain ⟨v14, hv14, hf⟩ := lt_some hf
          refine Ev.blk (pc' := 51) [(.iload_n 2, 0, 0, 0), (.iconst 1, 0, 0, 0), (.aload_n 0, 0, 0, 0), (.getfield 22, 0, 3, 4), (.iload_n 3, 0, 0, 0), (.iaload, 0, 0, 0), (.ishl, 0, 0, 0), (.ior, 0, 0, 0), (.istore_n 2, 0, 0, 0), (.iinc 3 1, 0, 0, 0)] (by decide +kernel) ⟨kf_3_22, trivial⟩ rfl (And.intro (kk_ok c1) (Exists.intro a11 (And.intro ha11 (And.intro (kk_ok c12) (And.intro (ib_ok c13) (And.intro (Nat.le_of_ble_eq_true rfl) (And.intro (Nat.le_of_ble_eq_true rfl) (?_))))))))
          show Ev l d mi_X3_threatens 51 [some (.ref x0), some (.int x1), some (.int (x2 ||| ((Int32.ofInt 1) <<< ((q8.2.1 a11 x3.toNatClampNeg) &&& 31)))), some (.int (x3 + Int32.ofInt 1))] [] (hp q8.2) 0 0 _
          rw [← hv14]
          refine Ev.goto (off := -47) (tgt := 4) (by decide +kernel) (by decide) ?_
          exact ih x0 x1 v14 (x3 + Int32.ofInt 1) q8.2 _ hf
def f_X3_threatens_L56 : Nat → Nat → Int32 → Int32 → Int32 → ST → Option (Int32 × ST)
  | 0, _, _, _, _, _ => none
  | n + 1, x0, x1, x2, x3, s => (if x2 = 0 then some ((Int32.ofInt 0), s) else gd (kk x0 3) ((RR s.2.2 x0 0).bind (fun a17 => gd (kk a17 4) ((if (s.1 a17 8) ≤ x3 then some ((Int32.ofInt 0), s) else (f_X3_isOut x0 x3 x1 s).bind (fun q20 => (if q20.1 = 0 then (f_X3_threatens_L56 n) x0 x1 x2 (x3 + Int32.ofInt 1) q20.2 else (f_X3_goals x0 x3 q20.2).bind (fun q22 => (if (q22.1 &&& x2) = 0 then (f_X3_threatens_L56 n) x0 x1 x2 (x3 + Int32.ofInt 1) q22.2 else some ((Int32.ofInt 1), q22.2))))))))))
set_option maxHeartbeats 2000000 in
set_option maxRecDepth 20000 in
theorem e_X3_threatens_L56 {l : Launch} {d : Nat} (hd : 3 ≤ d) : ∀ (n : Nat) (x0 : Nat) (x1 : Int32) (x2 : Int32) (x3 : Int32) (s : ST) (r : Int32 × ST), f_X3_threatens_L56 n x0 x1 x2 x3 s = some r → Ev l d mi_X3_threatens 56 [some (.ref x0), some (.int x1), some (.int x2), some (.int x3)] [] (hp s) 0 0 (some (.int r.1), hp r.2) := by
  intro n
  induction n with
  | zero =>
    intro x0 x1 x2 x3 s r hf
    cases hf
  | succ n ih =>
    intro x0 x1 x2 x3 s r hf
    unfold f_X3_threatens_L56 at hf
    refine Ev.blk (pc' := 57) [(.iload_n 2, 0, 0, 0)] (by decide +kernel) trivial rfl (?_)
    show Ev l d mi_X3_threatens 57 [some (.ref x0), some (.int x1), some (.int x2), some (.int x3)] [.int x2] (hp s) 0 0 _
    refine Ev.if_eq (off := 41) (tgt := 98) (by decide +kernel) (by decide) (fun b15 => ?_) (fun b15 => ?_)
    · have hf := (if_pos b15).symm.trans hf
      refine Ev.blk (pc' := 99) [(.iconst 0, 0, 0, 0)] (by decide +kernel) trivial rfl (?_)
      show Ev l d mi_X3_threatens 99 [some (.ref x0), some (.int x1), some (.int x2), some (.int x3)] [.int (Int32.ofInt 0)] (hp s) 0 0 _
      cases hf
      exact Ev.iret .boolean rfl rfl (by decide +kernel) (Nat.le_refl _) (Nat.le_refl _)
    · have hf := (if_neg b15).symm.trans hf
      obtain ⟨c16, hf⟩ := gd_some hf
      obtain ⟨a17, ha17, hf⟩ := bd_some hf
      obtain ⟨c18, hf⟩ := gd_some hf
      refine Ev.blk (pc' := 68) [(.iload_n 3, 0, 0, 0), (.aload_n 0, 0, 0, 0), (.getfield 56, 0, 3, 0), (.getfield 66, 0, 4, 8)] (by decide +kernel) ⟨kf_3_56, ⟨kf_3_66, trivial⟩⟩ rfl (And.intro (kk_ok c16) (Exists.intro a17 (And.intro ha17 (And.intro (kk_ok c18) (?_)))))
      show Ev l d mi_X3_threatens 68 [some (.ref x0), some (.int x1), some (.int x2), some (.int x3)] [.int (s.1 a17 8), .int x3] (hp s) 0 0 _
      refine Ev.icmp_ge (off := 30) (tgt := 98) (by decide +kernel) (by decide) (fun b19 => ?_) (fun b19 => ?_)
      · have hf := (if_pos b19).symm.trans hf
        refine Ev.blk (pc' := 99) [(.iconst 0, 0, 0, 0)] (by decide +kernel) trivial rfl (?_)
        show Ev l d mi_X3_threatens 99 [some (.ref x0), some (.int x1), some (.int x2), some (.int x3)] [.int (Int32.ofInt 0)] (hp s) 0 0 _
        cases hf
        exact Ev.iret .boolean rfl rfl (by decide +kernel) (Nat.le_refl _) (Nat.le_refl _)
      · have hf := (if_neg b19).symm.trans hf
        refine Ev.blk (pc' := 74) [(.aload_n 0, 0, 0, 0), (.iload_n 3, 0, 0, 0), (.iload_n 1, 0, 0, 0)] (by decide +kernel) trivial rfl (?_)
        show Ev l d mi_X3_threatens 74 [some (.ref x0), some (.int x1), some (.int x2), some (.int x3)] [.int x1, .int x3, .ref x0] (hp s) 0 0 _
        obtain ⟨q20, hq20, hf⟩ := bd_some hf
        refine Ev.callV (o := x0) (M' := mi_X3_isOut) (d' := d - 1) (As := [.int x3, .int x1]) (rest := []) (r' := (some (.int q20.1), hp q20.2)) (e_X3_isOut (d := d - 1) (by omega) x0 x3 x1 s _ hq20) (by omega) wm_X3_isOut wi_X3_isOut wv_X3_isOut km_3_102 (kk_ok c16) (Nat.le_of_ble_eq_true rfl) rfl rfl rfl (Nat.le_of_ble_eq_true rfl) ⟨Nat.le_of_ble_eq_true rfl, Nat.le_of_ble_eq_true rfl⟩ (by decide +kernel) ?_
        show Ev l d mi_X3_threatens 77 [some (.ref x0), some (.int x1), some (.int x2), some (.int x3)] [.int q20.1] (hp q20.2) 0 0 _
        refine Ev.if_eq (off := 15) (tgt := 92) (by decide +kernel) (by decide) (fun b21 => ?_) (fun b21 => ?_)
        · have hf := (if_pos b21).symm.trans hf
          refine Ev.blk (pc' := 95) [(.iinc 3 1, 0, 0, 0)] (by decide +kernel) trivial rfl (And.intro (Nat.le_of_ble_eq_true rfl) (?_))
          show Ev l d mi_X3_threatens 95 [some (.ref x0), some (.int x1), some (.int x2), some (.int (x3 + Int32.ofInt 1))] [] (hp q20.2) 0 0 _
          refine Ev.goto (off := -39) (tgt := 56) (by decide +kernel) (by decide) ?_
          exact ih x0 x1 x2 (x3 + Int32.ofInt 1) q20.2 _ hf
        · have hf := (if_neg b21).symm.trans hf
          refine Ev.blk (pc' := 82) [(.aload_n 0, 0, 0, 0), (.iload_n 3, 0, 0, 0)] (by decide +kernel) trivial rfl (?_)
          show Ev l d mi_X3_threatens 82 [some (.ref x0), some (.int x1), some (.int x2), some (.int x3)] [.int x3, .ref x0] (hp q20.2) 0 0 _
          obtain ⟨q22, hq22, hf⟩ := bd_some hf
          refine Ev.callV (o := x0) (M' := mi_X3_goals) (d' := d - 1) (As := [.int x3]) (rest := []) (r' := (some (.int q22.1), hp q22.2)) (e_X3_goals (d := d - 1) (by omega) x0 x3 q20.2 _ hq22) (by omega) wm_X3_goals wi_X3_goals wv_X3_goals km_3_143 (kk_ok c16) (Nat.le_of_ble_eq_true rfl) rfl rfl rfl (Nat.le_of_ble_eq_true rfl) ⟨Nat.le_of_ble_eq_true rfl, Nat.le_of_ble_eq_true rfl⟩ (by decide +kernel) ?_
          show Ev l d mi_X3_threatens 85 [some (.ref x0), some (.int x1), some (.int x2), some (.int x3)] [.int q22.1] (hp q22.2) 0 0 _
          refine Ev.blk (pc' := 87) [(.iload_n 2, 0, 0, 0), (.iand, 0, 0, 0)] (by decide +kernel) trivial rfl (?_)
          show Ev l d mi_X3_threatens 87 [some (.ref x0), some (.int x1), some (.int x2), some (.int x3)] [.int (q22.1 &&& x2)] (hp q22.2) 0 0 _
          refine Ev.if_eq (off := 5) (tgt := 92) (by decide +kernel) (by decide) (fun b23 => ?_) (fun b23 => ?_)
          · have hf := (if_pos b23).symm.trans hf
            refine Ev.blk (pc' := 95) [(.iinc 3 1, 0, 0, 0)] (by decide +kernel) trivial rfl (And.intro (Nat.le_of_ble_eq_true rfl) (?_))
            show Ev l d mi_X3_threatens 95 [some (.ref x0), some (.int x1), some (.int x2), some (.int (x3 + Int32.ofInt 1))] [] (hp q22.2) 0 0 _
            refine Ev.goto (off := -39) (tgt := 56) (by decide +kernel) (by decide) ?_
            exact ih x0 x1 x2 (x3 + Int32.ofInt 1) q22.2 _ hf
          · have hf := (if_neg b23).symm.trans hf
            refine Ev.blk (pc' := 91) [(.iconst 1, 0, 0, 0)] (by decide +kernel) trivial rfl (?_)
            show Ev l d mi_X3_threatens 91 [some (.ref x0), some (.int x1), some (.int x2), some (.int x3)] [.int (Int32.ofInt 1)] (hp q22.2) 0 0 _
            cases hf
            exact Ev.iret .boolean rfl rfl (by decide +kernel) (Nat.le_refl _) (Nat.le_refl _)
def f_X3_threatens_j54 (x0 : Nat) (x1 : Int32) (x2 : Int32) (s : ST) : Option (Int32 × ST) := (f_X3_threatens_L56 fuel) x0 x1 x2 (Int32.ofInt 0) s
set_option maxHeartbeats 2000000 in
set_option maxRecDepth 20000 in
theorem e_X3_threatens_j54 {l : Launch} {d : Nat} (hd : 3 ≤ d) (x0 : Nat) (x1 : Int32) (x2 : Int32) (s : ST) (r : Int32 × ST) (hf : f_X3_threatens_j54 x0 x1 x2 s = some r) : Ev l d mi_X3_threatens 54 [some (.ref x0), some (.int x1), some (.int x2), none] [] (hp s) 0 0 (some (.int r.1), hp r.2) := by
  unfold f_X3_threatens_j54 at hf
  refine Ev.blk (pc' := 56) [(.iconst 0, 0, 0, 0), (.istore_n 3, 0, 0, 0)] (by decide +kernel) trivial rfl (And.intro (Nat.le_of_ble_eq_true rfl) (?_))
  show Ev l d mi_X3_threatens 56 [some (.ref x0), some (.int x1), some (.int x2), some (.int (Int32.ofInt 0))] [] (hp s) 0 0 _
  exact (e_X3_threatens_L56 hd fuel) x0 x1 x2 (Int32.ofInt 0) s _ hf
def f_X3_threatens (o : Nat) (p0 : Int32) (s : ST) : Option (Int32 × ST) := (f_X3_threatens_L4 f_X3_threatens_j54 fuel) o p0 (Int32.ofInt 0) (Int32.ofInt 0) s
set_option maxHeartbeats 2000000 in
set_option maxRecDepth 20000 in
theorem e_X3_threatens {l : Launch} {d : Nat} (hd : 3 ≤ d) (o : Nat) (p0 : Int32) (s : ST) (r : Int32 × ST) (hf : f_X3_threatens o p0 s = some r) : Cl l d mi_X3_threatens [.ref o, .int p0] (hp s) (some (.int r.1), hp r.2) := by
  refine Ev.entry (by decide +kernel) rfl rfl ?_
  show Ev l d mi_X3_threatens 0 [some (.ref o), some (.int p0), none, none] [] (hp s) 0 0 _
  unfold f_X3_threatens at hf
  refine Ev.blk (pc' := 4) [(.iconst 0, 0, 0, 0), (.istore_n 2, 0, 0, 0), (.iconst 0, 0, 0, 0), (.istore_n 3, 0, 0, 0)] (by decide +kernel) trivial rfl (And.intro (Nat.le_of_ble_eq_true rfl) (And.intro (Nat.le_of_ble_eq_true rfl) (?_)))
  show Ev l d mi_X3_threatens 4 [some (.ref o), some (.int p0), some (.int (Int32.ofInt 0)), some (.int (Int32.ofInt 0))] [] (hp s) 0 0 _
  exact (e_X3_threatens_L4 hd f_X3_threatens_j54 (e_X3_threatens_j54 hd) fuel) o p0 (Int32.ofInt 0) (Int32.ofInt 0) s _ hf
def f_X3_isCornered_j99 (k38 : Nat → Int32 → Int32 → Int32 → Int32 → Int32 → ST → Option (Int32 × ST)) (x0 : Nat) (x1 : Int32) (x3 : Int32) (x4 : Int32) (x5 : Int32) (x6 : Int32) (x7 : Int32) (y0 : Int32) (s : ST) : Option (Int32 × ST) := (f_X3_carryBack x0 x3 x6 x7 s).bind (fun q20 => gd (kk x0 3) ((if y0 = 0 then some ((Int32.ofInt 0), q20) else k38 x0 x1 (Int32.ofInt 1) x3 x4 (x5 + Int32.ofInt 1) q20)))
set_option maxHeartbeats 2000000 in
set_option maxRecDepth 20000 in
theorem e_X3_isCornered_j99 {l : Launch} {d : Nat} (hd : 4 ≤ d) (k38 : Nat → Int32 → Int32 → Int32 → Int32 → Int32 → ST → Option (Int32 × ST)) (hk38 : ∀ (x0 : Nat) (x1 : Int32) (x2 : Int32) (x3 : Int32) (x4 : Int32) (x5 : Int32) (s : ST) (r : Int32 × ST), k38 x0 x1 x2 x3 x4 x5 s = some r → Ev l d mi_X3_isCornered 38 [some (.ref x0), some (.int x1), some (.int x2), some (.int x3), some (.int x4), some (.int x5), none, none, none] [] (hp s) 0 0 (some (.int r.1), hp r.2)) (x0 : Nat) (x1 : Int32) (x3 : Int32) (x4 : Int32) (x5 : Int32) (x6 : Int32) (x7 : Int32) (y0 : Int32) (s : ST) (r : Int32 × ST) (hf : f_X3_isCornered_j99 k38 x0 x1 x3 x4 x5 x6 x7 y0 s = some r) : Ev l d mi_X3_isCornered 99 [some (.ref x0), some (.int x1), none, some (.int x3), some (.int x4), some (.int x5), some (.int x6), some (.int x7), none] [.int y0] (hp s) 0 0 (some (.int r.1), hp r.2) := by
  unfold f_X3_isCornered_j99 at hf
  refine Ev.blk (pc' := 107) [(.istore 8, 0, 0, 0), (.aload_n 0, 0, 0, 0), (.iload_n 3, 0, 0, 0), (.iload 6, 0, 0, 0), (.iload 7, 0, 0, 0)] (by decide +kernel) trivial rfl (And.intro (Nat.le_of_ble_eq_true rfl) (?_))
  show Ev l d mi_X3_isCornered 107 [some (.ref x0), some (.int x1), none, some (.int x3), some (.int x4), some (.int x5), some (.int x6), some (.int x7), some (.int y0)] [.int x7, .int x6, .int x3, .ref x0] (hp s) 0 0 _
  obtain ⟨q20, hq20, hf⟩ := bd_some hf
  obtain ⟨c21, hf⟩ := gd_some hf
  refine Ev.callV (o := x0) (M' := mi_X3_carryBack) (d' := d - 1) (As := [.int x3, .int x6, .int x7]) (rest := []) (r' := (none, hp q20)) (e_X3_carryBack (d := d - 1) (by omega) x0 x3 x6 x7 s _ hq20) (by omega) wm_X3_carryBack wi_X3_carryBack wv_X3_carryBack km_3_192 (kk_ok c21) (Nat.le_of_ble_eq_true rfl) rfl rfl rfl (Nat.le_of_ble_eq_true rfl) ⟨Nat.le_of_ble_eq_true rfl, Nat.le_of_ble_eq_true rfl⟩ (by decide +kernel) ?_
  show Ev l d mi_X3_isCornered 110 [some (.ref x0), some (.int x1), none, some (.int x3), some (.int x4), some (.int x5), some (.int x6), some (.int x7), some (.int y0)] [] (hp q20) 0 0 _
  refine Ev.blk (pc' := 112) [(.iload 8, 0, 0, 0)] (by decide +kernel) trivial rfl (?_)
  show Ev l d mi_X3_isCornered 112 [some (.ref x0), some (.int x1), none, some (.int x3), some (.int x4), some (.int x5), some (.int x6), some (.int x7), some (.int y0)] [.int y0] (hp q20) 0 0 _
  refine Ev.if_ne (off := 5) (tgt := 117) (by decide +kernel) (by decide) (fun b22 => ?_) (fun b22 => ?_)
  · have hf := (if_neg b22).symm.trans hf
    refine Ev.blk (pc' := 122) [(.iconst 1, 0, 0, 0), (.istore_n 2, 0, 0, 0), (.iinc 5 1, 0, 0, 0)] (by decide +kernel) trivial rfl (And.intro (Nat.le_of_ble_eq_true rfl) (And.intro (Nat.le_of_ble_eq_true rfl) (?_)))
    show Ev l d mi_X3_isCornered 122 [some (.ref x0), some (.int x1), some (.int (Int32.ofInt 1)), some (.int x3), some (.int x4), some (.int (x5 + Int32.ofInt 1)), some (.int x6), some (.int x7), some (.int y0)] [] (hp q20) 0 0 _
    refine Ev.goto (off := -84) (tgt := 38) (by decide +kernel) (by decide) ?_
    exact Ev.wk (hk38 x0 x1 (Int32.ofInt 1) x3 x4 (x5 + Int32.ofInt 1) q20 _ hf) (And.intro (Or.inr rfl) (And.intro (Or.inr rfl) (And.intro (Or.inr rfl) (And.intro (Or.inr rfl) (And.intro (Or.inr rfl) (And.intro (Or.inr rfl) (And.intro (Or.inl rfl) (And.intro (Or.inl rfl) (And.intro (Or.inl rfl) (trivial))))))))))
  · have hf := (if_pos b22).symm.trans hf
    refine Ev.blk (pc' := 116) [(.iconst 0, 0, 0, 0)] (by decide +kernel) trivial rfl (?_)
    show Ev l d mi_X3_isCornered 116 [some (.ref x0), some (.int x1), none, some (.int x3), some (.int x4), some (.int x5), some (.int x6), some (.int x7), some (.int y0)] [.int (Int32.ofInt 0)] (hp q20) 0 0 _
    cases hf
    exact Ev.iret .boolean rfl rfl (by decide +kernel) (Nat.le_refl _) (Nat.le_refl _)
def f_X3_isCornered_j98 (k38 : Nat → Int32 → Int32 → Int32 → Int32 → Int32 → ST → Option (Int32 × ST)) (x0 : Nat) (x1 : Int32) (x3 : Int32) (x4 : Int32) (x5 : Int32) (x6 : Int32) (x7 : Int32) (s : ST) : Option (Int32 × ST) := (f_X3_isCornered_j99 k38) x0 x1 x3 x4 x5 x6 x7 (Int32.ofInt 0) s
set_option maxHeartbeats 2000000 in
set_option maxRecDepth 20000 in
theorem e_X3_isCornered_j98 {l : Launch} {d : Nat} (hd : 4 ≤ d) (k38 : Nat → Int32 → Int32 → Int32 → Int32 → Int32 → ST → Option (Int32 × ST)) (hk38 : ∀ (x0 : Nat) (x1 : Int32) (x2 : Int32) (x3 : Int32) (x4 : Int32) (x5 : Int32) (s : ST) (r : Int32 × ST), k38 x0 x1 x2 x3 x4 x5 s = some r → Ev l d mi_X3_isCornered 38 [some (.ref x0), some (.int x1), some (.int x2), some (.int x3), some (.int x4), some (.int x5), none, none, none] [] (hp s) 0 0 (some (.int r.1), hp r.2)) (x0 : Nat) (x1 : Int32) (x3 : Int32) (x4 : Int32) (x5 : Int32) (x6 : Int32) (x7 : Int32) (s : ST) (r : Int32 × ST) (hf : f_X3_isCornered_j98 k38 x0 x1 x3 x4 x5 x6 x7 s = some r) : Ev l d mi_X3_isCornered 98 [some (.ref x0), some (.int x1), none, some (.int x3), some (.int x4), some (.int x5), some (.int x6), some (.int x7), none] [] (hp s) 0 0 (some (.int r.1), hp r.2) := by
  unfold f_X3_isCornered_j98 at hf
  refine Ev.blk (pc' := 99) [(.iconst 0, 0, 0, 0)] (by decide +kernel) trivial rfl (?_)
  show Ev l d mi_X3_isCornered 99 [some (.ref x0), some (.int x1), none, some (.int x3), some (.int x4), some (.int x5), some (.int x6), some (.int x7), none] [.int (Int32.ofInt 0)] (hp s) 0 0 _
  exact (e_X3_isCornered_j99 hd k38 hk38) x0 x1 x3 x4 x5 x6 x7 (Int32.ofInt 0) s _ hf
def f_X3_isCornered_L38 (k4 : Nat → Int32 → Int32 → Int32 → ST → Option (Int32 × ST)) : Nat → Nat → Int32 → Int32 → Int32 → Int32 → Int32 → ST → Option (Int32 × ST)
  | 0, _, _, _, _, _, _, _ => none
  | n + 1, x0, x1, x2, x3, x4, x5, s => (if x4 = 0 then k4 x0 x1 x2 (x3 + Int32.ofInt 1) s else (if ((Int8.ofInt 25).toInt32) ≤ x5 then k4 x0 x1 x2 (x3 + Int32.ofInt 1) s else (if ((x4 >>> (x5 &&& 31)) &&& (Int32.ofInt 1)) = 0 then (f_X3_isCornered_L38 k4 n) x0 x1 x2 x3 x4 (x5 + Int32.ofInt 1) s else gd (kk x0 3) ((RR s.2.2 x0 4).bind (fun a13 => gd (kk a13 13) (gd (ib x3 (K0 a13).2) ((f_X3_carry x0 x3 x5 s).bind (fun q16 => (if (q16.2.1 x0 9) = 0 then (f_X3_threatens x0 ((Int32.ofInt 1) - x1) q16.2).bind (fun q18 => (if q18.1 = 0 then (f_X3_isCornered_j98 (f_X3_isCornered_L38 k4 n)) x0 x1 x3 x4 x5 (s.1 a13 x3.toNatClampNeg) q16.1 q18.2 else (f_X3_isCornered_j99 (f_X3_isCornered_L38 k4 n)) x0 x1 x3 x4 x5 (s.1 a13 x3.toNatClampNeg) q16.1 (Int32.ofInt 1) q18.2)) else (f_X3_isCornered_j98 (f_X3_isCornered_L38 k4 n)) x0 x1 x3 x4 x5 (s.1 a13 x3.toNatClampNeg) q16.1 q16.2)))))))))
set_option maxHeartbeats 2000000 in
set_option maxRecDepth 20000 in
theorem e_X3_isCornered_L38 {l : Launch} {d : Nat} (hd : 4 ≤ d) (k4 : Nat → Int32 → Int32 → Int32 → ST → Option (Int32 × ST)) (hk4 : ∀ (x0 : Nat) (x1 : Int32) (x2 : Int32) (x3 : Int32) (s : ST) (r : Int32 × ST), k4 x0 x1 x2 x3 s = some r → Ev l d mi_X3_isCornered 4 [some (.ref x0), some (.int x1), some (.int x2), some (.int x3), none, none, none, none, none] [] (hp s) 0 0 (some (.int r.1), hp r.2)) : ∀ (n : Nat) (x0 : Nat) (x1 : Int32) (x2 : Int32) (x3 : Int32) (x4 : Int32) (x5 : Int32) (s : ST) (r : Int32 × ST), f_X3_isCornered_L38 k4 n x0 x1 x2 x3 x4 x5 s = some r → Ev l d mi_X3_isCornered 38 [some (.ref x0), some (.int x1), some (.int x2), some (.int x3), some (.int x4), some (.int x5), none, none, none] [] (hp s) 0 0 (some (.int r.1), hp r.2) := by
  intro n
  induction n with
  | zero =>
    intro x0 x1 x2 x3 x4 x5 s r hf
    cases hf
  | succ n ih =>
    intro x0 x1 x2 x3 x4 x5 s r hf
    unfold f_X3_isCornered_L38 at hf
    refine Ev.blk (pc' := 40) [(.iload 4, 0, 0, 0)] (by decide +kernel) trivial rfl (?_)
    show Ev l d mi_X3_isCornered 40 [some (.ref x0), some (.int x1), some (.int x2), some (.int x3), some (.int x4), some (.int x5), none, none, none] [.int x4] (hp s) 0 0 _
    refine Ev.if_eq (off := 85) (tgt := 125) (by decide +kernel) (by decide) (fun b9 => ?_) (fun b9 => ?_)
    · have hf := (if_pos b9).symm.trans hf
      refine Ev.blk (pc' := 128) [(.iinc 3 1, 0, 0, 0)] (by decide +kernel) trivial rfl (And.intro (Nat.le_of_ble_eq_true rfl) (?_))
      show Ev l d mi_X3_isCornered 128 [some (.ref x0), some (.int x1), some (.int x2), some (.int (x3 + Int32.ofInt 1)), some (.int x4), some (.int x5), none, none, none] [] (hp s) 0 0 _
      refine Ev.goto (off := -124) (tgt := 4) (by decide +kernel) (by decide) ?_
      exact Ev.wk (hk4 x0 x1 x2 (x3 + Int32.ofInt 1) s _ hf) (And.intro (Or.inr rfl) (And.intro (Or.inr rfl) (And.intro (Or.inr rfl) (And.intro (Or.inr rfl) (And.intro (Or.inl rfl) (And.intro (Or.inl rfl) (And.intro (Or.inr rfl) (And.intro (Or.inr rfl) (And.intro (Or.inr rfl) (trivial))))))))))
    · have hf := (if_neg b9).symm.trans hf
      refine Ev.blk (pc' := 47) [(.iload 5, 0, 0, 0), (.bipush 25, 0, 0, 0)] (by decide +kernel) trivial rfl (?_)
      show Ev l d mi_X3_isCornered 47 [some (.ref x0), some (.int x1), some (.int x2), some (.int x3), some (.int x4), some (.int x5), none, none, none] [.int ((Int8.ofInt 25).toInt32), .int x5] (hp s) 0 0 _
      refine Ev.icmp_ge (off := 78) (tgt := 125) (by decide +kernel) (by decide) (fun b10 => ?_) (fun b10 => ?_)
      · have hf := (if_pos b10).symm.trans hf
        refine Ev.blk (pc' := 128) [(.iinc 3 1, 0, 0, 0)] (by decide +kernel) trivial rfl (And.intro (Nat.le_of_ble_eq_true rfl) (?_))
        show Ev l d mi_X3_isCornered 128 [some (.ref x0), some (.int x1), some (.int x2), some (.int (x3 + Int32.ofInt 1)), some (.int x4), some (.int x5), none, none, none] [] (hp s) 0 0 _
        refine Ev.goto (off := -124) (tgt := 4) (by decide +kernel) (by decide) ?_
        exact Ev.wk (hk4 x0 x1 x2 (x3 + Int32.ofInt 1) s _ hf) (And.intro (Or.inr rfl) (And.intro (Or.inr rfl) (And.intro (Or.inr rfl) (And.intro (Or.inr rfl) (And.intro (Or.inl rfl) (And.intro (Or.inl rfl) (And.intro (Or.inr rfl) (And.intro (Or.inr rfl) (And.intro (Or.inr rfl) (trivial))))))))))
      · have hf := (if_neg b10).symm.trans hf
        refine Ev.blk (pc' := 57) [(.iload 4, 0, 0, 0), (.iload 5, 0, 0, 0), (.ishr, 0, 0, 0), (.iconst 1, 0, 0, 0), (.iand, 0, 0, 0)] (by decide +kernel) trivial rfl (?_)
        show Ev l d mi_X3_isCornered 57 [some (.ref x0), some (.int x1), some (.int x2), some (.int x3), some (.int x4), some (.int x5), none, none, none] [.int ((x4 >>> (x5 &&& 31)) &&& (Int32.ofInt 1))] (hp s) 0 0 _
        refine Ev.if_eq (off := 62) (tgt := 119) (by decide +kernel) (by decide) (fun b11 => ?_) (fun b11 => ?_)
        · have hf := (if_pos b11).symm.trans hf
          refine Ev.blk (pc' := 122) [(.iinc 5 1, 0, 0, 0)] (by decide +kernel) trivial rfl (And.intro (Nat.le_of_ble_eq_true rfl) (?_))
          show Ev l d mi_X3_isCornered 122 [some (.ref x0), some (.int x1), some (.int x2), some (.int x3), some (.int x4), some (.int (x5 + Int32.ofInt 1)), none, none, none] [] (hp s) 0 0 _
          refine Ev.goto (off := -84) (tgt := 38) (by decide +kernel) (by decide) ?_
          exact ih x0 x1 x2 x3 x4 (x5 + Int32.ofInt 1) s _ hf
        · have hf := (if_neg b11).symm.trans hf
          obtain ⟨c12, hf⟩ := gd_some hf
          obtain ⟨a13, ha13, hf⟩ := bd_some hf
          obtain ⟨c14, hf⟩ := gd_some hf
          obtain ⟨c15, hf⟩ := gd_some hf
          refine Ev.blk (pc' := 72) [(.aload_n 0, 0, 0, 0), (.getfield 22, 0, 3, 4), (.iload_n 3, 0, 0, 0), (.iaload, 0, 0, 0), (.istore 6, 0, 0, 0), (.aload_n 0, 0, 0, 0), (.iload_n 3, 0, 0, 0), (.iload 5, 0, 0, 0)] (by decide +kernel) ⟨kf_3_22, trivial⟩ rfl (And.intro (kk_ok c12) (Exists.intro a13 (And.intro ha13 (And.intro (kk_ok c14) (And.intro (ib_ok c15) (And.intro (Nat.le_of_ble_eq_true rfl) (?_)))))))
          show Ev l d mi_X3_isCornered 72 [some (.ref x0), some (.int x1), some (.int x2), some (.int x3), some (.int x4), some (.int x5), some (.int (s.1 a13 x3.toNatClampNeg)), none, none] [.int x5, .int x3, .ref x0] (hp s) 0 0 _
          obtain ⟨q16, hq16, hf⟩ := bd_some hf
          refine Ev.callV (o := x0) (M' := mi_X3_carry) (d' := d - 1) (As := [.int x3, .int x5]) (rest := []) (r' := (some (.int q16.1), hp q16.2)) (e_X3_carry (d := d - 1) (by omega) x0 x3 x5 s _ hq16) (by omega) wm_X3_carry wi_X3_carry wv_X3_carry km_3_186 (kk_ok c12) (Nat.le_of_ble_eq_true rfl) rfl rfl rfl (Nat.le_of_ble_eq_true rfl) ⟨Nat.le_of_ble_eq_true rfl, Nat.le_of_ble_eq_true rfl⟩ (by decide +kernel) ?_
          show Ev l d mi_X3_isCornered 75 [some (.ref x0), some (.int x1), some (.int x2), some (.int x3), some (.int x4), some (.int x5), some (.int (s.1 a13 x3.toNatClampNeg)), none, none] [.int q16.1] (hp q16.2) 0 0 _
          refine Ev.blk (pc' := 81) [(.istore 7, 0, 0, 0), (.aload_n 0, 0, 0, 0), (.getfield 37, 0, 3, 9)] (by decide +kernel) ⟨kf_3_37, trivial⟩ rfl (And.intro (Nat.le_of_ble_eq_true rfl) (And.intro (kk_ok c12) (?_)))
          show Ev l d mi_X3_isCornered 81 [some (.ref x0), some (.int x1), some (.int x2), some (.int x3), some (.int x4), some (.int x5), some (.int (s.1 a13 x3.toNatClampNeg)), some (.int q16.1), none] [.int (q16.2.1 x0 9)] (hp q16.2) 0 0 _
          refine Ev.if_ne (off := 17) (tgt := 98) (by decide +kernel) (by decide) (fun b17 => ?_) (fun b17 => ?_)
          · have hf := (if_neg b17).symm.trans hf
            exact Ev.wk ((e_X3_isCornered_j98 hd (f_X3_isCornered_L38 k4 n) ih) x0 x1 x3 x4 x5 (s.1 a13 x3.toNatClampNeg) q16.1 q16.2 _ hf) (And.intro (Or.inr rfl) (And.intro (Or.inr rfl) (And.intro (Or.inl rfl) (And.intro (Or.inr rfl) (And.intro (Or.inr rfl) (And.intro (Or.inr rfl) (And.intro (Or.inr rfl) (And.intro (Or.inr rfl) (And.intro (Or.inr rfl) (trivial))))))))))
          · have hf := (if_pos b17).symm.trans hf
            refine Ev.blk (pc' := 88) [(.aload_n 0, 0, 0, 0), (.iconst 1, 0, 0, 0), (.iload_n 1, 0, 0, 0), (.isub, 0, 0, 0)] (by decide +kernel) trivial rfl (?_)
            show Ev l d mi_X3_isCornered 88 [some (.ref x0), some (.int x1), some (.int x2), some (.int x3), some (.int x4), some (.int x5), some (.int (s.1 a13 x3.toNatClampNeg)), some (.int q16.1), none] [.int ((Int32.ofInt 1) - x1), .ref x0] (hp q16.2) 0 0 _
            obtain ⟨q18, hq18, hf⟩ := bd_some hf
            refine Ev.callV (o := x0) (M' := mi_X3_threatens) (d' := d - 1) (As := [.int ((Int32.ofInt 1) - x1)]) (rest := []) (r' := (some (.int q18.1), hp q18.2)) (e_X3_threatens (d := d - 1) (by omega) x0 ((Int32.ofInt 1) - x1) q16.2 _ hq18) (by omega) wm_X3_threatens wi_X3_threatens wv_X3_threatens km_3_199 (kk_ok c12) (Nat.le_of_ble_eq_true rfl) rfl rfl rfl (Nat.le_of_ble_eq_true rfl) ⟨Nat.le_of_ble_eq_true rfl, Nat.le_of_ble_eq_true rfl⟩ (by decide +kernel) ?_
            show Ev l d mi_X3_isCornered 91 [some (.ref x0), some (.int x1), some (.int x2), some (.int x3), some (.int x4), some (.int x5), some (.int (s.1 a13 x3.toNatClampNeg)), some (.int q16.1), none] [.int q18.1] (hp q18.2) 0 0 _
            refine Ev.if_eq (off := 7) (tgt := 98) (by decide +kernel) (by decide) (fun b19 => ?_) (fun b19 => ?_)
            · have hf := (if_pos b19).symm.trans hf
              exact Ev.wk ((e_X3_isCornered_j98 hd (f_X3_isCornered_L38 k4 n) ih) x0 x1 x3 x4 x5 (s.1 a13 x3.toNatClampNeg) q16.1 q18.2 _ hf) (And.intro (Or.inr rfl) (And.intro (Or.inr rfl) (And.intro (Or.inl rfl) (And.intro (Or.inr rfl) (And.intro (Or.inr rfl) (And.intro (Or.inr rfl) (And.intro (Or.inr rfl) (And.intro (Or.inr rfl) (And.intro (Or.inr rfl) (trivial))))))))))
            · have hf := (if_neg b19).symm.trans hf
              refine Ev.blk (pc' := 95) [(.iconst 1, 0, 0, 0)] (by decide +kernel) trivial rfl (?_)
              show Ev l d mi_X3_isCornered 95 [some (.ref x0), some (.int x1), some (.int x2), some (.int x3), some (.int x4), some (.int x5), some (.int (s.1 a13 x3.toNatClampNeg)), some (.int q16.1), none] [.int (Int32.ofInt 1)] (hp q18.2) 0 0 _
              refine Ev.goto (off := 4) (tgt := 99) (by decide +kernel) (by decide) ?_
              exact Ev.wk ((e_X3_isCornered_j99 hd (f_X3_isCornered_L38 k4 n) ih) x0 x1 x3 x4 x5 (s.1 a13 x3.toNatClampNeg) q16.1 (Int32.ofInt 1) q18.2 _ hf) (And.intro (Or.inr rfl) (And.intro (Or.inr rfl) (And.intro (Or.inl rfl) (And.intro (Or.inr rfl) (And.intro (Or.inr rfl) (And.intro (Or.inr rfl) (And.intro (Or.inr rfl) (And.intro (Or.inr rfl) (And.intro (Or.inr rfl) (trivial))))))))))
def f_X3_isCornered_j33 (k4 : Nat → Int32 → Int32 → Int32 → ST → Option (Int32 × ST)) (x0 : Nat) (x1 : Int32) (x2 : Int32) (x3 : Int32) (y0 : Int32) (s : ST) : Option (Int32 × ST) := (f_X3_isCornered_L38 k4 fuel) x0 x1 x2 x3 y0 (Int32.ofInt 0) s
set_option maxHeartbeats 2000000 in
set_option maxRecDepth 20000 in
theorem e_X3_isCornered_j33 {l : Launch} {d : Nat} (hd : 4 ≤ d) (k4 : Nat → Int32 → Int32 → Int32 → ST → Option (Int32 × ST)) (hk4 : ∀ (x0 : Nat) (x1 : Int32) (x2 : Int32) (x3 : Int32) (s : ST) (r : Int32 × ST), k4 x0 x1 x2 x3 s = some r → Ev l d mi_X3_isCornered 4 [some (.ref x0), some (.int x1), some (.int x2), some (.int x3), none, none, none, none, none] [] (hp s) 0 0 (some (.int r.1), hp r.2)) (x0 : Nat) (x1 : Int32) (x2 : Int32) (x3 : Int32) (y0 : Int32) (s : ST) (r : Int32 × ST) (hf : f_X3_isCornered_j33 k4 x0 x1 x2 x3 y0 s = some r) : Ev l d mi_X3_isCornered 33 [some (.ref x0), some (.int x1), some (.int x2), some (.int x3), none, none, none, none, none] [.int y0] (hp s) 0 0 (some (.int r.1), hp r.2) := by
  unfold f_X3_isCornered_j33 at hf
  refine Ev.blk (pc' := 38) [(.istore 4, 0, 0, 0), (.iconst 0, 0, 0, 0), (.istore 5, 0, 0, 0)] (by decide +kernel) trivial rfl (And.intro (Nat.le_of_ble_eq_true rfl) (And.intro (Nat.le_of_ble_eq_true rfl) (?_)))
  show Ev l d mi_X3_isCornered 38 [some (.ref x0), some (.int x1), some (.int x2), some (.int x3), some (.int y0), some (.int (Int32.ofInt 0)), none, none, none] [] (hp s) 0 0 _
  exact (e_X3_isCornered_L38 hd k4 hk4 fuel) x0 x1 x2 x3 y0 (Int32.ofInt 0) s _ hf
def f_X3_isCornered_L4 : Nat → Nat → Int32 → Int32 → Int32 → ST → Option (Int32 × ST)
  | 0, _, _, _, _, _ => none
  | n + 1, x0, x1, x2, x3, s => gd (kk x0 3) ((RR s.2.2 x0 0).bind (fun a2 => gd (kk a2 4) ((if (s.1 a2 8) ≤ x3 then gd (nb x2) (some (x2, s)) else (f_X3_isOut x0 x3 x1 s).bind (fun q6 => (if q6.1 = 0 then (f_X3_isCornered_j33 (f_X3_isCornered_L4 n)) x0 x1 x2 x3 (Int32.ofInt 0) q6.2 else (f_X3_goals x0 x3 q6.2).bind (fun q8 => (f_X3_isCornered_j33 (f_X3_isCornered_L4 n)) x0 x1 x2 x3 q8.1 q8.2)))))))
set_option maxHeartbeats 2000000 in
set_option maxRecDepth 20000 in
theorem e_X3_isCornered_L4 {l : Launch} {d : Nat} (hd : 4 ≤ d) : ∀ (n : Nat) (x0 : Nat) (x1 : Int32) (x2 : Int32) (x3 : Int32) (s : ST) (r : Int32 × ST), f_X3_isCornered_L4 n x0 x1 x2 x3 s = some r → Ev l d mi_X3_isCornered 4 [some (.ref x0), some (.int x1), some (.int x2), some (.int x3), none, none, none, none, none] [] (hp s) 0 0 (some (.int r.1), hp r.2) := by
  intro n
  induction n with
  | zero =>
    intro x0 x1 x2 x3 s r hf
    cases hf
  | succ n ih =>
    intro x0 x1 x2 x3 s r hf
    unfold f_X3_isCornered_L4 at hf
    obtain ⟨c1, hf⟩ := gd_some hf
    obtain ⟨a2, ha2, hf⟩ := bd_some hf
    obtain ⟨c3, hf⟩ := gd_some hf
    refine Ev.blk (pc' := 12) [(.iload_n 3, 0, 0, 0), (.aload_n 0, 0, 0, 0), (.getfield 56, 0, 3, 0), (.getfield 66, 0, 4, 8)] (by decide +kernel) ⟨kf_3_56, ⟨kf_3_66, trivial⟩⟩ rfl (And.intro (kk_ok c1) (Exists.intro a2 (And.intro ha2 (And.intro (kk_ok c3) (?_)))))
    show Ev l d mi_X3_isCornered 12 [some (.ref x0), some (.int x1), some (.int x2), some (.int x3), none, none, none, none, none] [.int (s.1 a2 8), .int x3] (hp s) 0 0 _
    refine Ev.icmp_ge (off := 119) (tgt := 131) (by decide +kernel) (by decide) (fun b4 => ?_) (fun b4 => ?_)
    · have hf := (if_pos b4).symm.trans hf
      refine Ev.blk (pc' := 132) [(.iload_n 2, 0, 0, 0)] (by decide +kernel) trivial rfl (?_)
      show Ev l d mi_X3_isCornered 132 [some (.ref x0), some (.int x1), some (.int x2), some (.int x3), none, none, none, none, none] [.int x2] (hp s) 0 0 _
      obtain ⟨c5, hf⟩ := gd_some hf
      cases hf
      exact Ev.iret .boolean rfl (nb_ok c5) (by decide +kernel) (Nat.le_refl _) (Nat.le_refl _)
    · have hf := (if_neg b4).symm.trans hf
      refine Ev.blk (pc' := 18) [(.aload_n 0, 0, 0, 0), (.iload_n 3, 0, 0, 0), (.iload_n 1, 0, 0, 0)] (by decide +kernel) trivial rfl (?_)
      show Ev l d mi_X3_isCornered 18 [some (.ref x0), some (.int x1), some (.int x2), some (.int x3), none, none, none, none, none] [.int x1, .int x3, .ref x0] (hp s) 0 0 _
      obtain ⟨q6, hq6, hf⟩ := bd_some hf
      refine Ev.callV (o := x0) (M' := mi_X3_isOut) (d' := d - 1) (As := [.int x3, .int x1]) (rest := []) (r' := (some (.int q6.1), hp q6.2)) (e_X3_isOut (d := d - 1) (by omega) x0 x3 x1 s _ hq6) (by omega) wm_X3_isOut wi_X3_isOut wv_X3_isOut km_3_102 (kk_ok c1) (Nat.le_of_ble_eq_true rfl) rfl rfl rfl (Nat.le_of_ble_eq_true rfl) ⟨Nat.le_of_ble_eq_true rfl, Nat.le_of_ble_eq_true rfl⟩ (by decide +kernel) ?_
      show Ev l d mi_X3_isCornered 21 [some (.ref x0), some (.int x1), some (.int x2), some (.int x3), none, none, none, none, none] [.int q6.1] (hp q6.2) 0 0 _
      refine Ev.if_eq (off := 11) (tgt := 32) (by decide +kernel) (by decide) (fun b7 => ?_) (fun b7 => ?_)
      · have hf := (if_pos b7).symm.trans hf
        refine Ev.blk (pc' := 33) [(.iconst 0, 0, 0, 0)] (by decide +kernel) trivial rfl (?_)
        show Ev l d mi_X3_isCornered 33 [some (.ref x0), some (.int x1), some (.int x2), some (.int x3), none, none, none, none, none] [.int (Int32.ofInt 0)] (hp q6.2) 0 0 _
        exact (e_X3_isCornered_j33 hd (f_X3_isCornered_L4 n) ih) x0 x1 x2 x3 (Int32.ofInt 0) q6.2 _ hf
      · have hf := (if_neg b7).symm.trans hf
        refine Ev.blk (pc' := 26) [(.aload_n 0, 0, 0, 0), (.iload_n 3, 0, 0, 0)] (by decide +kernel) trivial rfl (?_)
        show Ev l d mi_X3_isCornered 26 [some (.ref x0), some (.int x1), some (.int x2), some (.int x3), none, none, none, none, none] [.int x3, .ref x0] (hp q6.2) 0 0 _
        obtain ⟨q8, hq8, hf⟩ := bd_some hf
        refine Ev.callV (o := x0) (M' := mi_X3_goals) (d' := d - 1) (As := [.int x3]) (rest := []) (r' := (some (.int q8.1), hp q8.2)) (e_X3_goals (d := d - 1) (by omega) x0 x3 q6.2 _ hq8) (by omega) wm_X3_goals wi_X3_goals wv_X3_goals km_3_143 (kk_ok c1) (Nat.le_of_ble_eq_true rfl) rfl rfl rfl (Nat.le_of_ble_eq_true rfl) ⟨Nat.le_of_ble_eq_true rfl, Nat.le_of_ble_eq_true rfl⟩ (by decide +kernel) ?_
        show Ev l d mi_X3_isCornered 29 [some (.ref x0), some (.int x1), some (.int x2), some (.int x3), none, none, none, none, none] [.int q8.1] (hp q8.2) 0 0 _
        refine Ev.goto (off := 4) (tgt := 33) (by decide +kernel) (by decide) ?_
        exact (e_X3_isCornered_j33 hd (f_X3_isCornered_L4 n) ih) x0 x1 x2 x3 q8.1 q8.2 _ hf
def f_X3_isCornered (o : Nat) (p0 : Int32) (s : ST) : Option (Int32 × ST) := (f_X3_isCornered_L4 fuel) o p0 (Int32.ofInt 0) (Int32.ofInt 0) s
set_option maxHeartbeats 2000000 in
set_option maxRecDepth 20000 in
theorem e_X3_isCornered {l : Launch} {d : Nat} (hd : 4 ≤ d) (o : Nat) (p0 : Int32) (s : ST) (r : Int32 × ST) (hf : f_X3_isCornered o p0 s = some r) : Cl l d mi_X3_isCornered [.ref o, .int p0] (hp s) (some (.int r.1), hp r.2) := by
  refine Ev.entry (by decide +kernel) rfl rfl ?_
  show Ev l d mi_X3_isCornered 0 [some (.ref o), some (.int p0), none, none, none, none, none, none, none] [] (hp s) 0 0 _
  unfold f_X3_isCornered at hf
  refine Ev.blk (pc' := 4) [(.iconst 0, 0, 0, 0), (.istore_n 2, 0, 0, 0), (.iconst 0, 0, 0, 0), (.istore_n 3, 0, 0, 0)] (by decide +kernel) trivial rfl (And.intro (Nat.le_of_ble_eq_true rfl) (And.intro (Nat.le_of_ble_eq_true rfl) (?_)))
  show Ev l d mi_X3_isCornered 4 [some (.ref o), some (.int p0), some (.int (Int32.ofInt 0)), some (.int (Int32.ofInt 0)), none, none, none, none, none] [] (hp s) 0 0 _
  exact (e_X3_isCornered_L4 hd fuel) o p0 (Int32.ofInt 0) (Int32.ofInt 0) s _ hf
def f_X3_cornersBy_j45 (x0 : Nat) (x1 : Int32) (x3 : Int32) (x4 : Int32) (y0 : Int32) (s : ST) : Option (Int32 × ST) := (f_X3_carryBack x0 x1 x3 x4 s).bind (fun q14 => gd (kk x0 3) (gd (nb y0) (some (y0, q14))))
set_option maxHeartbeats 2000000 in
set_option maxRecDepth 20000 in
theorem e_X3_cornersBy_j45 {l : Launch} {d : Nat} (hd : 5 ≤ d) (x0 : Nat) (x1 : Int32) (x3 : Int32) (x4 : Int32) (y0 : Int32) (s : ST) (r : Int32 × ST) (hf : f_X3_cornersBy_j45 x0 x1 x3 x4 y0 s = some r) : Ev l d mi_X3_cornersBy 45 [some (.ref x0), some (.int x1), none, some (.int x3), some (.int x4), none] [.int y0] (hp s) 0 0 (some (.int r.1), hp r.2) := by
  unfold f_X3_cornersBy_j45 at hf
  refine Ev.blk (pc' := 52) [(.istore 5, 0, 0, 0), (.aload_n 0, 0, 0, 0), (.iload_n 1, 0, 0, 0), (.iload_n 3, 0, 0, 0), (.iload 4, 0, 0, 0)] (by decide +kernel) trivial rfl (And.intro (Nat.le_of_ble_eq_true rfl) (?_))
  show Ev l d mi_X3_cornersBy 52 [some (.ref x0), some (.int x1), none, some (.int x3), some (.int x4), some (.int y0)] [.int x4, .int x3, .int x1, .ref x0] (hp s) 0 0 _
  obtain ⟨q14, hq14, hf⟩ := bd_some hf
  obtain ⟨c15, hf⟩ := gd_some hf
  refine Ev.callV (o := x0) (M' := mi_X3_carryBack) (d' := d - 1) (As := [.int x1, .int x3, .int x4]) (rest := []) (r' := (none, hp q14)) (e_X3_carryBack (d := d - 1) (by omega) x0 x1 x3 x4 s _ hq14) (by omega) wm_X3_carryBack wi_X3_carryBack wv_X3_carryBack km_3_192 (kk_ok c15) (Nat.le_of_ble_eq_true rfl) rfl rfl rfl (Nat.le_of_ble_eq_true rfl) ⟨Nat.le_of_ble_eq_true rfl, Nat.le_of_ble_eq_true rfl⟩ (by decide +kernel) ?_
  show Ev l d mi_X3_cornersBy 55 [some (.ref x0), some (.int x1), none, some (.int x3), some (.int x4), some (.int y0)] [] (hp q14) 0 0 _
  refine Ev.blk (pc' := 57) [(.iload 5, 0, 0, 0)] (by decide +kernel) trivial rfl (?_)
  show Ev l d mi_X3_cornersBy 57 [some (.ref x0), some (.int x1), none, some (.int x3), some (.int x4), some (.int y0)] [.int y0] (hp q14) 0 0 _
  obtain ⟨c16, hf⟩ := gd_some hf
  cases hf
  exact Ev.iret .boolean rfl (nb_ok c16) (by decide +kernel) (Nat.le_refl _) (Nat.le_refl _)
def f_X3_cornersBy_j44 (x0 : Nat) (x1 : Int32) (x3 : Int32) (x4 : Int32) (s : ST) : Option (Int32 × ST) := f_X3_cornersBy_j45 x0 x1 x3 x4 (Int32.ofInt 0) s
set_option maxHeartbeats 2000000 in
set_option maxRecDepth 20000 in
theorem e_X3_cornersBy_j44 {l : Launch} {d : Nat} (hd : 5 ≤ d) (x0 : Nat) (x1 : Int32) (x3 : Int32) (x4 : Int32) (s : ST) (r : Int32 × ST) (hf : f_X3_cornersBy_j44 x0 x1 x3 x4 s = some r) : Ev l d mi_X3_cornersBy 44 [some (.ref x0), some (.int x1), none, some (.int x3), some (.int x4), none] [] (hp s) 0 0 (some (.int r.1), hp r.2) := by
  unfold f_X3_cornersBy_j44 at hf
  refine Ev.blk (pc' := 45) [(.iconst 0, 0, 0, 0)] (by decide +kernel) trivial rfl (?_)
  show Ev l d mi_X3_cornersBy 45 [some (.ref x0), some (.int x1), none, some (.int x3), some (.int x4), none] [.int (Int32.ofInt 0)] (hp s) 0 0 _
  exact (e_X3_cornersBy_j45 hd) x0 x1 x3 x4 (Int32.ofInt 0) s _ hf
def f_X3_cornersBy (o : Nat) (p0 : Int32) (p1 : Int32) (s : ST) : Option (Int32 × ST) := gd (kk o 3) ((RR s.2.2 o 4).bind (fun a2 => gd (kk a2 13) (gd (ib p0 (K0 a2).2) ((f_X3_carry o p0 p1 s).bind (fun q5 => (if (q5.2.1 o 9) = 0 then (RR q5.2.2.2 o 0).bind (fun a7 => gd (kk a7 4) ((RR q5.2.2.2 a7 10).bind (fun a9 => gd (kk a9 13) (gd (ib p0 (K0 a9).2) ((f_X3_isCornered o ((Int32.ofInt 1) - (q5.2.1 a9 p0.toNatClampNeg)) q5.2).bind (fun q12 => (if q12.1 = 0 then f_X3_cornersBy_j44 o p0 (s.1 a2 p0.toNatClampNeg) q5.1 q12.2 else f_X3_cornersBy_j45 o p0 (s.1 a2 p0.toNatClampNeg) q5.1 (Int32.ofInt 1) q12.2))))))) else f_X3_cornersBy_j44 o p0 (s.1 a2 p0.toNatClampNeg) q5.1 q5.2))))))
set_option maxHeartbeats 2000000 in
set_option maxRecDepth 20000 in
theorem e_X3_cornersBy {l : Launch} {d : Nat} (hd : 5 ≤ d) (o : Nat) (p0 : Int32) (p1 : Int32) (s : ST) (r : Int32 × ST) (hf : f_X3_cornersBy o p0 p1 s = some r) : Cl l d mi_X3_cornersBy [.ref o, .int p0, .int p1] (hp s) (some (.int r.1), hp r.2) := by
  refine Ev.entry (by decide +kernel) rfl rfl ?_
  show Ev l d mi_X3_cornersBy 0 [some (.ref o), some (.int p0), some (.int p1), none, none, none] [] (hp s) 0 0 _
  unfold f_X3_cornersBy at hf
  obtain ⟨c1, hf⟩ := gd_some hf
  obtain ⟨a2, ha2, hf⟩ := bd_some hf
  obtain ⟨c3, hf⟩ := gd_some hf
  obtain ⟨c4, hf⟩ := gd_some hf
  refine Ev.blk (pc' := 10) [(.aload_n 0, 0, 0, 0), (.getfield 22, 0, 3, 4), (.iload_n 1, 0, 0, 0), (.iaload, 0, 0, 0), (.istore_n 3, 0, 0, 0), (.aload_n 0, 0, 0, 0), (.iload_n 1, 0, 0, 0), (.iload_n 2, 0, 0, 0)] (by decide +kernel) ⟨kf_3_22, trivial⟩ rfl (And.intro (kk_ok c1) (Exists.intro a2 (And.intro ha2 (And.intro (kk_ok c3) (And.intro (ib_ok c4) (And.intro (Nat.le_of_ble_eq_true rfl) (?_)))))))
  show Ev l d mi_X3_cornersBy 10 [some (.ref o), some (.int p0), some (.int p1), some (.int (s.1 a2 p0.toNatClampNeg)), none, none] [.int p1, .int p0, .ref o] (hp s) 0 0 _
  obtain ⟨q5, hq5, hf⟩ := bd_some hf
  refine Ev.callV (o := o) (M' := mi_X3_carry) (d' := d - 1) (As := [.int p0, .int p1]) (rest := []) (r' := (some (.int q5.1), hp q5.2)) (e_X3_carry (d := d - 1) (by omega) o p0 p1 s _ hq5) (by omega) wm_X3_carry wi_X3_carry wv_X3_carry km_3_186 (kk_ok c1) (Nat.le_of_ble_eq_true rfl) rfl rfl rfl (Nat.le_of_ble_eq_true rfl) ⟨Nat.le_of_ble_eq_true rfl, Nat.le_of_ble_eq_true rfl⟩ (by decide +kernel) ?_
  show Ev l d mi_X3_cornersBy 13 [some (.ref o), some (.int p0), some (.int p1), some (.int (s.1 a2 p0.toNatClampNeg)), none, none] [.int q5.1] (hp q5.2) 0 0 _
  refine Ev.blk (pc' := 19) [(.istore 4, 0, 0, 0), (.aload_n 0, 0, 0, 0), (.getfield 37, 0, 3, 9)] (by decide +kernel) ⟨kf_3_37, trivial⟩ rfl (And.intro (Nat.le_of_ble_eq_true rfl) (And.intro (kk_ok c1) (?_)))
  show Ev l d mi_X3_cornersBy 19 [some (.ref o), some (.int p0), some (.int p1), some (.int (s.1 a2 p0.toNatClampNeg)), some (.int q5.1), none] [.int (q5.2.1 o 9)] (hp q5.2) 0 0 _
  refine Ev.if_ne (off := 25) (tgt := 44) (by decide +kernel) (by decide) (fun b6 => ?_) (fun b6 => ?_)
  · have hf := (if_neg b6).symm.trans hf
    exact Ev.wk ((e_X3_cornersBy_j44 hd) o p0 (s.1 a2 p0.toNatClampNeg) q5.1 q5.2 _ hf) (And.intro (Or.inr rfl) (And.intro (Or.inr rfl) (And.intro (Or.inl rfl) (And.intro (Or.inr rfl) (And.intro (Or.inr rfl) (And.intro (Or.inr rfl) (trivial)))))))
  · have hf := (if_pos b6).symm.trans hf
    obtain ⟨a7, ha7, hf⟩ := bd_some hf
    obtain ⟨c8, hf⟩ := gd_some hf
    obtain ⟨a9, ha9, hf⟩ := bd_some hf
    obtain ⟨c10, hf⟩ := gd_some hf
    obtain ⟨c11, hf⟩ := gd_some hf
    refine Ev.blk (pc' := 34) [(.aload_n 0, 0, 0, 0), (.iconst 1, 0, 0, 0), (.aload_n 0, 0, 0, 0), (.getfield 56, 0, 3, 0), (.getfield 106, 0, 4, 10), (.iload_n 1, 0, 0, 0), (.iaload, 0, 0, 0), (.isub, 0, 0, 0)] (by decide +kernel) ⟨kf_3_56, ⟨kf_3_106, trivial⟩⟩ rfl (And.intro (kk_ok c1) (Exists.intro a7 (And.intro ha7 (And.intro (kk_ok c8) (Exists.intro a9 (And.intro ha9 (And.intro (kk_ok c10) (And.intro (ib_ok c11) (?_)))))))))
    show Ev l d mi_X3_cornersBy 34 [some (.ref o), some (.int p0), some (.int p1), some (.int (s.1 a2 p0.toNatClampNeg)), some (.int q5.1), none] [.int ((Int32.ofInt 1) - (q5.2.1 a9 p0.toNatClampNeg)), .ref o] (hp q5.2) 0 0 _
    obtain ⟨q12, hq12, hf⟩ := bd_some hf
    refine Ev.callV (o := o) (M' := mi_X3_isCornered) (d' := d - 1) (As := [.int ((Int32.ofInt 1) - (q5.2.1 a9 p0.toNatClampNeg))]) (rest := []) (r' := (some (.int q12.1), hp q12.2)) (e_X3_isCornered (d := d - 1) (by omega) o ((Int32.ofInt 1) - (q5.2.1 a9 p0.toNatClampNeg)) q5.2 _ hq12) (by omega) wm_X3_isCornered wi_X3_isCornered wv_X3_isCornered km_3_205 (kk_ok c1) (Nat.le_of_ble_eq_true rfl) rfl rfl rfl (Nat.le_of_ble_eq_true rfl) ⟨Nat.le_of_ble_eq_true rfl, Nat.le_of_ble_eq_true rfl⟩ (by decide +kernel) ?_
    show Ev l d mi_X3_cornersBy 37 [some (.ref o), some (.int p0), some (.int p1), some (.int (s.1 a2 p0.toNatClampNeg)), some (.int q5.1), none] [.int q12.1] (hp q12.2) 0 0 _
    refine Ev.if_eq (off := 7) (tgt := 44) (by decide +kernel) (by decide) (fun b13 => ?_) (fun b13 => ?_)
    · have hf := (if_pos b13).symm.trans hf
      exact Ev.wk ((e_X3_cornersBy_j44 hd) o p0 (s.1 a2 p0.toNatClampNeg) q5.1 q12.2 _ hf) (And.intro (Or.inr rfl) (And.intro (Or.inr rfl) (And.intro (Or.inl rfl) (And.intro (Or.inr rfl) (And.intro (Or.inr rfl) (And.intro (Or.inr rfl) (trivial)))))))
    · have hf := (if_neg b13).symm.trans hf
      refine Ev.blk (pc' := 41) [(.iconst 1, 0, 0, 0)] (by decide +kernel) trivial rfl (?_)
      show Ev l d mi_X3_cornersBy 41 [some (.ref o), some (.int p0), some (.int p1), some (.int (s.1 a2 p0.toNatClampNeg)), some (.int q5.1), none] [.int (Int32.ofInt 1)] (hp q12.2) 0 0 _
      refine Ev.goto (off := 4) (tgt := 45) (by decide +kernel) (by decide) ?_
      exact Ev.wk ((e_X3_cornersBy_j45 hd) o p0 (s.1 a2 p0.toNatClampNeg) q5.1 (Int32.ofInt 1) q12.2 _ hf) (And.intro (Or.inr rfl) (And.intro (Or.inr rfl) (And.intro (Or.inl rfl) (And.intro (Or.inr rfl) (And.intro (Or.inr rfl) (And.intro (Or.inr rfl) (trivial)))))))
def f_X3_forcedBy_L64 (k22 : Nat → Int32 → ST → Option (Int32 × ST)) : Nat → Nat → Int32 → Int32 → Int32 → ST → Option (Int32 × ST)
  | 0, _, _, _, _, _ => none
  | n + 1, x0, x1, x2, x3, s => (if x2 = 0 then k22 x0 (x1 + Int32.ofInt 1) s else (if ((Int8.ofInt 25).toInt32) ≤ x3 then k22 x0 (x1 + Int32.ofInt 1) s else (if ((x2 >>> (x3 &&& 31)) &&& (Int32.ofInt 1)) = 0 then (f_X3_forcedBy_L64 k22 n) x0 x1 x2 (x3 + Int32.ofInt 1) s else (f_X3_cornersBy x0 x1 x3 s).bind (fun q16 => gd (kk x0 3) ((if q16.1 = 0 then (f_X3_forcedBy_L64 k22 n) x0 x1 x2 (x3 + Int32.ofInt 1) q16.2 else some ((Int32.ofInt 2), q16.2)))))))
set_option maxHeartbeats 2000000 in
set_option maxRecDepth 20000 in
theorem e_X3_forcedBy_L64 {l : Launch} {d : Nat} (hd : 6 ≤ d) (k22 : Nat → Int32 → ST → Option (Int32 × ST)) (hk22 : ∀ (x0 : Nat) (x1 : Int32) (s : ST) (r : Int32 × ST), k22 x0 x1 s = some r → Ev l d mi_X3_forcedBy 22 [some (.ref x0), some (.int x1), none, none] [] (hp s) 0 0 (some (.int r.1), hp r.2)) : ∀ (n : Nat) (x0 : Nat) (x1 : Int32) (x2 : Int32) (x3 : Int32) (s : ST) (r : Int32 × ST), f_X3_forcedBy_L64 k22 n x0 x1 x2 x3 s = some r → Ev l d mi_X3_forcedBy 64 [some (.ref x0), some (.int x1), some (.int x2), some (.int x3)] [] (hp s) 0 0 (some (.int r.1), hp r.2) := by
  intro n
  induction n with
  | zero =>
    intro x0 x1 x2 x3 s r hf
    cases hf
  | succ n ih =>
    intro x0 x1 x2 x3 s r hf
    unfold f_X3_forcedBy_L64 at hf
    refine Ev.blk (pc' := 65) [(.iload_n 2, 0, 0, 0)] (by decide +kernel) trivial rfl (?_)
    show Ev l d mi_X3_forcedBy 65 [some (.ref x0), some (.int x1), some (.int x2), some (.int x3)] [.int x2] (hp s) 0 0 _
    refine Ev.if_eq (off := 34) (tgt := 99) (by decide +kernel) (by decide) (fun b13 => ?_) (fun b13 => ?_)
    · have hf := (if_pos b13).symm.trans hf
      refine Ev.blk (pc' := 102) [(.iinc 1 1, 0, 0, 0)] (by decide +kernel) trivial rfl (And.intro (Nat.le_of_ble_eq_true rfl) (?_))
      show Ev l d mi_X3_forcedBy 102 [some (.ref x0), some (.int (x1 + Int32.ofInt 1)), some (.int x2), some (.int x3)] [] (hp s) 0 0 _
      refine Ev.goto (off := -80) (tgt := 22) (by decide +kernel) (by decide) ?_
      exact Ev.wk (hk22 x0 (x1 + Int32.ofInt 1) s _ hf) (And.intro (Or.inr rfl) (And.intro (Or.inr rfl) (And.intro (Or.inl rfl) (And.intro (Or.inl rfl) (trivial)))))
    · have hf := (if_neg b13).symm.trans hf
      refine Ev.blk (pc' := 71) [(.iload_n 3, 0, 0, 0), (.bipush 25, 0, 0, 0)] (by decide +kernel) trivial rfl (?_)
      show Ev l d mi_X3_forcedBy 71 [some (.ref x0), some (.int x1), some (.int x2), some (.int x3)] [.int ((Int8.ofInt 25).toInt32), .int x3] (hp s) 0 0 _
      refine Ev.icmp_ge (off := 28) (tgt := 99) (by decide +kernel) (by decide) (fun b14 => ?_) (fun b14 => ?_)
      · have hf := (if_pos b14).symm.trans hf
        refine Ev.blk (pc' := 102) [(.iinc 1 1, 0, 0, 0)] (by decide +kernel) trivial rfl (And.intro (Nat.le_of_ble_eq_true rfl) (?_))
        show Ev l d mi_X3_forcedBy 102 [some (.ref x0), some (.int (x1 + Int32.ofInt 1)), some (.int x2), some (.int x3)] [] (hp s) 0 0 _
        refine Ev.goto (off := -80) (tgt := 22) (by decide +kernel) (by decide) ?_
        exact Ev.wk (hk22 x0 (x1 + Int32.ofInt 1) s _ hf) (And.intro (Or.inr rfl) (And.intro (Or.inr rfl) (And.intro (Or.inl rfl) (And.intro (Or.inl rfl) (trivial)))))
      · have hf := (if_neg b14).symm.trans hf
        refine Ev.blk (pc' := 79) [(.iload_n 2, 0, 0, 0), (.iload_n 3, 0, 0, 0), (.ishr, 0, 0, 0), (.iconst 1, 0, 0, 0), (.iand, 0, 0, 0)] (by decide +kernel) trivial rfl (?_)
        show Ev l d mi_X3_forcedBy 79 [some (.ref x0), some (.int x1), some (.int x2), some (.int x3)] [.int ((x2 >>> (x3 &&& 31)) &&& (Int32.ofInt 1))] (hp s) 0 0 _
        refine Ev.if_eq (off := 14) (tgt := 93) (by decide +kernel) (by decide) (fun b15 => ?_) (fun b15 => ?_)
        · have hf := (if_pos b15).symm.trans hf
          refine Ev.blk (pc' := 96) [(.iinc 3 1, 0, 0, 0)] (by decide +kernel) trivial rfl (And.intro (Nat.le_of_ble_eq_true rfl) (?_))
          show Ev l d mi_X3_forcedBy 96 [some (.ref x0), some (.int x1), some (.int x2), some (.int (x3 + Int32.ofInt 1))] [] (hp s) 0 0 _
          refine Ev.goto (off := -32) (tgt := 64) (by decide +kernel) (by decide) ?_
          exact ih x0 x1 x2 (x3 + Int32.ofInt 1) s _ hf
        · have hf := (if_neg b15).symm.trans hf
          refine Ev.blk (pc' := 85) [(.aload_n 0, 0, 0, 0), (.iload_n 1, 0, 0, 0), (.iload_n 3, 0, 0, 0)] (by decide +kernel) trivial rfl (?_)
          show Ev l d mi_X3_forcedBy 85 [some (.ref x0), some (.int x1), some (.int x2), some (.int x3)] [.int x3, .int x1, .ref x0] (hp s) 0 0 _
          obtain ⟨q16, hq16, hf⟩ := bd_some hf
          obtain ⟨c17, hf⟩ := gd_some hf
          refine Ev.callV (o := x0) (M' := mi_X3_cornersBy) (d' := d - 1) (As := [.int x1, .int x3]) (rest := []) (r' := (some (.int q16.1), hp q16.2)) (e_X3_cornersBy (d := d - 1) (by omega) x0 x1 x3 s _ hq16) (by omega) wm_X3_cornersBy wi_X3_cornersBy wv_X3_cornersBy km_3_202 (kk_ok c17) (Nat.le_of_ble_eq_true rfl) rfl rfl rfl (Nat.le_of_ble_eq_true rfl) ⟨Nat.le_of_ble_eq_true rfl, Nat.le_of_ble_eq_true rfl⟩ (by decide +kernel) ?_
          show Ev l d mi_X3_forcedBy 88 [some (.ref x0), some (.int x1), some (.int x2), some (.int x3)] [.int q16.1] (hp q16.2) 0 0 _
          refine Ev.if_eq (off := 5) (tgt := 93) (by decide +kernel) (by decide) (fun b18 => ?_) (fun b18 => ?_)
          · have hf := (if_pos b18).symm.trans hf
            refine Ev.blk (pc' := 96) [(.iinc 3 1, 0, 0, 0)] (by decide +kernel) trivial rfl (And.intro (Nat.le_of_ble_eq_true rfl) (?_))
            show Ev l d mi_X3_forcedBy 96 [some (.ref x0), some (.int x1), some (.int x2), some (.int (x3 + Int32.ofInt 1))] [] (hp q16.2) 0 0 _
            refine Ev.goto (off := -32) (tgt := 64) (by decide +kernel) (by decide) ?_
            exact ih x0 x1 x2 (x3 + Int32.ofInt 1) q16.2 _ hf
          · have hf := (if_neg b18).symm.trans hf
            refine Ev.blk (pc' := 92) [(.iconst 2, 0, 0, 0)] (by decide +kernel) trivial rfl (?_)
            show Ev l d mi_X3_forcedBy 92 [some (.ref x0), some (.int x1), some (.int x2), some (.int x3)] [.int (Int32.ofInt 2)] (hp q16.2) 0 0 _
            cases hf
            exact Ev.iret .int rfl rfl (by decide +kernel) (Nat.le_refl _) (Nat.le_refl _)
def f_X3_forcedBy_j61 (k22 : Nat → Int32 → ST → Option (Int32 × ST)) (x0 : Nat) (x1 : Int32) (y0 : Int32) (s : ST) : Option (Int32 × ST) := (f_X3_forcedBy_L64 k22 fuel) x0 x1 y0 (Int32.ofInt 0) s
set_option maxHeartbeats 2000000 in
set_option maxRecDepth 20000 in
theorem e_X3_forcedBy_j61 {l : Launch} {d : Nat} (hd : 6 ≤ d) (k22 : Nat → Int32 → ST → Option (Int32 × ST)) (hk22 : ∀ (x0 : Nat) (x1 : Int32) (s : ST) (r : Int32 × ST), k22 x0 x1 s = some r → Ev l d mi_X3_forcedBy 22 [some (.ref x0), some (.int x1), none, none] [] (hp s) 0 0 (some (.int r.1), hp r.2)) (x0 : Nat) (x1 : Int32) (y0 : Int32) (s : ST) (r : Int32 × ST) (hf : f_X3_forcedBy_j61 k22 x0 x1 y0 s = some r) : Ev l d mi_X3_forcedBy 61 [some (.ref x0), some (.int x1), none, none] [.int y0] (hp s) 0 0 (some (.int r.1), hp r.2) := by
  unfold f_X3_forcedBy_j61 at hf
  refine Ev.blk (pc' := 64) [(.istore_n 2, 0, 0, 0), (.iconst 0, 0, 0, 0), (.istore_n 3, 0, 0, 0)] (by decide +kernel) trivial rfl (And.intro (Nat.le_of_ble_eq_true rfl) (And.intro (Nat.le_of_ble_eq_true rfl) (?_)))
  show Ev l d mi_X3_forcedBy 64 [some (.ref x0), some (.int x1), some (.int y0), some (.int (Int32.ofInt 0))] [] (hp s) 0 0 _
  exact (e_X3_forcedBy_L64 hd k22 hk22 fuel) x0 x1 y0 (Int32.ofInt 0) s _ hf
def f_X3_forcedBy_L22 : Nat → Nat → Int32 → ST → Option (Int32 × ST)
  | 0, _, _, _ => none
  | n + 1, x0, x1, s => gd (kk x0 3) ((if (s.1 x0 9) = 0 then (RR s.2.2 x0 0).bind (fun a7 => gd (kk a7 4) ((if (s.1 a7 8) ≤ x1 then some ((Int32.ofInt (-1)), s) else (f_X3_isOut x0 x1 (s.1 x0 2) s).bind (fun q10 => (if q10.1 = 0 then (f_X3_forcedBy_j61 (f_X3_forcedBy_L22 n)) x0 x1 (Int32.ofInt 0) q10.2 else (f_X3_goals x0 x1 q10.2).bind (fun q12 => (f_X3_forcedBy_j61 (f_X3_forcedBy_L22 n)) x0 x1 q12.1 q12.2)))))) else some ((Int32.ofInt (-1)), s)))
set_option maxHeartbeats 2000000 in
set_option maxRecDepth 20000 in
theorem e_X3_forcedBy_L22 {l : Launch} {d : Nat} (hd : 6 ≤ d) : ∀ (n : Nat) (x0 : Nat) (x1 : Int32) (s : ST) (r : Int32 × ST), f_X3_forcedBy_L22 n x0 x1 s = some r → Ev l d mi_X3_forcedBy 22 [some (.ref x0), some (.int x1), none, none] [] (hp s) 0 0 (some (.int r.1), hp r.2) := by
  intro n
  induction n with
  | zero =>
    intro x0 x1 s r hf
    cases hf
  | succ n ih =>
    intro x0 x1 s r hf
    unfold f_X3_forcedBy_L22 at hf
    obtain ⟨c5, hf⟩ := gd_some hf
    refine Ev.blk (pc' := 26) [(.aload_n 0, 0, 0, 0), (.getfield 37, 0, 3, 9)] (by decide +kernel) ⟨kf_3_37, trivial⟩ rfl (And.intro (kk_ok c5) (?_))
    show Ev l d mi_X3_forcedBy 26 [some (.ref x0), some (.int x1), none, none] [.int (s.1 x0 9)] (hp s) 0 0 _
    refine Ev.if_ne (off := 79) (tgt := 105) (by decide +kernel) (by decide) (fun b6 => ?_) (fun b6 => ?_)
    · have hf := (if_neg b6).symm.trans hf
      refine Ev.blk (pc' := 106) [(.iconst (-1), 0, 0, 0)] (by decide +kernel) trivial rfl (?_)
      show Ev l d mi_X3_forcedBy 106 [some (.ref x0), some (.int x1), none, none] [.int (Int32.ofInt (-1))] (hp s) 0 0 _
      cases hf
      exact Ev.iret .int rfl rfl (by decide +kernel) (Nat.le_refl _) (Nat.le_refl _)
    · have hf := (if_pos b6).symm.trans hf
      obtain ⟨a7, ha7, hf⟩ := bd_some hf
      obtain ⟨c8, hf⟩ := gd_some hf
      refine Ev.blk (pc' := 37) [(.iload_n 1, 0, 0, 0), (.aload_n 0, 0, 0, 0), (.getfield 56, 0, 3, 0), (.getfield 66, 0, 4, 8)] (by decide +kernel) ⟨kf_3_56, ⟨kf_3_66, trivial⟩⟩ rfl (And.intro (kk_ok c5) (Exists.intro a7 (And.intro ha7 (And.intro (kk_ok c8) (?_)))))
      show Ev l d mi_X3_forcedBy 37 [some (.ref x0), some (.int x1), none, none] [.int (s.1 a7 8), .int x1] (hp s) 0 0 _
      refine Ev.icmp_ge (off := 68) (tgt := 105) (by decide +kernel) (by decide) (fun b9 => ?_) (fun b9 => ?_)
      · have hf := (if_pos b9).symm.trans hf
        refine Ev.blk (pc' := 106) [(.iconst (-1), 0, 0, 0)] (by decide +kernel) trivial rfl (?_)
        show Ev l d mi_X3_forcedBy 106 [some (.ref x0), some (.int x1), none, none] [.int (Int32.ofInt (-1))] (hp s) 0 0 _
        cases hf
        exact Ev.iret .int rfl rfl (by decide +kernel) (Nat.le_refl _) (Nat.le_refl _)
      · have hf := (if_neg b9).symm.trans hf
        refine Ev.blk (pc' := 46) [(.aload_n 0, 0, 0, 0), (.iload_n 1, 0, 0, 0), (.aload_n 0, 0, 0, 0), (.getfield 15, 0, 3, 2)] (by decide +kernel) ⟨kf_3_15, trivial⟩ rfl (And.intro (kk_ok c5) (?_))
        show Ev l d mi_X3_forcedBy 46 [some (.ref x0), some (.int x1), none, none] [.int (s.1 x0 2), .int x1, .ref x0] (hp s) 0 0 _
        obtain ⟨q10, hq10, hf⟩ := bd_some hf
        refine Ev.callV (o := x0) (M' := mi_X3_isOut) (d' := d - 1) (As := [.int x1, .int (s.1 x0 2)]) (rest := []) (r' := (some (.int q10.1), hp q10.2)) (e_X3_isOut (d := d - 1) (by omega) x0 x1 (s.1 x0 2) s _ hq10) (by omega) wm_X3_isOut wi_X3_isOut wv_X3_isOut km_3_102 (kk_ok c5) (Nat.le_of_ble_eq_true rfl) rfl rfl rfl (Nat.le_of_ble_eq_true rfl) ⟨Nat.le_of_ble_eq_true rfl, Nat.le_of_ble_eq_true rfl⟩ (by decide +kernel) ?_
        show Ev l d mi_X3_forcedBy 49 [some (.ref x0), some (.int x1), none, none] [.int q10.1] (hp q10.2) 0 0 _
        refine Ev.if_eq (off := 11) (tgt := 60) (by decide +kernel) (by decide) (fun b11 => ?_) (fun b11 => ?_)
        · have hf := (if_pos b11).symm.trans hf
          refine Ev.blk (pc' := 61) [(.iconst 0, 0, 0, 0)] (by decide +kernel) trivial rfl (?_)
          show Ev l d mi_X3_forcedBy 61 [some (.ref x0), some (.int x1), none, none] [.int (Int32.ofInt 0)] (hp q10.2) 0 0 _
          exact (e_X3_forcedBy_j61 hd (f_X3_forcedBy_L22 n) ih) x0 x1 (Int32.ofInt 0) q10.2 _ hf
        · have hf := (if_neg b11).symm.trans hf
          refine Ev.blk (pc' := 54) [(.aload_n 0, 0, 0, 0), (.iload_n 1, 0, 0, 0)] (by decide +kernel) trivial rfl (?_)
          show Ev l d mi_X3_forcedBy 54 [some (.ref x0), some (.int x1), none, none] [.int x1, .ref x0] (hp q10.2) 0 0 _
          obtain ⟨q12, hq12, hf⟩ := bd_some hf
          refine Ev.callV (o := x0) (M' := mi_X3_goals) (d' := d - 1) (As := [.int x1]) (rest := []) (r' := (some (.int q12.1), hp q12.2)) (e_X3_goals (d := d - 1) (by omega) x0 x1 q10.2 _ hq12) (by omega) wm_X3_goals wi_X3_goals wv_X3_goals km_3_143 (kk_ok c5) (Nat.le_of_ble_eq_true rfl) rfl rfl rfl (Nat.le_of_ble_eq_true rfl) ⟨Nat.le_of_ble_eq_true rfl, Nat.le_of_ble_eq_true rfl⟩ (by decide +kernel) ?_
          show Ev l d mi_X3_forcedBy 57 [some (.ref x0), some (.int x1), none, none] [.int q12.1] (hp q12.2) 0 0 _
          refine Ev.goto (off := 4) (tgt := 61) (by decide +kernel) (by decide) ?_
          exact (e_X3_forcedBy_j61 hd (f_X3_forcedBy_L22 n) ih) x0 x1 q12.1 q12.2 _ hf
def f_X3_forcedBy_j20 (x0 : Nat) (s : ST) : Option (Int32 × ST) := (f_X3_forcedBy_L22 fuel) x0 (Int32.ofInt 0) s
set_option maxHeartbeats 2000000 in
set_option maxRecDepth 20000 in
theorem e_X3_forcedBy_j20 {l : Launch} {d : Nat} (hd : 6 ≤ d) (x0 : Nat) (s : ST) (r : Int32 × ST) (hf : f_X3_forcedBy_j20 x0 s = some r) : Ev l d mi_X3_forcedBy 20 [some (.ref x0), none, none, none] [] (hp s) 0 0 (some (.int r.1), hp r.2) := by
  unfold f_X3_forcedBy_j20 at hf
  refine Ev.blk (pc' := 22) [(.iconst 0, 0, 0, 0), (.istore_n 1, 0, 0, 0)] (by decide +kernel) trivial rfl (And.intro (Nat.le_of_ble_eq_true rfl) (?_))
  show Ev l d mi_X3_forcedBy 22 [some (.ref x0), some (.int (Int32.ofInt 0)), none, none] [] (hp s) 0 0 _
  exact (e_X3_forcedBy_L22 hd fuel) x0 (Int32.ofInt 0) s _ hf
def f_X3_forcedBy (o : Nat) (s : ST) : Option (Int32 × ST) := gd (kk o 3) ((if (s.1 o 9) = 0 then (f_X3_threatens o (s.1 o 2) s).bind (fun q3 => (if q3.1 = 0 then f_X3_forcedBy_j20 o q3.2 else some ((Int32.ofInt 1), q3.2))) else f_X3_forcedBy_j20 o s))
set_option maxHeartbeats 2000000 in
set_option maxRecDepth 20000 in
theorem e_X3_forcedBy {l : Launch} {d : Nat} (hd : 6 ≤ d) (o : Nat) (s : ST) (r : Int32 × ST) (hf : f_X3_forcedBy o s = some r) : Cl l d mi_X3_forcedBy [.ref o] (hp s) (some (.int r.1), hp r.2) := by
  refine Ev.entry (by decide +kernel) rfl rfl ?_
  show Ev l d mi_X3_forcedBy 0 [some (.ref o), none, none, none] [] (hp s) 0 0 _
  unfold f_X3_forcedBy at hf
  obtain ⟨c1, hf⟩ := gd_some hf
  refine Ev.blk (pc' := 4) [(.aload_n 0, 0, 0, 0), (.getfield 37, 0, 3, 9)] (by decide +kernel) ⟨kf_3_37, trivial⟩ rfl (And.intro (kk_ok c1) (?_))
  show Ev l d mi_X3_forcedBy 4 [some (.ref o), none, none, none] [.int (s.1 o 9)] (hp s) 0 0 _
  refine Ev.if_ne (off := 16) (tgt := 20) (by decide +kernel) (by decide) (fun b2 => ?_) (fun b2 => ?_)
  · have hf := (if_neg b2).symm.trans hf
    exact (e_X3_forcedBy_j20 hd) o s _ hf
  · have hf := (if_pos b2).symm.trans hf
    refine Ev.blk (pc' := 12) [(.aload_n 0, 0, 0, 0), (.aload_n 0, 0, 0, 0), (.getfield 15, 0, 3, 2)] (by decide +kernel) ⟨kf_3_15, trivial⟩ rfl (And.intro (kk_ok c1) (?_))
    show Ev l d mi_X3_forcedBy 12 [some (.ref o), none, none, none] [.int (s.1 o 2), .ref o] (hp s) 0 0 _
    obtain ⟨q3, hq3, hf⟩ := bd_some hf
    refine Ev.callV (o := o) (M' := mi_X3_threatens) (d' := d - 1) (As := [.int (s.1 o 2)]) (rest := []) (r' := (some (.int q3.1), hp q3.2)) (e_X3_threatens (d := d - 1) (by omega) o (s.1 o 2) s _ hq3) (by omega) wm_X3_threatens wi_X3_threatens wv_X3_threatens km_3_199 (kk_ok c1) (Nat.le_of_ble_eq_true rfl) rfl rfl rfl (Nat.le_of_ble_eq_true rfl) ⟨Nat.le_of_ble_eq_true rfl, Nat.le_of_ble_eq_true rfl⟩ (by decide +kernel) ?_
    show Ev l d mi_X3_forcedBy 15 [some (.ref o), none, none, none] [.int q3.1] (hp q3.2) 0 0 _
    refine Ev.if_eq (off := 5) (tgt := 20) (by decide +kernel) (by decide) (fun b4 => ?_) (fun b4 => ?_)
    · have hf := (if_pos b4).symm.trans hf
      exact (e_X3_forcedBy_j20 hd) o q3.2 _ hf
    · have hf := (if_neg b4).symm.trans hf
      refine Ev.blk (pc' := 19) [(.iconst 1, 0, 0, 0)] (by decide +kernel) trivial rfl (?_)
      show Ev l d mi_X3_forcedBy 19 [some (.ref o), none, none, none] [.int (Int32.ofInt 1)] (hp q3.2) 0 0 _
      cases hf
      exact Ev.iret .int rfl rfl (by decide +kernel) (Nat.le_refl _) (Nat.le_refl _)
