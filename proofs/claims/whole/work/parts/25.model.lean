/-! THE REFERENCE: functions and proofs, by program (wip/gen_model.py): X10_tend X10_days X10_seed X10_drawOf X10_chance X10_qFact X10_qHasSquare X10_qDropsNots X10_qGoesOnTest X10_qTest X10_qOf X10_qTold X10_qKind X10_qTakes X10_ask X10_checked X10_writes X10_image X10_octet X10_isImage X10_on X10_status -/
def f_X10_tend_j64 (x1 : Int32) (y1 : Int32) (y2 : Int32) (s : ST) : Option (Int32 × ST) := gd (ib y1 225) (gd (ib (((Int8.ofInt 18).toInt32) + x1) 225) (lt (uI s 112 y1.toNatClampNeg y2) (fun s12 => some ((s12.1 112 (((Int8.ofInt 18).toInt32) + x1).toNatClampNeg), s12))))
set_option maxHeartbeats 2000000 in
set_option maxRecDepth 20000 in
theorem e_X10_tend_j64 {l : Launch} {d : Nat} (hd : 3 ≤ d) (x1 : Int32) (y1 : Int32) (y2 : Int32) (s : ST) (r : Int32 × ST) (hf : f_X10_tend_j64 x1 y1 y2 s = some r) : Ev l d mi_X10_tend 64 [some (.ref 65), some (.int x1), none, none] [.int y2, .int y1, .ref 112] (hp s) 0 0 (some (.int r.1), hp r.2) := by
  unfold f_X10_tend_j64 at hf
  obtain ⟨c10, hf⟩ := gd_some hf
  obtain ⟨c11, hf⟩ := gd_some hf
  obtain ⟨s12, hs12, hf⟩ := lt_some hf
  refine Ev.blk (pc' := 74) [(.iastore, 0, 0, 0), (.aload_n 0, 0, 0, 0), (.getfield 154, 0, 10, 62), (.bipush 18, 0, 0, 0), (.iload_n 1, 0, 0, 0), (.iadd, 0, 0, 0), (.iaload, 0, 0, 0)] (by decide +kernel) ⟨kf_10_154, trivial⟩ rfl (And.intro (kc rfl rfl) (And.intro (ib_ok c10) (And.intro (kc rfl rfl) (Exists.intro 112 (And.intro rfl (And.intro (kc rfl rfl) (And.intro (ib_ok c11) (?_))))))))
  show Ev l d mi_X10_tend 74 [some (.ref 65), some (.int x1), none, none] [.int ((uI s 112 y1.toNatClampNeg y2).1 112 (((Int8.ofInt 18).toInt32) + x1).toNatClampNeg)] (hp (uI s 112 y1.toNatClampNeg y2)) 0 0 _
  rw [← hs12]
  cases hf
  exact Ev.iret .int rfl rfl (by decide +kernel) (Nat.le_refl _) (Nat.le_refl _)
def f_X10_tend_j20 (s : ST) : Option (Int32 × ST) := (f_X10_refuses (Int32.ofInt 2) s).bind (fun q9 => some (q9.1, q9.2))
set_option maxHeartbeats 2000000 in
set_option maxRecDepth 20000 in
theorem e_X10_tend_j20 {l : Launch} {d : Nat} (hd : 3 ≤ d) (s : ST) (r : Int32 × ST) (hf : f_X10_tend_j20 s = some r) : Ev l d mi_X10_tend 20 [some (.ref 65), none, none, none] [] (hp s) 0 0 (some (.int r.1), hp r.2) := by
  unfold f_X10_tend_j20 at hf
  refine Ev.blk (pc' := 22) [(.aload_n 0, 0, 0, 0), (.iconst 2, 0, 0, 0)] (by decide +kernel) trivial rfl (?_)
  show Ev l d mi_X10_tend 22 [some (.ref 65), none, none, none] [.int (Int32.ofInt 2), .ref 65] (hp s) 0 0 _
  obtain ⟨q9, hq9, hf⟩ := bd_some hf
  refine Ev.callV (o := 65) (M' := mi_X10_refuses) (d' := d - 1) (As := [.int (Int32.ofInt 2)]) (rest := []) (r' := (some (.int q9.1), hp q9.2)) (e_X10_refuses (d := d - 1) (by omega) (Int32.ofInt 2) s _ hq9) (by omega) wm_X10_refuses wi_X10_refuses wv_X10_refuses km_10_639 (kc rfl rfl) (Nat.le_of_ble_eq_true rfl) rfl rfl rfl (Nat.le_of_ble_eq_true rfl) ⟨Nat.le_of_ble_eq_true rfl, Nat.le_of_ble_eq_true rfl⟩ (by decide +kernel) ?_
  show Ev l d mi_X10_tend 25 [some (.ref 65), none, none, none] [.int q9.1] (hp q9.2) 0 0 _
  cases hf
  exact Ev.iret .int rfl rfl (by decide +kernel) (Nat.le_refl _) (Nat.le_refl _)
def f_X10_tend (p0 : Int32) (p1 : Int32) (s : ST) : Option (Int32 × ST) := (f_X10_isField p0 s).bind (fun q1 => (if q1.1 = 0 then f_X10_tend_j20 q1.2 else (f_X10_isIn ((p1).toInt64) (Int64.ofNat ((1 : Fin 2) : Nat)) (Int64.ofInt 99) q1.2).bind (fun q3 => (if q3.1 = 0 then f_X10_tend_j20 q3.2 else (f_X10_keeps q3.2).bind (fun q5 => gd (ib (((Int8.ofInt 18).toInt32) + p0) 225) (lt ((q5.1 112 (((Int8.ofInt 18).toInt32) + p0).toNatClampNeg) + p1) (fun v7 => (if v7 ≤ ((Int16.ofInt 999).toInt32) then f_X10_tend_j64 p0 (((Int8.ofInt 18).toInt32) + p0) v7 q5 else f_X10_tend_j64 p0 (((Int8.ofInt 18).toInt32) + p0) ((Int16.ofInt 999).toInt32) q5))))))))
set_option maxHeartbeats 2000000 in
set_option maxRecDepth 20000 in
theorem e_X10_tend {l : Launch} {d : Nat} (hd : 3 ≤ d) (p0 : Int32) (p1 : Int32) (s : ST) (r : Int32 × ST) (hf : f_X10_tend p0 p1 s = some r) : Cl l d mi_X10_tend [.ref 65, .int p0, .int p1] (hp s) (some (.int r.1), hp r.2) := by
  refine Ev.entry (by decide +kernel) rfl rfl ?_
  show Ev l d mi_X10_tend 0 [some (.ref 65), some (.int p0), some (.int p1), none] [] (hp s) 0 0 _
  unfold f_X10_tend at hf
  refine Ev.blk (pc' := 2) [(.aload_n 0, 0, 0, 0), (.iload_n 1, 0, 0, 0)] (by decide +kernel) trivial rfl (?_)
  show Ev l d mi_X10_tend 2 [some (.ref 65), some (.int p0), some (.int p1), none] [.int p0, .ref 65] (hp s) 0 0 _
  obtain ⟨q1, hq1, hf⟩ := bd_some hf
  refine Ev.callV (o := 65) (M' := mi_X10_isField) (d' := d - 1) (As := [.int p0]) (rest := []) (r' := (some (.int q1.1), hp q1.2)) (e_X10_isField (d := d - 1) (by omega) p0 s _ hq1) (by omega) wm_X10_isField wi_X10_isField wv_X10_isField km_10_602 (kc rfl rfl) (Nat.le_of_ble_eq_true rfl) rfl rfl rfl (Nat.le_of_ble_eq_true rfl) ⟨Nat.le_of_ble_eq_true rfl, Nat.le_of_ble_eq_true rfl⟩ (by decide +kernel) ?_
  show Ev l d mi_X10_tend 5 [some (.ref 65), some (.int p0), some (.int p1), none] [.int q1.1] (hp q1.2) 0 0 _
  refine Ev.if_eq (off := 15) (tgt := 20) (by decide +kernel) (by decide) (fun b2 => ?_) (fun b2 => ?_)
  · have hf := (if_pos b2).symm.trans hf
    exact Ev.wk ((e_X10_tend_j20 hd) q1.2 _ hf) (And.intro (Or.inr rfl) (And.intro (Or.inl rfl) (And.intro (Or.inl rfl) (And.intro (Or.inr rfl) (trivial)))))
  · have hf := (if_neg b2).symm.trans hf
    refine Ev.blk (pc' := 14) [(.iload_n 2, 0, 0, 0), (.i2l, 0, 0, 0), (.lconst 1, 0, 0, 0), (.ldc2_w 666, 99, 0, 0)] (by decide +kernel) ⟨kl_10_666, trivial⟩ rfl (?_)
    show Ev l d mi_X10_tend 14 [some (.ref 65), some (.int p0), some (.int p1), none] [.long (Int64.ofInt 99), .long (Int64.ofNat ((1 : Fin 2) : Nat)), .long (p1).toInt64] (hp q1.2) 0 0 _
    obtain ⟨q3, hq3, hf⟩ := bd_some hf
    refine Ev.callS (M' := mi_X10_isIn) (d' := d - 1) (As := [.long (p1).toInt64, .long (Int64.ofNat ((1 : Fin 2) : Nat)), .long (Int64.ofInt 99)]) (rest := []) (r' := (some (.int q3.1), hp q3.2)) (e_X10_isIn (d := d - 1) (by omega) ((p1).toInt64) (Int64.ofNat ((1 : Fin 2) : Nat)) (Int64.ofInt 99) q1.2 _ hq3) (by omega) wm_X10_isIn wt_X10_isIn km_10_321 rfl rfl rfl (Nat.le_of_ble_eq_true rfl) ⟨Nat.le_of_ble_eq_true rfl, Nat.le_of_ble_eq_true rfl⟩ (by decide +kernel) ?_
    show Ev l d mi_X10_tend 17 [some (.ref 65), some (.int p0), some (.int p1), none] [.int q3.1] (hp q3.2) 0 0 _
    refine Ev.if_ne (off := 9) (tgt := 26) (by decide +kernel) (by decide) (fun b4 => ?_) (fun b4 => ?_)
    · have hf := (if_neg b4).symm.trans hf
      refine Ev.blk (pc' := 27) [(.aload_n 0, 0, 0, 0)] (by decide +kernel) trivial rfl (?_)
      show Ev l d mi_X10_tend 27 [some (.ref 65), some (.int p0), some (.int p1), none] [.ref 65] (hp q3.2) 0 0 _
      obtain ⟨q5, hq5, hf⟩ := bd_some hf
      refine Ev.callV (o := 65) (M' := mi_X10_keeps) (d' := d - 1) (As := []) (rest := []) (r' := (none, hp q5)) (e_X10_keeps (d := d - 1) (by omega) q3.2 _ hq5) (by omega) wm_X10_keeps wi_X10_keeps wv_X10_keeps km_10_663 (kc rfl rfl) (Nat.le_of_ble_eq_true rfl) rfl rfl rfl (Nat.le_of_ble_eq_true rfl) ⟨Nat.le_of_ble_eq_true rfl, Nat.le_of_ble_eq_true rfl⟩ (by decide +kernel) ?_
      show Ev l d mi_X10_tend 30 [some (.ref 65), some (.int p0), some (.int p1), none] [] (hp q5) 0 0 _
      obtain ⟨c6, hf⟩ := gd_some hf
      obtain ⟨v7, hv7, hf⟩ := lt_some hf
      refine Ev.blk (pc' := 54) [(.aload_n 0, 0, 0, 0), (.getfield 154, 0, 10, 62), (.bipush 18, 0, 0, 0), (.iload_n 1, 0, 0, 0), (.iadd, 0, 0, 0), (.iaload, 0, 0, 0), (.iload_n 2, 0, 0, 0), (.iadd, 0, 0, 0), (.istore_n 3, 0, 0, 0), (.aload_n 0, 0, 0, 0), (.getfield 154, 0, 10, 62), (.bipush 18, 0, 0, 0), (.iload_n 1, 0, 0, 0), (.iadd, 0, 0, 0), (.iload_n 3, 0, 0, 0), (.sipush 999, 0, 0, 0)] (by decide +kernel) ⟨kf_10_154, ⟨kf_10_154, trivial⟩⟩ rfl (And.intro (kc rfl rfl) (Exists.intro 112 (And.intro rfl (And.intro (kc rfl rfl) (And.intro (ib_ok c6) (And.intro (Nat.le_of_ble_eq_true rfl) (And.intro (kc rfl rfl) (Exists.intro 112 (And.intro rfl (?_))))))))))
      show Ev l d mi_X10_tend 54 [some (.ref 65), some (.int p0), some (.int p1), some (.int ((q5.1 112 (((Int8.ofInt 18).toInt32) + p0).toNatClampNeg) + p1))] [.int ((Int16.ofInt 999).toInt32), .int ((q5.1 112 (((Int8.ofInt 18).toInt32) + p0).toNatClampNeg) + p1), .int (((Int8.ofInt 18).toInt32) + p0), .ref 112] (hp q5) 0 0 _
      rw [← hv7]
      refine Ev.icmp_le (off := 9) (tgt := 63) (by decide +kernel) (by decide) (fun b8 => ?_) (fun b8 => ?_)
      · have hf := (if_pos b8).symm.trans hf
        refine Ev.blk (pc' := 64) [(.iload_n 3, 0, 0, 0)] (by decide +kernel) trivial rfl (?_)
        show Ev l d mi_X10_tend 64 [some (.ref 65), some (.int p0), some (.int p1), some (.int v7)] [.int v7, .int (((Int8.ofInt 18).toInt32) + p0), .ref 112] (hp q5) 0 0 _
        exact Ev.wk ((e_X10_tend_j64 hd) p0 (((Int8.ofInt 18).toInt32) + p0) v7 q5 _ hf) (And.intro (Or.inr rfl) (And.intro (Or.inr rfl) (And.intro (Or.inl rfl) (And.intro (Or.inl rfl) (trivial)))))
      · have hf := (if_neg b8).symm.trans hf
        refine Ev.blk (pc' := 60) [(.sipush 999, 0, 0, 0)] (by decide +kernel) trivial rfl (?_)
        show Ev l d mi_X10_tend 60 [some (.ref 65), some (.int p0), some (.int p1), some (.int v7)] [.int ((Int16.ofInt 999).toInt32), .int (((Int8.ofInt 18).toInt32) + p0), .ref 112] (hp q5) 0 0 _
        refine Ev.goto (off := 4) (tgt := 64) (by decide +kernel) (by decide) ?_
        exact Ev.wk ((e_X10_tend_j64 hd) p0 (((Int8.ofInt 18).toInt32) + p0) ((Int16.ofInt 999).toInt32) q5 _ hf) (And.intro (Or.inr rfl) (And.intro (Or.inr rfl) (And.intro (Or.inl rfl) (And.intro (Or.inl rfl) (trivial)))))
    · have hf := (if_pos b4).symm.trans hf
      exact Ev.wk ((e_X10_tend_j20 hd) q3.2 _ hf) (And.intro (Or.inr rfl) (And.intro (Or.inl rfl) (And.intro (Or.inl rfl) (And.intro (Or.inr rfl) (trivial)))))
def f_X10_days_j45 (k25 : Int32 → Int32 → Int32 → ST → Option (Int32 × ST)) (x1 : Int32) (x2 : Int32) (x3 : Int32) (s : ST) : Option (Int32 × ST) := (f_X10_dayGoes s).bind (fun q8 => k25 x1 x2 (x3 + Int32.ofInt 1) q8)
set_option maxHeartbeats 2000000 in
set_option maxRecDepth 20000 in
theorem e_X10_days_j45 {l : Launch} {d : Nat} (hd : 11 ≤ d) (k25 : Int32 → Int32 → Int32 → ST → Option (Int32 × ST)) (hk25 : ∀ (x1 : Int32) (x2 : Int32) (x3 : Int32) (s : ST) (r : Int32 × ST), k25 x1 x2 x3 s = some r → Ev l d mi_X10_days 25 [some (.ref 65), some (.int x1), some (.int x2), some (.int x3)] [] (hp s) 0 0 (some (.int r.1), hp r.2)) (x1 : Int32) (x2 : Int32) (x3 : Int32) (s : ST) (r : Int32 × ST) (hf : f_X10_days_j45 k25 x1 x2 x3 s = some r) : Ev l d mi_X10_days 45 [some (.ref 65), some (.int x1), some (.int x2), some (.int x3)] [] (hp s) 0 0 (some (.int r.1), hp r.2) := by
  unfold f_X10_days_j45 at hf
  refine Ev.blk (pc' := 46) [(.aload_n 0, 0, 0, 0)] (by decide +kernel) trivial rfl (?_)
  show Ev l d mi_X10_days 46 [some (.ref 65), some (.int x1), some (.int x2), some (.int x3)] [.ref 65] (hp s) 0 0 _
  obtain ⟨q8, hq8, hf⟩ := bd_some hf
  refine Ev.callV (o := 65) (M' := mi_X10_dayGoes) (d' := d - 1) (As := []) (rest := []) (r' := (none, hp q8)) (e_X10_dayGoes (d := d - 1) (by omega) s _ hq8) (by omega) wm_X10_dayGoes wi_X10_dayGoes wv_X10_dayGoes km_10_578 (kc rfl rfl) (Nat.le_of_ble_eq_true rfl) rfl rfl rfl (Nat.le_of_ble_eq_true rfl) ⟨Nat.le_of_ble_eq_true rfl, Nat.le_of_ble_eq_true rfl⟩ (by decide +kernel) ?_
  show Ev l d mi_X10_days 49 [some (.ref 65), some (.int x1), some (.int x2), some (.int x3)] [] (hp q8) 0 0 _
  refine Ev.blk (pc' := 52) [(.iinc 3 1, 0, 0, 0)] (by decide +kernel) trivial rfl (And.intro (Nat.le_of_ble_eq_true rfl) (?_))
  show Ev l d mi_X10_days 52 [some (.ref 65), some (.int x1), some (.int x2), some (.int (x3 + Int32.ofInt 1))] [] (hp q8) 0 0 _
  refine Ev.goto (off := -27) (tgt := 25) (by decide +kernel) (by decide) ?_
  exact hk25 x1 x2 (x3 + Int32.ofInt 1) q8 _ hf
def f_X10_days_L25 : Nat → Int32 → Int32 → Int32 → ST → Option (Int32 × ST)
  | 0, _, _, _, _ => none
  | n + 1, x1, x2, x3, s => (if x1 ≤ x3 then some (x2, s) else (f_X10_choosesToday s).bind (fun q6 => (if (q6.1 65 68) = (Int32.ofInt (-1)) then (f_X10_days_j45 (f_X10_days_L25 n)) x1 x2 x3 q6 else (f_X10_days_j45 (f_X10_days_L25 n)) x1 (x2 + Int32.ofInt 1) x3 q6)))
set_option maxHeartbeats 2000000 in
set_option maxRecDepth 20000 in
theorem e_X10_days_L25 {l : Launch} {d : Nat} (hd : 11 ≤ d) : ∀ (n : Nat) (x1 : Int32) (x2 : Int32) (x3 : Int32) (s : ST) (r : Int32 × ST), f_X10_days_L25 n x1 x2 x3 s = some r → Ev l d mi_X10_days 25 [some (.ref 65), some (.int x1), some (.int x2), some (.int x3)] [] (hp s) 0 0 (some (.int r.1), hp r.2) := by
  intro n
  induction n with
  | zero =>
    intro x1 x2 x3 s r hf
    cases hf
  | succ n ih =>
    intro x1 x2 x3 s r hf
    unfold f_X10_days_L25 at hf
    refine Ev.blk (pc' := 27) [(.iload_n 3, 0, 0, 0), (.iload_n 1, 0, 0, 0)] (by decide +kernel) trivial rfl (?_)
    show Ev l d mi_X10_days 27 [some (.ref 65), some (.int x1), some (.int x2), some (.int x3)] [.int x1, .int x3] (hp s) 0 0 _
    refine Ev.icmp_ge (off := 28) (tgt := 55) (by decide +kernel) (by decide) (fun b5 => ?_) (fun b5 => ?_)
    · have hf := (if_pos b5).symm.trans hf
      refine Ev.blk (pc' := 56) [(.iload_n 2, 0, 0, 0)] (by decide +kernel) trivial rfl (?_)
      show Ev l d mi_X10_days 56 [some (.ref 65), some (.int x1), some (.int x2), some (.int x3)] [.int x2] (hp s) 0 0 _
      cases hf
      exact Ev.iret .int rfl rfl (by decide +kernel) (Nat.le_refl _) (Nat.le_refl _)
    · have hf := (if_neg b5).symm.trans hf
      refine Ev.blk (pc' := 31) [(.aload_n 0, 0, 0, 0)] (by decide +kernel) trivial rfl (?_)
      show Ev l d mi_X10_days 31 [some (.ref 65), some (.int x1), some (.int x2), some (.int x3)] [.ref 65] (hp s) 0 0 _
      obtain ⟨q6, hq6, hf⟩ := bd_some hf
      refine Ev.callV (o := 65) (M' := mi_X10_choosesToday) (d' := d - 1) (As := []) (rest := []) (r' := (none, hp q6)) (e_X10_choosesToday (d := d - 1) (by omega) s _ hq6) (by omega) wm_X10_choosesToday wi_X10_choosesToday wv_X10_choosesToday km_10_575 (kc rfl rfl) (Nat.le_of_ble_eq_true rfl) rfl rfl rfl (Nat.le_of_ble_eq_true rfl) ⟨Nat.le_of_ble_eq_true rfl, Nat.le_of_ble_eq_true rfl⟩ (by decide +kernel) ?_
      show Ev l d mi_X10_days 34 [some (.ref 65), some (.int x1), some (.int x2), some (.int x3)] [] (hp q6) 0 0 _
      refine Ev.blk (pc' := 39) [(.aload_n 0, 0, 0, 0), (.getfield 515, 0, 10, 68), (.iconst (-1), 0, 0, 0)] (by decide +kernel) ⟨kf_10_515, trivial⟩ rfl (And.intro (kc rfl rfl) (?_))
      show Ev l d mi_X10_days 39 [some (.ref 65), some (.int x1), some (.int x2), some (.int x3)] [.int (Int32.ofInt (-1)), .int (q6.1 65 68)] (hp q6) 0 0 _
      refine Ev.icmp_eq (off := 6) (tgt := 45) (by decide +kernel) (by decide) (fun b7 => ?_) (fun b7 => ?_)
      · have hf := (if_pos b7).symm.trans hf
        exact (e_X10_days_j45 hd (f_X10_days_L25 n) ih) x1 x2 x3 q6 _ hf
      · have hf := (if_neg b7).symm.trans hf
        refine Ev.blk (pc' := 45) [(.iinc 2 1, 0, 0, 0)] (by decide +kernel) trivial rfl (And.intro (Nat.le_of_ble_eq_true rfl) (?_))
        show Ev l d mi_X10_days 45 [some (.ref 65), some (.int x1), some (.int (x2 + Int32.ofInt 1)), some (.int x3)] [] (hp q6) 0 0 _
        exact (e_X10_days_j45 hd (f_X10_days_L25 n) ih) x1 (x2 + Int32.ofInt 1) x3 q6 _ hf
def f_X10_days (p0 : Int32) (s : ST) : Option (Int32 × ST) := (f_X10_isAhead p0 (Int32.ofInt 1) ((Int8.ofInt 30).toInt32) s).bind (fun q1 => (if q1.1 = 0 then (f_X10_refuses (Int32.ofInt 3) q1.2).bind (fun q4 => some (q4.1, q4.2)) else (f_X10_keeps q1.2).bind (fun q3 => (f_X10_days_L25 fuel) p0 (Int32.ofInt 0) (Int32.ofInt 0) q3)))
set_option maxHeartbeats 2000000 in
set_option maxRecDepth 20000 in
theorem e_X10_days {l : Launch} {d : Nat} (hd : 11 ≤ d) (p0 : Int32) (s : ST) (r : Int32 × ST) (hf : f_X10_days p0 s = some r) : Cl l d mi_X10_days [.ref 65, .int p0] (hp s) (some (.int r.1), hp r.2) := by
  refine Ev.entry (by decide +kernel) rfl rfl ?_
  show Ev l d mi_X10_days 0 [some (.ref 65), some (.int p0), none, none] [] (hp s) 0 0 _
  unfold f_X10_days at hf
  refine Ev.blk (pc' := 5) [(.aload_n 0, 0, 0, 0), (.iload_n 1, 0, 0, 0), (.iconst 1, 0, 0, 0), (.bipush 30, 0, 0, 0)] (by decide +kernel) trivial rfl (?_)
  show Ev l d mi_X10_days 5 [some (.ref 65), some (.int p0), none, none] [.int ((Int8.ofInt 30).toInt32), .int (Int32.ofInt 1), .int p0, .ref 65] (hp s) 0 0 _
  obtain ⟨q1, hq1, hf⟩ := bd_some hf
  refine Ev.callV (o := 65) (M' := mi_X10_isAhead) (d' := d - 1) (As := [.int p0, .int (Int32.ofInt 1), .int ((Int8.ofInt 30).toInt32)]) (rest := []) (r' := (some (.int q1.1), hp q1.2)) (e_X10_isAhead (d := d - 1) (by omega) p0 (Int32.ofInt 1) ((Int8.ofInt 30).toInt32) s _ hq1) (by omega) wm_X10_isAhead wi_X10_isAhead wv_X10_isAhead km_10_618 (kc rfl rfl) (Nat.le_of_ble_eq_true rfl) rfl rfl rfl (Nat.le_of_ble_eq_true rfl) ⟨Nat.le_of_ble_eq_true rfl, Nat.le_of_ble_eq_true rfl⟩ (by decide +kernel) ?_
  show Ev l d mi_X10_days 8 [some (.ref 65), some (.int p0), none, none] [.int q1.1] (hp q1.2) 0 0 _
  refine Ev.if_ne (off := 9) (tgt := 17) (by decide +kernel) (by decide) (fun b2 => ?_) (fun b2 => ?_)
  · have hf := (if_neg b2).symm.trans hf
    refine Ev.blk (pc' := 18) [(.aload_n 0, 0, 0, 0)] (by decide +kernel) trivial rfl (?_)
    show Ev l d mi_X10_days 18 [some (.ref 65), some (.int p0), none, none] [.ref 65] (hp q1.2) 0 0 _
    obtain ⟨q3, hq3, hf⟩ := bd_some hf
    refine Ev.callV (o := 65) (M' := mi_X10_keeps) (d' := d - 1) (As := []) (rest := []) (r' := (none, hp q3)) (e_X10_keeps (d := d - 1) (by omega) q1.2 _ hq3) (by omega) wm_X10_keeps wi_X10_keeps wv_X10_keeps km_10_663 (kc rfl rfl) (Nat.le_of_ble_eq_true rfl) rfl rfl rfl (Nat.le_of_ble_eq_true rfl) ⟨Nat.le_of_ble_eq_true rfl, Nat.le_of_ble_eq_true rfl⟩ (by decide +kernel) ?_
    show Ev l d mi_X10_days 21 [some (.ref 65), some (.int p0), none, none] [] (hp q3) 0 0 _
    refine Ev.blk (pc' := 25) [(.iconst 0, 0, 0, 0), (.istore_n 2, 0, 0, 0), (.iconst 0, 0, 0, 0), (.istore_n 3, 0, 0, 0)] (by decide +kernel) trivial rfl (And.intro (Nat.le_of_ble_eq_true rfl) (And.intro (Nat.le_of_ble_eq_true rfl) (?_)))
    show Ev l d mi_X10_days 25 [some (.ref 65), some (.int p0), some (.int (Int32.ofInt 0)), some (.int (Int32.ofInt 0))] [] (hp q3) 0 0 _
    exact (e_X10_days_L25 hd fuel) p0 (Int32.ofInt 0) (Int32.ofInt 0) q3 _ hf
  · have hf := (if_pos b2).symm.trans hf
    refine Ev.blk (pc' := 13) [(.aload_n 0, 0, 0, 0), (.iconst 3, 0, 0, 0)] (by decide +kernel) trivial rfl (?_)
    show Ev l d mi_X10_days 13 [some (.ref 65), some (.int p0), none, none] [.int (Int32.ofInt 3), .ref 65] (hp q1.2) 0 0 _
    obtain ⟨q4, hq4, hf⟩ := bd_some hf
    refine Ev.callV (o := 65) (M' := mi_X10_refuses) (d' := d - 1) (As := [.int (Int32.ofInt 3)]) (rest := []) (r' := (some (.int q4.1), hp q4.2)) (e_X10_refuses (d := d - 1) (by omega) (Int32.ofInt 3) q1.2 _ hq4) (by omega) wm_X10_refuses wi_X10_refuses wv_X10_refuses km_10_639 (kc rfl rfl) (Nat.le_of_ble_eq_true rfl) rfl rfl rfl (Nat.le_of_ble_eq_true rfl) ⟨Nat.le_of_ble_eq_true rfl, Nat.le_of_ble_eq_true rfl⟩ (by decide +kernel) ?_
    show Ev l d mi_X10_days 16 [some (.ref 65), some (.int p0), none, none] [.int q4.1] (hp q4.2) 0 0 _
    cases hf
    exact Ev.iret .int rfl rfl (by decide +kernel) (Nat.le_refl _) (Nat.le_refl _)
def f_X10_seed (p0 : Int32) (s : ST) : Option (Int32 × ST) := (if 0 ≤ p0 then lt (uJ s 65 86 ((p0).toInt64)) (fun s2 => some ((Int32.ofInt 1), s2)) else gd (ib (Int32.ofInt 5) 6) (gd (ib (Int32.ofInt 5) 6) (lt (uI s 67 (Int32.ofInt 5).toNatClampNeg ((s.1 67 (Int32.ofInt 5).toNatClampNeg) + (Int32.ofInt 1))) (fun s5 => some ((Int32.ofInt 0), s5)))))
set_option maxHeartbeats 2000000 in
set_option maxRecDepth 20000 in
theorem e_X10_seed {l : Launch} {d : Nat} (hd : 1 ≤ d) (p0 : Int32) (s : ST) (r : Int32 × ST) (hf : f_X10_seed p0 s = some r) : Cl l d mi_X10_seed [.ref 65, .int p0] (hp s) (some (.int r.1), hp r.2) := by
  refine Ev.entry (by decide +kernel) rfl rfl ?_
  show Ev l d mi_X10_seed 0 [some (.ref 65), some (.int p0)] [] (hp s) 0 0 _
  unfold f_X10_seed at hf
  refine Ev.blk (pc' := 1) [(.iload_n 1, 0, 0, 0)] (by decide +kernel) trivial rfl (?_)
  show Ev l d mi_X10_seed 1 [some (.ref 65), some (.int p0)] [.int p0] (hp s) 0 0 _
  refine Ev.if_ge (off := 15) (tgt := 16) (by decide +kernel) (by decide) (fun b1 => ?_) (fun b1 => ?_)
  · have hf := (if_pos b1).symm.trans hf
    obtain ⟨s2, hs2, hf⟩ := lt_some hf
    refine Ev.blk (pc' := 23) [(.aload_n 0, 0, 0, 0), (.iload_n 1, 0, 0, 0), (.i2l, 0, 0, 0), (.putfield 190, 0, 10, 86), (.iconst 1, 0, 0, 0)] (by decide +kernel) ⟨⟨kf_10_190, Or.inl rfl⟩, trivial⟩ rfl (And.intro (kc rfl rfl) (?_))
    show Ev l d mi_X10_seed 23 [some (.ref 65), some (.int p0)] [.int (Int32.ofInt 1)] (hp (uJ s 65 86 ((p0).toInt64))) 0 0 _
    rw [← hs2]
    cases hf
    exact Ev.iret .boolean rfl rfl (by decide +kernel) (Nat.le_refl _) (Nat.le_refl _)
  · have hf := (if_neg b1).symm.trans hf
    obtain ⟨c3, hf⟩ := gd_some hf
    obtain ⟨c4, hf⟩ := gd_some hf
    obtain ⟨s5, hs5, hf⟩ := lt_some hf
    refine Ev.blk (pc' := 15) [(.aload_n 0, 0, 0, 0), (.getfield 17, 0, 10, 9), (.iconst 5, 0, 0, 0), (.dup2, 0, 0, 0), (.iaload, 0, 0, 0), (.iconst 1, 0, 0, 0), (.iadd, 0, 0, 0), (.iastore, 0, 0, 0), (.iconst 0, 0, 0, 0)] (by decide +kernel) ⟨kf_10_17, trivial⟩ rfl (And.intro (kc rfl rfl) (Exists.intro 67 (And.intro rfl (And.intro (And.intro rfl rfl) (And.intro (kc rfl rfl) (And.intro (ib_ok c3) (And.intro (kc rfl rfl) (And.intro (ib_ok c4) (?_)))))))))
    show Ev l d mi_X10_seed 15 [some (.ref 65), some (.int p0)] [.int (Int32.ofInt 0)] (hp (uI s 67 (Int32.ofInt 5).toNatClampNeg ((s.1 67 (Int32.ofInt 5).toNatClampNeg) + (Int32.ofInt 1)))) 0 0 _
    rw [← hs5]
    cases hf
    exact Ev.iret .boolean rfl rfl (by decide +kernel) (Nat.le_refl _) (Nat.le_refl _)
def f_X10_drawOf (p0 : Int32) (s : ST) : Option (Int32 × ST) := gd (nzl (p0).toInt64) (lt (uJ s 65 86 ((((Int64.ofInt 1103515245) * (s.2.1 65 86)) + (Int64.ofInt 12345)) - (((Int64.ofInt 1103515245) * (s.2.1 65 86)) + (Int64.ofInt 12345)) / (Int64.ofInt 2147483648) * (Int64.ofInt 2147483648))) (fun s2 => lt ((((s2.2.1 65 86) / (Int64.ofInt 64)) - ((s2.2.1 65 86) / (Int64.ofInt 64)) / (p0).toInt64 * (p0).toInt64).toInt32) (fun v3 => some (v3, s2))))
set_option maxHeartbeats 2000000 in
set_option maxRecDepth 20000 in
theorem e_X10_drawOf {l : Launch} {d : Nat} (hd : 1 ≤ d) (p0 : Int32) (s : ST) (r : Int32 × ST) (hf : f_X10_drawOf p0 s = some r) : Cl l d mi_X10_drawOf [.ref 65, .int p0] (hp s) (some (.int r.1), hp r.2) := by
  refine Ev.entry (by decide +kernel) rfl rfl ?_
  show Ev l d mi_X10_drawOf 0 [some (.ref 65), some (.int p0)] [] (hp s) 0 0 _
  unfold f_X10_drawOf at hf
  obtain ⟨c1, hf⟩ := gd_some hf
  obtain ⟨s2, hs2, hf⟩ := lt_some hf
  obtain ⟨v3, hv3, hf⟩ := lt_some hf
  refine Ev.blk (pc' := 32) [(.aload_n 0, 0, 0, 0), (.ldc2_w 668, 1103515245, 0, 0), (.aload_n 0, 0, 0, 0), (.getfield 190, 0, 10, 86), (.lmul, 0, 0, 0), (.ldc2_w 670, 12345, 0, 0), (.ladd, 0, 0, 0), (.ldc2_w 672, 2147483648, 0, 0), (.lrem, 0, 0, 0), (.putfield 190, 0, 10, 86), (.aload_n 0, 0, 0, 0), (.getfield 190, 0, 10, 86), (.ldc2_w 674, 64, 0, 0), (.ldiv, 0, 0, 0), (.iload_n 1, 0, 0, 0), (.i2l, 0, 0, 0), (.lrem, 0, 0, 0), (.l2i, 0, 0, 0)] (by decide +kernel) ⟨kl_10_668, ⟨kf_10_190, ⟨kl_10_670, ⟨kl_10_672, ⟨⟨kf_10_190, Or.inl rfl⟩, ⟨kf_10_190, ⟨kl_10_674, trivial⟩⟩⟩⟩⟩⟩⟩ rfl (And.intro (kc rfl rfl) (And.intro (by decide) (And.intro (kc rfl rfl) (And.intro (kc rfl rfl) (And.intro (by decide) (And.intro (nzl_ok c1) (?_)))))))
  show Ev l d mi_X10_drawOf 32 [some (.ref 65), some (.int p0)] [.int ((((uJ s 65 86 ((((Int64.ofInt 1103515245) * (s.2.1 65 86)) + (Int64.ofInt 12345)) - (((Int64.ofInt 1103515245) * (s.2.1 65 86)) + (Int64.ofInt 12345)) / (Int64.ofInt 2147483648) * (Int64.ofInt 2147483648))).2.1 65 86) / (Int64.ofInt 64)) - (((uJ s 65 86 ((((Int64.ofInt 1103515245) * (s.2.1 65 86)) + (Int64.ofInt 12345)) - (((Int64.ofInt 1103515245) * (s.2.1 65 86)) + (Int64.ofInt 12345)) / (Int64.ofInt 2147483648) * (Int64.ofInt 2147483648))).2.1 65 86) / (Int64.ofInt 64)) / (p0).toInt64 * (p0).toInt64).toInt32] (hp (uJ s 65 86 ((((Int64.ofInt 1103515245) * (s.2.1 65 86)) + (Int64.ofInt 12345)) - (((Int64.ofInt 1103515245) * (s.2.1 65 86)) + (Int64.ofInt 12345)) / (Int64.ofInt 2147483648) * (Int64.ofInt 2147483648)))) 0 0 _
  rw [← hs2, ← hv3]
  cases hf
  exact Ev.iret .int rfl rfl (by decide +kernel) (Nat.le_refl _) (Nat.le_refl _)
def f_X10_chance_j86 (k25 : Int32 → Int32 → Int32 → ST → Option (Int32 × ST)) (x1 : Int32) (x2 : Int32) (x3 : Int32) (s : ST) : Option (Int32 × ST) := (f_X10_dayGoes s).bind (fun q16 => k25 x1 x2 (x3 + Int32.ofInt 1) q16)
set_option maxHeartbeats 2000000 in
set_option maxRecDepth 20000 in
theorem e_X10_chance_j86 {l : Launch} {d : Nat} (hd : 11 ≤ d) (k25 : Int32 → Int32 → Int32 → ST → Option (Int32 × ST)) (hk25 : ∀ (x1 : Int32) (x2 : Int32) (x3 : Int32) (s : ST) (r : Int32 × ST), k25 x1 x2 x3 s = some r → Ev l d mi_X10_chance 25 [some (.ref 65), some (.int x1), some (.int x2), some (.int x3), none] [] (hp s) 0 0 (some (.int r.1), hp r.2)) (x1 : Int32) (x2 : Int32) (x3 : Int32) (s : ST) (r : Int32 × ST) (hf : f_X10_chance_j86 k25 x1 x2 x3 s = some r) : Ev l d mi_X10_chance 86 [some (.ref 65), some (.int x1), some (.int x2), some (.int x3), none] [] (hp s) 0 0 (some (.int r.1), hp r.2) := by
  unfold f_X10_chance_j86 at hf
  refine Ev.blk (pc' := 87) [(.aload_n 0, 0, 0, 0)] (by decide +kernel) trivial rfl (?_)
  show Ev l d mi_X10_chance 87 [some (.ref 65), some (.int x1), some (.int x2), some (.int x3), none] [.ref 65] (hp s) 0 0 _
  obtain ⟨q16, hq16, hf⟩ := bd_some hf
  refine Ev.callV (o := 65) (M' := mi_X10_dayGoes) (d' := d - 1) (As := []) (rest := []) (r' := (none, hp q16)) (e_X10_dayGoes (d := d - 1) (by omega) s _ hq16) (by omega) wm_X10_dayGoes wi_X10_dayGoes wv_X10_dayGoes km_10_578 (kc rfl rfl) (Nat.le_of_ble_eq_true rfl) rfl rfl rfl (Nat.le_of_ble_eq_true rfl) ⟨Nat.le_of_ble_eq_true rfl, Nat.le_of_ble_eq_true rfl⟩ (by decide +kernel) ?_
  show Ev l d mi_X10_chance 90 [some (.ref 65), some (.int x1), some (.int x2), some (.int x3), none] [] (hp q16) 0 0 _
  refine Ev.blk (pc' := 93) [(.iinc 3 1, 0, 0, 0)] (by decide +kernel) trivial rfl (And.intro (Nat.le_of_ble_eq_true rfl) (?_))
  show Ev l d mi_X10_chance 93 [some (.ref 65), some (.int x1), some (.int x2), some (.int (x3 + Int32.ofInt 1)), none] [] (hp q16) 0 0 _
  refine Ev.goto (off := -68) (tgt := 25) (by decide +kernel) (by decide) ?_
  exact hk25 x1 x2 (x3 + Int32.ofInt 1) q16 _ hf
def f_X10_chance_j57 (k25 : Int32 → Int32 → Int32 → ST → Option (Int32 × ST)) (x1 : Int32) (x2 : Int32) (x3 : Int32) (y0 : Int32) (s : ST) : Option (Int32 × ST) := (if y0 = 0 then (f_X10_choosesToday s).bind (fun q12 => (f_X10_chance_j86 k25) x1 x2 x3 q12) else (f_X10_movesNow s).bind (fun q13 => (f_X10_drawOf q13.1 q13.2).bind (fun q14 => (f_X10_chooses q14.1 q14.2).bind (fun q15 => (f_X10_chance_j86 k25) x1 (x2 + Int32.ofInt 1) x3 q15))))
set_option maxHeartbeats 2000000 in
set_option maxRecDepth 20000 in
theorem e_X10_chance_j57 {l : Launch} {d : Nat} (hd : 11 ≤ d) (k25 : Int32 → Int32 → Int32 → ST → Option (Int32 × ST)) (hk25 : ∀ (x1 : Int32) (x2 : Int32) (x3 : Int32) (s : ST) (r : Int32 × ST), k25 x1 x2 x3 s = some r → Ev l d mi_X10_chance 25 [some (.ref 65), some (.int x1), some (.int x2), some (.int x3), none] [] (hp s) 0 0 (some (.int r.1), hp r.2)) (x1 : Int32) (x2 : Int32) (x3 : Int32) (y0 : Int32) (s : ST) (r : Int32 × ST) (hf : f_X10_chance_j57 k25 x1 x2 x3 y0 s = some r) : Ev l d mi_X10_chance 57 [some (.ref 65), some (.int x1), some (.int x2), some (.int x3), none] [.int y0] (hp s) 0 0 (some (.int r.1), hp r.2) := by
  unfold f_X10_chance_j57 at hf
  refine Ev.blk (pc' := 61) [(.istore 4, 0, 0, 0), (.iload 4, 0, 0, 0)] (by decide +kernel) trivial rfl (And.intro (Nat.le_of_ble_eq_true rfl) (?_))
  show Ev l d mi_X10_chance 61 [some (.ref 65), some (.int x1), some (.int x2), some (.int x3), some (.int y0)] [.int y0] (hp s) 0 0 _
  refine Ev.if_eq (off := 21) (tgt := 82) (by decide +kernel) (by decide) (fun b11 => ?_) (fun b11 => ?_)
  · have hf := (if_pos b11).symm.trans hf
    refine Ev.blk (pc' := 83) [(.aload_n 0, 0, 0, 0)] (by decide +kernel) trivial rfl (?_)
    show Ev l d mi_X10_chance 83 [some (.ref 65), some (.int x1), some (.int x2), some (.int x3), some (.int y0)] [.ref 65] (hp s) 0 0 _
    obtain ⟨q12, hq12, hf⟩ := bd_some hf
    refine Ev.callV (o := 65) (M' := mi_X10_choosesToday) (d' := d - 1) (As := []) (rest := []) (r' := (none, hp q12)) (e_X10_choosesToday (d := d - 1) (by omega) s _ hq12) (by omega) wm_X10_choosesToday wi_X10_choosesToday wv_X10_choosesToday km_10_575 (kc rfl rfl) (Nat.le_of_ble_eq_true rfl) rfl rfl rfl (Nat.le_of_ble_eq_true rfl) ⟨Nat.le_of_ble_eq_true rfl, Nat.le_of_ble_eq_true rfl⟩ (by decide +kernel) ?_
    show Ev l d mi_X10_chance 86 [some (.ref 65), some (.int x1), some (.int x2), some (.int x3), some (.int y0)] [] (hp q12) 0 0 _
    exact Ev.wk ((e_X10_chance_j86 hd k25 hk25) x1 x2 x3 q12 _ hf) (And.intro (Or.inr rfl) (And.intro (Or.inr rfl) (And.intro (Or.inr rfl) (And.intro (Or.inr rfl) (And.intro (Or.inl rfl) (trivial))))))
  · have hf := (if_neg b11).symm.trans hf
    refine Ev.blk (pc' := 67) [(.aload_n 0, 0, 0, 0), (.aload_n 0, 0, 0, 0), (.aload_n 0, 0, 0, 0)] (by decide +kernel) trivial rfl (?_)
    show Ev l d mi_X10_chance 67 [some (.ref 65), some (.int x1), some (.int x2), some (.int x3), some (.int y0)] [.ref 65, .ref 65, .ref 65] (hp s) 0 0 _
    obtain ⟨q13, hq13, hf⟩ := bd_some hf
    refine Ev.callV (o := 65) (M' := mi_X10_movesNow) (d' := d - 1) (As := []) (rest := [.ref 65, .ref 65]) (r' := (some (.int q13.1), hp q13.2)) (e_X10_movesNow (d := d - 1) (by omega) s _ hq13) (by omega) wm_X10_movesNow wi_X10_movesNow wv_X10_movesNow km_10_630 (kc rfl rfl) (Nat.le_of_ble_eq_true rfl) rfl rfl rfl (Nat.le_of_ble_eq_true rfl) ⟨Nat.le_of_ble_eq_true rfl, Nat.le_of_ble_eq_true rfl⟩ (by decide +kernel) ?_
    show Ev l d mi_X10_chance 70 [some (.ref 65), some (.int x1), some (.int x2), some (.int x3), some (.int y0)] [.int q13.1, .ref 65, .ref 65] (hp q13.2) 0 0 _
    obtain ⟨q14, hq14, hf⟩ := bd_some hf
    refine Ev.callV (o := 65) (M' := mi_X10_drawOf) (d' := d - 1) (As := [.int q13.1]) (rest := [.ref 65]) (r' := (some (.int q14.1), hp q14.2)) (e_X10_drawOf (d := d - 1) (by omega) q13.1 q13.2 _ hq14) (by omega) wm_X10_drawOf wi_X10_drawOf wv_X10_drawOf km_10_676 (kc rfl rfl) (Nat.le_of_ble_eq_true rfl) rfl rfl rfl (Nat.le_of_ble_eq_true rfl) ⟨Nat.le_of_ble_eq_true rfl, Nat.le_of_ble_eq_true rfl⟩ (by decide +kernel) ?_
    show Ev l d mi_X10_chance 73 [some (.ref 65), some (.int x1), some (.int x2), some (.int x3), some (.int y0)] [.int q14.1, .ref 65] (hp q14.2) 0 0 _
    obtain ⟨q15, hq15, hf⟩ := bd_some hf
    refine Ev.callV (o := 65) (M' := mi_X10_chooses) (d' := d - 1) (As := [.int q14.1]) (rest := []) (r' := (none, hp q15)) (e_X10_chooses (d := d - 1) (by omega) q14.1 q14.2 _ hq15) (by omega) wm_X10_chooses wi_X10_chooses wv_X10_chooses km_10_607 (kc rfl rfl) (Nat.le_of_ble_eq_true rfl) rfl rfl rfl (Nat.le_of_ble_eq_true rfl) ⟨Nat.le_of_ble_eq_true rfl, Nat.le_of_ble_eq_true rfl⟩ (by decide +kernel) ?_
    show Ev l d mi_X10_chance 76 [some (.ref 65), some (.int x1), some (.int x2), some (.int x3), some (.int y0)] [] (hp q15) 0 0 _
    refine Ev.blk (pc' := 79) [(.iinc 2 1, 0, 0, 0)] (by decide +kernel) trivial rfl (And.intro (Nat.le_of_ble_eq_true rfl) (?_))
    show Ev l d mi_X10_chance 79 [some (.ref 65), some (.int x1), some (.int (x2 + Int32.ofInt 1)), some (.int x3), some (.int y0)] [] (hp q15) 0 0 _
    refine Ev.goto (off := 7) (tgt := 86) (by decide +kernel) (by decide) ?_
    exact Ev.wk ((e_X10_chance_j86 hd k25 hk25) x1 (x2 + Int32.ofInt 1) x3 q15 _ hf) (And.intro (Or.inr rfl) (And.intro (Or.inr rfl) (And.intro (Or.inr rfl) (And.intro (Or.inr rfl) (And.intro (Or.inl rfl) (trivial))))))
def f_X10_chance_j56 (k25 : Int32 → Int32 → Int32 → ST → Option (Int32 × ST)) (x1 : Int32) (x2 : Int32) (x3 : Int32) (s : ST) : Option (Int32 × ST) := (f_X10_chance_j57 k25) x1 x2 x3 (Int32.ofInt 0) s
set_option maxHeartbeats 2000000 in
set_option maxRecDepth 20000 in
theorem e_X10_chance_j56 {l : Launch} {d : Nat} (hd : 11 ≤ d) (k25 : Int32 → Int32 → Int32 → ST → Option (Int32 × ST)) (hk25 : ∀ (x1 : Int32) (x2 : Int32) (x3 : Int32) (s : ST) (r : Int32 × ST), k25 x1 x2 x3 s = some r → Ev l d mi_X10_chance 25 [some (.ref 65), some (.int x1), some (.int x2), some (.int x3), none] [] (hp s) 0 0 (some (.int r.1), hp r.2)) (x1 : Int32) (x2 : Int32) (x3 : Int32) (s : ST) (r : Int32 × ST) (hf : f_X10_chance_j56 k25 x1 x2 x3 s = some r) : Ev l d mi_X10_chance 56 [some (.ref 65), some (.int x1), some (.int x2), some (.int x3), none] [] (hp s) 0 0 (some (.int r.1), hp r.2) := by
  unfold f_X10_chance_j56 at hf
  refine Ev.blk (pc' := 57) [(.iconst 0, 0, 0, 0)] (by decide +kernel) trivial rfl (?_)
  show Ev l d mi_X10_chance 57 [some (.ref 65), some (.int x1), some (.int x2), some (.int x3), none] [.int (Int32.ofInt 0)] (hp s) 0 0 _
  exact (e_X10_chance_j57 hd k25 hk25) x1 x2 x3 (Int32.ofInt 0) s _ hf
def f_X10_chance_L25 : Nat → Int32 → Int32 → Int32 → ST → Option (Int32 × ST)
  | 0, _, _, _, _ => none
  | n + 1, x1, x2, x3, s => (if x1 ≤ x3 then some (x2, s) else (f_X10_isOver s).bind (fun q6 => (if q6.1 = 0 then (f_X10_drawOf ((Int8.ofInt 100).toInt32) q6.2).bind (fun q8 => gd (ib (Int32.ofInt 3) 4) ((if (q8.2.1 108 (Int32.ofInt 3).toNatClampNeg) ≤ q8.1 then (f_X10_chance_j56 (f_X10_chance_L25 n)) x1 x2 x3 q8.2 else (f_X10_chance_j57 (f_X10_chance_L25 n)) x1 x2 x3 (Int32.ofInt 1) q8.2))) else (f_X10_chance_j56 (f_X10_chance_L25 n)) x1 x2 x3 q6.2)))
set_option maxHeartbeats 2000000 in
set_option maxRecDepth 20000 in
theorem e_X10_chance_L25 {l : Launch} {d : Nat} (hd : 11 ≤ d) : ∀ (n : Nat) (x1 : Int32) (x2 : Int32) (x3 : Int32) (s : ST) (r : Int32 × ST), f_X10_chance_L25 n x1 x2 x3 s = some r → Ev l d mi_X10_chance 25 [some (.ref 65), some (.int x1), some (.int x2), some (.int x3), none] [] (hp s) 0 0 (some (.int r.1), hp r.2) := by
  intro n
  induction n with
  | zero =>
    intro x1 x2 x3 s r hf
    cases hf
  | succ n ih =>
    intro x1 x2 x3 s r hf
    unfold f_X10_chance_L25 at hf
    refine Ev.blk (pc' := 27) [(.iload_n 3, 0, 0, 0), (.iload_n 1, 0, 0, 0)] (by decide +kernel) trivial rfl (?_)
    show Ev l d mi_X10_chance 27 [some (.ref 65), some (.int x1), some (.int x2), some (.int x3), none] [.int x1, .int x3] (hp s) 0 0 _
    refine Ev.icmp_ge (off := 69) (tgt := 96) (by decide +kernel) (by decide) (fun b5 => ?_) (fun b5 => ?_)
    · have hf := (if_pos b5).symm.trans hf
      refine Ev.blk (pc' := 97) [(.iload_n 2, 0, 0, 0)] (by decide +kernel) trivial rfl (?_)
      show Ev l d mi_X10_chance 97 [some (.ref 65), some (.int x1), some (.int x2), some (.int x3), none] [.int x2] (hp s) 0 0 _
      cases hf
      exact Ev.iret .int rfl rfl (by decide +kernel) (Nat.le_refl _) (Nat.le_refl _)
    · have hf := (if_neg b5).symm.trans hf
      refine Ev.blk (pc' := 31) [(.aload_n 0, 0, 0, 0)] (by decide +kernel) trivial rfl (?_)
      show Ev l d mi_X10_chance 31 [some (.ref 65), some (.int x1), some (.int x2), some (.int x3), none] [.ref 65] (hp s) 0 0 _
      obtain ⟨q6, hq6, hf⟩ := bd_some hf
      refine Ev.callV (o := 65) (M' := mi_X10_isOver) (d' := d - 1) (As := []) (rest := []) (r' := (some (.int q6.1), hp q6.2)) (e_X10_isOver (d := d - 1) (by omega) s _ hq6) (by omega) wm_X10_isOver wi_X10_isOver wv_X10_isOver km_10_584 (kc rfl rfl) (Nat.le_of_ble_eq_true rfl) rfl rfl rfl (Nat.le_of_ble_eq_true rfl) ⟨Nat.le_of_ble_eq_true rfl, Nat.le_of_ble_eq_true rfl⟩ (by decide +kernel) ?_
      show Ev l d mi_X10_chance 34 [some (.ref 65), some (.int x1), some (.int x2), some (.int x3), none] [.int q6.1] (hp q6.2) 0 0 _
      refine Ev.if_ne (off := 22) (tgt := 56) (by decide +kernel) (by decide) (fun b7 => ?_) (fun b7 => ?_)
      · have hf := (if_neg b7).symm.trans hf
        exact (e_X10_chance_j56 hd (f_X10_chance_L25 n) ih) x1 x2 x3 q6.2 _ hf
      · have hf := (if_pos b7).symm.trans hf
        refine Ev.blk (pc' := 40) [(.aload_n 0, 0, 0, 0), (.bipush 100, 0, 0, 0)] (by decide +kernel) trivial rfl (?_)
        show Ev l d mi_X10_chance 40 [some (.ref 65), some (.int x1), some (.int x2), some (.int x3), none] [.int ((Int8.ofInt 100).toInt32), .ref 65] (hp q6.2) 0 0 _
        obtain ⟨q8, hq8, hf⟩ := bd_some hf
        refine Ev.callV (o := 65) (M' := mi_X10_drawOf) (d' := d - 1) (As := [.int ((Int8.ofInt 100).toInt32)]) (rest := []) (r' := (some (.int q8.1), hp q8.2)) (e_X10_drawOf (d := d - 1) (by omega) ((Int8.ofInt 100).toInt32) q6.2 _ hq8) (by omega) wm_X10_drawOf wi_X10_drawOf wv_X10_drawOf km_10_676 (kc rfl rfl) (Nat.le_of_ble_eq_true rfl) rfl rfl rfl (Nat.le_of_ble_eq_true rfl) ⟨Nat.le_of_ble_eq_true rfl, Nat.le_of_ble_eq_true rfl⟩ (by decide +kernel) ?_
        show Ev l d mi_X10_chance 43 [some (.ref 65), some (.int x1), some (.int x2), some (.int x3), none] [.int q8.1] (hp q8.2) 0 0 _
        obtain ⟨c9, hf⟩ := gd_some hf
        refine Ev.blk (pc' := 49) [(.aload_n 0, 0, 0, 0), (.getfield 142, 0, 10, 52), (.iconst 3, 0, 0, 0), (.iaload, 0, 0, 0)] (by decide +kernel) ⟨kf_10_142, trivial⟩ rfl (And.intro (kc rfl rfl) (Exists.intro 108 (And.intro rfl (And.intro (kc rfl rfl) (And.intro (ib_ok c9) (?_))))))
        show Ev l d mi_X10_chance 49 [some (.ref 65), some (.int x1), some (.int x2), some (.int x3), none] [.int (q8.2.1 108 (Int32.ofInt 3).toNatClampNeg), .int q8.1] (hp q8.2) 0 0 _
        refine Ev.icmp_ge (off := 7) (tgt := 56) (by decide +kernel) (by decide) (fun b10 => ?_) (fun b10 => ?_)
        · have hf := (if_pos b10).symm.trans hf
          exact (e_X10_chance_j56 hd (f_X10_chance_L25 n) ih) x1 x2 x3 q8.2 _ hf
        · have hf := (if_neg b10).symm.trans hf
          refine Ev.blk (pc' := 53) [(.iconst 1, 0, 0, 0)] (by decide +kernel) trivial rfl (?_)
          show Ev l d mi_X10_chance 53 [some (.ref 65), some (.int x1), some (.int x2), some (.int x3), none] [.int (Int32.ofInt 1)] (hp q8.2) 0 0 _
          refine Ev.goto (off := 4) (tgt := 57) (by decide +kernel) (by decide) ?_
          exact (e_X10_chance_j57 hd (f_X10_chance_L25 n) ih) x1 x2 x3 (Int32.ofInt 1) q8.2 _ hf
def f_X10_chance (p0 : Int32) (s : ST) : Option (Int32 × ST) := (f_X10_isAhead p0 (Int32.ofInt 1) ((Int8.ofInt 30).toInt32) s).bind (fun q1 => (if q1.1 = 0 then (f_X10_refuses (Int32.ofInt 3) q1.2).bind (fun q4 => some (q4.1, q4.2)) else (f_X10_keeps q1.2).bind (fun q3 => (f_X10_chance_L25 fuel) p0 (Int32.ofInt 0) (Int32.ofInt 0) q3)))
set_option maxHeartbeats 2000000 in
set_option maxRecDepth 20000 in
theorem e_X10_chance {l : Launch} {d : Nat} (hd : 11 ≤ d) (p0 : Int32) (s : ST) (r : Int32 × ST) (hf : f_X10_chance p0 s = some r) : Cl l d mi_X10_chance [.ref 65, .int p0] (hp s) (some (.int r.1), hp r.2) := by
  refine Ev.entry (by decide +kernel) rfl rfl ?_
  show Ev l d mi_X10_chance 0 [some (.ref 65), some (.int p0), none, none, none] [] (hp s) 0 0 _
  unfold f_X10_chance at hf
  refine Ev.blk (pc' := 5) [(.aload_n 0, 0, 0, 0), (.iload_n 1, 0, 0, 0), (.iconst 1, 0, 0, 0), (.bipush 30, 0, 0, 0)] (by decide +kernel) trivial rfl (?_)
  show Ev l d mi_X10_chance 5 [some (.ref 65), some (.int p0), none, none, none] [.int ((Int8.ofInt 30).toInt32), .int (Int32.ofInt 1), .int p0, .ref 65] (hp s) 0 0 _
  obtain ⟨q1, hq1, hf⟩ := bd_some hf
  refine Ev.callV (o := 65) (M' := mi_X10_isAhead) (d' := d - 1) (As := [.int p0, .int (Int32.ofInt 1), .int ((Int8.ofInt 30).toInt32)]) (rest := []) (r' := (some (.int q1.1), hp q1.2)) (e_X10_isAhead (d := d - 1) (by omega) p0 (Int32.ofInt 1) ((Int8.ofInt 30).toInt32) s _ hq1) (by omega) wm_X10_isAhead wi_X10_isAhead wv_X10_isAhead km_10_618 (kc rfl rfl) (Nat.le_of_ble_eq_true rfl) rfl rfl rfl (Nat.le_of_ble_eq_true rfl) ⟨Nat.le_of_ble_eq_true rfl, Nat.le_of_ble_eq_true rfl⟩ (by decide +kernel) ?_
  show Ev l d mi_X10_chance 8 [some (.ref 65), some (.int p0), none, none, none] [.int q1.1] (hp q1.2) 0 0 _
  refine Ev.if_ne (off := 9) (tgt := 17) (by decide +kernel) (by decide) (fun b2 => ?_) (fun b2 => ?_)
  · have hf := (if_neg b2).symm.trans hf
    refine Ev.blk (pc' := 18) [(.aload_n 0, 0, 0, 0)] (by decide +kernel) trivial rfl (?_)
    show Ev l d mi_X10_chance 18 [some (.ref 65), some (.int p0), none, none, none] [.ref 65] (hp q1.2) 0 0 _
    obtain ⟨q3, hq3, hf⟩ := bd_some hf
    refine Ev.callV (o := 65) (M' := mi_X10_keeps) (d' := d - 1) (As := []) (rest := []) (r' := (none, hp q3)) (e_X10_keeps (d := d - 1) (by omega) q1.2 _ hq3) (by omega) wm_X10_keeps wi_X10_keeps wv_X10_keeps km_10_663 (kc rfl rfl) (Nat.le_of_ble_eq_true rfl) rfl rfl rfl (Nat.le_of_ble_eq_true rfl) ⟨Nat.le_of_ble_eq_true rfl, Nat.le_of_ble_eq_true rfl⟩ (by decide +kernel) ?_
    show Ev l d mi_X10_chance 21 [some (.ref 65), some (.int p0), none, none, none] [] (hp q3) 0 0 _
    refine Ev.blk (pc' := 25) [(.iconst 0, 0, 0, 0), (.istore_n 2, 0, 0, 0), (.iconst 0, 0, 0, 0), (.istore_n 3, 0, 0, 0)] (by decide +kernel) trivial rfl (And.intro (Nat.le_of_ble_eq_true rfl) (And.intro (Nat.le_of_ble_eq_true rfl) (?_)))
    show Ev l d mi_X10_chance 25 [some (.ref 65), some (.int p0), some (.int (Int32.ofInt 0)), some (.int (Int32.ofInt 0)), none] [] (hp q3) 0 0 _
    exact (e_X10_chance_L25 hd fuel) p0 (Int32.ofInt 0) (Int32.ofInt 0) q3 _ hf
  · have hf := (if_pos b2).symm.trans hf
    refine Ev.blk (pc' := 13) [(.aload_n 0, 0, 0, 0), (.iconst 3, 0, 0, 0)] (by decide +kernel) trivial rfl (?_)
    show Ev l d mi_X10_chance 13 [some (.ref 65), some (.int p0), none, none, none] [.int (Int32.ofInt 3), .ref 65] (hp q1.2) 0 0 _
    obtain ⟨q4, hq4, hf⟩ := bd_some hf
    refine Ev.callV (o := 65) (M' := mi_X10_refuses) (d' := d - 1) (As := [.int (Int32.ofInt 3)]) (rest := []) (r' := (some (.int q4.1), hp q4.2)) (e_X10_refuses (d := d - 1) (by omega) (Int32.ofInt 3) q1.2 _ hq4) (by omega) wm_X10_refuses wi_X10_refuses wv_X10_refuses km_10_639 (kc rfl rfl) (Nat.le_of_ble_eq_true rfl) rfl rfl rfl (Nat.le_of_ble_eq_true rfl) ⟨Nat.le_of_ble_eq_true rfl, Nat.le_of_ble_eq_true rfl⟩ (by decide +kernel) ?_
    show Ev l d mi_X10_chance 16 [some (.ref 65), some (.int p0), none, none, none] [.int q4.1] (hp q4.2) 0 0 _
    cases hf
    exact Ev.iret .int rfl rfl (by decide +kernel) (Nat.le_refl _) (Nat.le_refl _)
def f_X10_qFact_j102 (y1 : Int32) (s : ST) : Option (ST) := (f_X10_qCode y1 s).bind (fun q15 => some q15)
set_option maxHeartbeats 2000000 in
set_option maxRecDepth 20000 in
theorem e_X10_qFact_j102 {l : Launch} {d : Nat} (hd : 8 ≤ d) (y1 : Int32) (s : ST) (r : ST) (hf : f_X10_qFact_j102 y1 s = some r) : Ev l d mi_X10_qFact 102 [none, none] [.int y1, .ref 65] (hp s) 0 0 (none, hp r) := by
  unfold f_X10_qFact_j102 at hf
  obtain ⟨q15, hq15, hf⟩ := bd_some hf
  refine Ev.callV (o := 65) (M' := mi_X10_qCode) (d' := d - 1) (As := [.int y1]) (rest := []) (r' := (none, hp q15)) (e_X10_qCode (d := d - 1) (by omega) y1 s _ hq15) (by omega) wm_X10_qCode wi_X10_qCode wv_X10_qCode km_10_679 (kc rfl rfl) (Nat.le_of_ble_eq_true rfl) rfl rfl rfl (Nat.le_of_ble_eq_true rfl) ⟨Nat.le_of_ble_eq_true rfl, Nat.le_of_ble_eq_true rfl⟩ (by decide +kernel) ?_
  show Ev l d mi_X10_qFact 105 [none, none] [] (hp q15) 0 0 _
  cases hf
  exact Ev.vret rfl (by decide +kernel) (Nat.le_refl _) (Nat.le_refl _)
def f_X10_qFact_j63 (x1 : Int32) (s : ST) : Option (ST) := lt (uI s 65 2 ((s.1 65 2) + (Int32.ofInt 1))) (fun s11 => (f_X10_qSums s11).bind (fun q12 => (if x1 = ((Int8.ofInt 60).toInt32) then f_X10_qFact_j102 ((Int8.ofInt 7).toInt32) q12 else (if x1 = ((Int8.ofInt 62).toInt32) then f_X10_qFact_j102 ((Int8.ofInt 8).toInt32) q12 else f_X10_qFact_j102 ((Int8.ofInt 9).toInt32) q12))))
set_option maxHeartbeats 2000000 in
set_option maxRecDepth 20000 in
theorem e_X10_qFact_j63 {l : Launch} {d : Nat} (hd : 8 ≤ d) (x1 : Int32) (s : ST) (r : ST) (hf : f_X10_qFact_j63 x1 s = some r) : Ev l d mi_X10_qFact 63 [some (.ref 65), some (.int x1)] [] (hp s) 0 0 (none, hp r) := by
  unfold f_X10_qFact_j63 at hf
  obtain ⟨s11, hs11, hf⟩ := lt_some hf
  refine Ev.blk (pc' := 74) [(.aload_n 0, 0, 0, 0), (.dup, 0, 0, 0), (.getfield 284, 0, 10, 2), (.iconst 1, 0, 0, 0), (.iadd, 0, 0, 0), (.putfield 284, 0, 10, 2), (.aload_n 0, 0, 0, 0)] (by decide +kernel) ⟨kf_10_284, ⟨⟨kf_10_284, Or.inl rfl⟩, trivial⟩⟩ rfl (And.intro rfl (And.intro (kc rfl rfl) (And.intro (kc rfl rfl) (?_))))
  show Ev l d mi_X10_qFact 74 [some (.ref 65), some (.int x1)] [.ref 65] (hp (uI s 65 2 ((s.1 65 2) + (Int32.ofInt 1)))) 0 0 _
  rw [← hs11]
  obtain ⟨q12, hq12, hf⟩ := bd_some hf
  refine Ev.callV (o := 65) (M' := mi_X10_qSums) (d' := d - 1) (As := []) (rest := []) (r' := (none, hp q12)) (e_X10_qSums (d := d - 1) (by omega) s11 _ hq12) (by omega) wm_X10_qSums wi_X10_qSums wv_X10_qSums km_10_391 (kc rfl rfl) (Nat.le_of_ble_eq_true rfl) rfl rfl rfl (Nat.le_of_ble_eq_true rfl) ⟨Nat.le_of_ble_eq_true rfl, Nat.le_of_ble_eq_true rfl⟩ (by decide +kernel) ?_
  show Ev l d mi_X10_qFact 77 [some (.ref 65), some (.int x1)] [] (hp q12) 0 0 _
  refine Ev.blk (pc' := 81) [(.aload_n 0, 0, 0, 0), (.iload_n 1, 0, 0, 0), (.bipush 60, 0, 0, 0)] (by decide +kernel) trivial rfl (?_)
  show Ev l d mi_X10_qFact 81 [some (.ref 65), some (.int x1)] [.int ((Int8.ofInt 60).toInt32), .int x1, .ref 65] (hp q12) 0 0 _
  refine Ev.icmp_ne (off := 8) (tgt := 89) (by decide +kernel) (by decide) (fun b13 => ?_) (fun b13 => ?_)
  · have hf := (if_neg b13).symm.trans hf
    refine Ev.blk (pc' := 92) [(.iload_n 1, 0, 0, 0), (.bipush 62, 0, 0, 0)] (by decide +kernel) trivial rfl (?_)
    show Ev l d mi_X10_qFact 92 [some (.ref 65), some (.int x1)] [.int ((Int8.ofInt 62).toInt32), .int x1, .ref 65] (hp q12) 0 0 _
    refine Ev.icmp_ne (off := 8) (tgt := 100) (by decide +kernel) (by decide) (fun b14 => ?_) (fun b14 => ?_)
    · have hf := (if_neg b14).symm.trans hf
      refine Ev.blk (pc' := 102) [(.bipush 9, 0, 0, 0)] (by decide +kernel) trivial rfl (?_)
      show Ev l d mi_X10_qFact 102 [some (.ref 65), some (.int x1)] [.int ((Int8.ofInt 9).toInt32), .ref 65] (hp q12) 0 0 _
      exact Ev.wk ((e_X10_qFact_j102 hd) ((Int8.ofInt 9).toInt32) q12 _ hf) (And.intro (Or.inl rfl) (And.intro (Or.inl rfl) (trivial)))
    · have hf := (if_pos b14).symm.trans hf
      refine Ev.blk (pc' := 97) [(.bipush 8, 0, 0, 0)] (by decide +kernel) trivial rfl (?_)
      show Ev l d mi_X10_qFact 97 [some (.ref 65), some (.int x1)] [.int ((Int8.ofInt 8).toInt32), .ref 65] (hp q12) 0 0 _
      refine Ev.goto (off := 5) (tgt := 102) (by decide +kernel) (by decide) ?_
      exact Ev.wk ((e_X10_qFact_j102 hd) ((Int8.ofInt 8).toInt32) q12 _ hf) (And.intro (Or.inl rfl) (And.intro (Or.inl rfl) (trivial)))
  · have hf := (if_pos b13).symm.trans hf
    refine Ev.blk (pc' := 86) [(.bipush 7, 0, 0, 0)] (by decide +kernel) trivial rfl (?_)
    show Ev l d mi_X10_qFact 86 [some (.ref 65), some (.int x1)] [.int ((Int8.ofInt 7).toInt32), .ref 65] (hp q12) 0 0 _
    refine Ev.goto (off := 16) (tgt := 102) (by decide +kernel) (by decide) ?_
    exact Ev.wk ((e_X10_qFact_j102 hd) ((Int8.ofInt 7).toInt32) q12 _ hf) (And.intro (Or.inl rfl) (And.intro (Or.inl rfl) (trivial)))
def f_X10_qFact (s : ST) : Option (ST) := (f_X10_takes 132 s).bind (fun q1 => (if q1.1 = 0 then (f_X10_qSums q1.2).bind (fun q3 => (if (q3.1 65 5) = 0 then (f_X10_look q3).bind (fun q5 => (if q5.1 = ((Int8.ofInt 60).toInt32) then f_X10_qFact_j63 q5.1 q5.2 else (if q5.1 = ((Int8.ofInt 62).toInt32) then f_X10_qFact_j63 q5.1 q5.2 else (if q5.1 = ((Int8.ofInt 61).toInt32) then f_X10_qFact_j63 q5.1 q5.2 else (f_X10_fail (Int32.ofInt 1) (q5.2.1 65 2) q5.2).bind (fun q9 => some q9))))) else some q3)) else (f_X10_qCode ((Int8.ofInt 13).toInt32) q1.2).bind (fun q10 => some q10)))
set_option maxHeartbeats 2000000 in
set_option maxRecDepth 20000 in
theorem e_X10_qFact {l : Launch} {d : Nat} (hd : 8 ≤ d) (s : ST) (r : ST) (hf : f_X10_qFact s = some r) : Cl l d mi_X10_qFact [.ref 65] (hp s) (none, hp r) := by
  refine Ev.entry (by decide +kernel) rfl rfl ?_
  show Ev l d mi_X10_qFact 0 [some (.ref 65), none] [] (hp s) 0 0 _
  unfold f_X10_qFact at hf
  refine Ev.blk (pc' := 5) [(.aload_n 0, 0, 0, 0), (.aload_n 0, 0, 0, 0), (.getfield 221, 0, 10, 96)] (by decide +kernel) ⟨kf_10_221, trivial⟩ rfl (And.intro (kc rfl rfl) (Exists.intro 132 (And.intro rfl (?_))))
  show Ev l d mi_X10_qFact 5 [some (.ref 65), none] [.ref 132, .ref 65] (hp s) 0 0 _
  obtain ⟨q1, hq1, hf⟩ := bd_some hf
  refine Ev.callV (o := 65) (M' := mi_X10_takes) (d' := d - 1) (As := [.ref 132]) (rest := []) (r' := (some (.int q1.1), hp q1.2)) (e_X10_takes (d := d - 1) (by omega) 132 s _ hq1) (by omega) wm_X10_takes wi_X10_takes wv_X10_takes km_10_305 (kc rfl rfl) (Nat.le_of_ble_eq_true rfl) rfl rfl rfl (Nat.le_of_ble_eq_true rfl) ⟨Nat.le_of_ble_eq_true rfl, Nat.le_of_ble_eq_true rfl⟩ (by decide +kernel) ?_
  show Ev l d mi_X10_qFact 8 [some (.ref 65), none] [.int q1.1] (hp q1.2) 0 0 _
  refine Ev.if_eq (off := 10) (tgt := 18) (by decide +kernel) (by decide) (fun b2 => ?_) (fun b2 => ?_)
  · have hf := (if_pos b2).symm.trans hf
    refine Ev.blk (pc' := 19) [(.aload_n 0, 0, 0, 0)] (by decide +kernel) trivial rfl (?_)
    show Ev l d mi_X10_qFact 19 [some (.ref 65), none] [.ref 65] (hp q1.2) 0 0 _
    obtain ⟨q3, hq3, hf⟩ := bd_some hf
    refine Ev.callV (o := 65) (M' := mi_X10_qSums) (d' := d - 1) (As := []) (rest := []) (r' := (none, hp q3)) (e_X10_qSums (d := d - 1) (by omega) q1.2 _ hq3) (by omega) wm_X10_qSums wi_X10_qSums wv_X10_qSums km_10_391 (kc rfl rfl) (Nat.le_of_ble_eq_true rfl) rfl rfl rfl (Nat.le_of_ble_eq_true rfl) ⟨Nat.le_of_ble_eq_true rfl, Nat.le_of_ble_eq_true rfl⟩ (by decide +kernel) ?_
    show Ev l d mi_X10_qFact 22 [some (.ref 65), none] [] (hp q3) 0 0 _
    refine Ev.blk (pc' := 26) [(.aload_n 0, 0, 0, 0), (.getfield 278, 0, 10, 5)] (by decide +kernel) ⟨kf_10_278, trivial⟩ rfl (And.intro (kc rfl rfl) (?_))
    show Ev l d mi_X10_qFact 26 [some (.ref 65), none] [.int (q3.1 65 5)] (hp q3) 0 0 _
    refine Ev.if_eq (off := 4) (tgt := 30) (by decide +kernel) (by decide) (fun b4 => ?_) (fun b4 => ?_)
    · have hf := (if_pos b4).symm.trans hf
      refine Ev.blk (pc' := 31) [(.aload_n 0, 0, 0, 0)] (by decide +kernel) trivial rfl (?_)
      show Ev l d mi_X10_qFact 31 [some (.ref 65), none] [.ref 65] (hp q3) 0 0 _
      obtain ⟨q5, hq5, hf⟩ := bd_some hf
      refine Ev.callV (o := 65) (M' := mi_X10_look) (d' := d - 1) (As := []) (rest := []) (r' := (some (.int q5.1), hp q5.2)) (e_X10_look (d := d - 1) (by omega) q3 _ hq5) (by omega) wm_X10_look wi_X10_look wv_X10_look km_10_290 (kc rfl rfl) (Nat.le_of_ble_eq_true rfl) rfl rfl rfl (Nat.le_of_ble_eq_true rfl) ⟨Nat.le_of_ble_eq_true rfl, Nat.le_of_ble_eq_true rfl⟩ (by decide +kernel) ?_
      show Ev l d mi_X10_qFact 34 [some (.ref 65), none] [.int q5.1] (hp q5.2) 0 0 _
      refine Ev.blk (pc' := 38) [(.istore_n 1, 0, 0, 0), (.iload_n 1, 0, 0, 0), (.bipush 60, 0, 0, 0)] (by decide +kernel) trivial rfl (And.intro (Nat.le_of_ble_eq_true rfl) (?_))
      show Ev l d mi_X10_qFact 38 [some (.ref 65), some (.int q5.1)] [.int ((Int8.ofInt 60).toInt32), .int q5.1] (hp q5.2) 0 0 _
      refine Ev.icmp_eq (off := 25) (tgt := 63) (by decide +kernel) (by decide) (fun b6 => ?_) (fun b6 => ?_)
      · have hf := (if_pos b6).symm.trans hf
        exact (e_X10_qFact_j63 hd) q5.1 q5.2 _ hf
      · have hf := (if_neg b6).symm.trans hf
        refine Ev.blk (pc' := 44) [(.iload_n 1, 0, 0, 0), (.bipush 62, 0, 0, 0)] (by decide +kernel) trivial rfl (?_)
        show Ev l d mi_X10_qFact 44 [some (.ref 65), some (.int q5.1)] [.int ((Int8.ofInt 62).toInt32), .int q5.1] (hp q5.2) 0 0 _
        refine Ev.icmp_eq (off := 19) (tgt := 63) (by decide +kernel) (by decide) (fun b7 => ?_) (fun b7 => ?_)
        · have hf := (if_pos b7).symm.trans hf
          exact (e_X10_qFact_j63 hd) q5.1 q5.2 _ hf
        · have hf := (if_neg b7).symm.trans hf
          refine Ev.blk (pc' := 50) [(.iload_n 1, 0, 0, 0), (.bipush 61, 0, 0, 0)] (by decide +kernel) trivial rfl (?_)
          show Ev l d mi_X10_qFact 50 [some (.ref 65), some (.int q5.1)] [.int ((Int8.ofInt 61).toInt32), .int q5.1] (hp q5.2) 0 0 _
          refine Ev.icmp_eq (off := 13) (tgt := 63) (by decide +kernel) (by decide) (fun b8 => ?_) (fun b8 => ?_)
          · have hf := (if_pos b8).symm.trans hf
            exact (e_X10_qFact_j63 hd) q5.1 q5.2 _ hf
          · have hf := (if_neg b8).symm.trans hf
            refine Ev.blk (pc' := 59) [(.aload_n 0, 0, 0, 0), (.iconst 1, 0, 0, 0), (.aload_n 0, 0, 0, 0), (.getfield 284, 0, 10, 2)] (by decide +kernel) ⟨kf_10_284, trivial⟩ rfl (And.intro (kc rfl rfl) (?_))
            show Ev l d mi_X10_qFact 59 [some (.ref 65), some (.int q5.1)] [.int (q5.2.1 65 2), .int (Int32.ofInt 1), .ref 65] (hp q5.2) 0 0 _
            obtain ⟨q9, hq9, hf⟩ := bd_some hf
            refine Ev.callV (o := 65) (M' := mi_X10_fail) (d' := d - 1) (As := [.int (Int32.ofInt 1), .int (q5.2.1 65 2)]) (rest := []) (r' := (none, hp q9)) (e_X10_fail (d := d - 1) (by omega) (Int32.ofInt 1) (q5.2.1 65 2) q5.2 _ hq9) (by omega) wm_X10_fail wi_X10_fail wv_X10_fail km_10_308 (kc rfl rfl) (Nat.le_of_ble_eq_true rfl) rfl rfl rfl (Nat.le_of_ble_eq_true rfl) ⟨Nat.le_of_ble_eq_true rfl, Nat.le_of_ble_eq_true rfl⟩ (by decide +kernel) ?_
            show Ev l d mi_X10_qFact 62 [some (.ref 65), some (.int q5.1)] [] (hp q9) 0 0 _
            cases hf
            exact Ev.vret rfl (by decide +kernel) (Nat.le_refl _) (Nat.le_refl _)
    · have hf := (if_neg b4).symm.trans hf
      cases hf
      exact Ev.vret rfl (by decide +kernel) (Nat.le_refl _) (Nat.le_refl _)
  · have hf := (if_neg b2).symm.trans hf
    refine Ev.blk (pc' := 14) [(.aload_n 0, 0, 0, 0), (.bipush 13, 0, 0, 0)] (by decide +kernel) trivial rfl (?_)
    show Ev l d mi_X10_qFact 14 [some (.ref 65), none] [.int ((Int8.ofInt 13).toInt32), .ref 65] (hp q1.2) 0 0 _
    obtain ⟨q10, hq10, hf⟩ := bd_some hf
    refine Ev.callV (o := 65) (M' := mi_X10_qCode) (d' := d - 1) (As := [.int ((Int8.ofInt 13).toInt32)]) (rest := []) (r' := (none, hp q10)) (e_X10_qCode (d := d - 1) (by omega) ((Int8.ofInt 13).toInt32) q1.2 _ hq10) (by omega) wm_X10_qCode wi_X10_qCode wv_X10_qCode km_10_679 (kc rfl rfl) (Nat.le_of_ble_eq_true rfl) rfl rfl rfl (Nat.le_of_ble_eq_true rfl) ⟨Nat.le_of_ble_eq_true rfl, Nat.le_of_ble_eq_true rfl⟩ (by decide +kernel) ?_
    show Ev l d mi_X10_qFact 17 [some (.ref 65), none] [] (hp q10) 0 0 _
    cases hf
    exact Ev.vret rfl (by decide +kernel) (Nat.le_refl _) (Nat.le_refl _)
def f_X10_qHasSquare_L2 : Nat → Int32 → ST → Option (Int32 × ST)
  | 0, _, _ => none
  | n + 1, x1, s => (if (s.1 65 113) ≤ x1 then some ((Int32.ofInt 0), s) else gd (ib x1 1700) ((if (s.1 147 x1.toNatClampNeg) = ((Int8.ofInt 25).toInt32) then some ((Int32.ofInt 1), s) else (f_X10_qHasSquare_L2 n) (x1 + Int32.ofInt 1) s)))
set_option maxHeartbeats 2000000 in
set_option maxRecDepth 20000 in
theorem e_X10_qHasSquare_L2 {l : Launch} {d : Nat} (hd : 1 ≤ d) : ∀ (n : Nat) (x1 : Int32) (s : ST) (r : Int32 × ST), f_X10_qHasSquare_L2 n x1 s = some r → Ev l d mi_X10_qHasSquare 2 [some (.ref 65), some (.int x1)] [] (hp s) 0 0 (some (.int r.1), hp r.2) := by
  intro n
  induction n with
  | zero =>
    intro x1 s r hf
    cases hf
  | succ n ih =>
    intro x1 s r hf
    unfold f_X10_qHasSquare_L2 at hf
    refine Ev.blk (pc' := 7) [(.iload_n 1, 0, 0, 0), (.aload_n 0, 0, 0, 0), (.getfield 382, 0, 10, 113)] (by decide +kernel) ⟨kf_10_382, trivial⟩ rfl (And.intro (kc rfl rfl) (?_))
    show Ev l d mi_X10_qHasSquare 7 [some (.ref 65), some (.int x1)] [.int (s.1 65 113), .int x1] (hp s) 0 0 _
    refine Ev.icmp_ge (off := 22) (tgt := 29) (by decide +kernel) (by decide) (fun b1 => ?_) (fun b1 => ?_)
    · have hf := (if_pos b1).symm.trans hf
      refine Ev.blk (pc' := 30) [(.iconst 0, 0, 0, 0)] (by decide +kernel) trivial rfl (?_)
      show Ev l d mi_X10_qHasSquare 30 [some (.ref 65), some (.int x1)] [.int (Int32.ofInt 0)] (hp s) 0 0 _
      cases hf
      exact Ev.iret .boolean rfl rfl (by decide +kernel) (Nat.le_refl _) (Nat.le_refl _)
    · have hf := (if_neg b1).symm.trans hf
      obtain ⟨c2, hf⟩ := gd_some hf
      refine Ev.blk (pc' := 18) [(.aload_n 0, 0, 0, 0), (.getfield 266, 0, 10, 112), (.iload_n 1, 0, 0, 0), (.iaload, 0, 0, 0), (.bipush 25, 0, 0, 0)] (by decide +kernel) ⟨kf_10_266, trivial⟩ rfl (And.intro (kc rfl rfl) (Exists.intro 147 (And.intro rfl (And.intro (kc rfl rfl) (And.intro (ib_ok c2) (?_))))))
      show Ev l d mi_X10_qHasSquare 18 [some (.ref 65), some (.int x1)] [.int ((Int8.ofInt 25).toInt32), .int (s.1 147 x1.toNatClampNeg)] (hp s) 0 0 _
      refine Ev.icmp_ne (off := 5) (tgt := 23) (by decide +kernel) (by decide) (fun b3 => ?_) (fun b3 => ?_)
      · have hf := (if_neg b3).symm.trans hf
        refine Ev.blk (pc' := 26) [(.iinc 1 1, 0, 0, 0)] (by decide +kernel) trivial rfl (And.intro (Nat.le_of_ble_eq_true rfl) (?_))
        show Ev l d mi_X10_qHasSquare 26 [some (.ref 65), some (.int (x1 + Int32.ofInt 1))] [] (hp s) 0 0 _
        refine Ev.goto (off := -24) (tgt := 2) (by decide +kernel) (by decide) ?_
        exact ih (x1 + Int32.ofInt 1) s _ hf
      · have hf := (if_pos b3).symm.trans hf
        refine Ev.blk (pc' := 22) [(.iconst 1, 0, 0, 0)] (by decide +kernel) trivial rfl (?_)
        show Ev l d mi_X10_qHasSquare 22 [some (.ref 65), some (.int x1)] [.int (Int32.ofInt 1)] (hp s) 0 0 _
        cases hf
        exact Ev.iret .boolean rfl rfl (by decide +kernel) (Nat.le_refl _) (Nat.le_refl _)
def f_X10_qHasSquare (s : ST) : Option (Int32 × ST) := (f_X10_qHasSquare_L2 fuel) (Int32.ofInt 0) s
set_option maxHeartbeats 2000000 in
set_option maxRecDepth 20000 in
theorem e_X10_qHasSquare {l : Launch} {d : Nat} (hd : 1 ≤ d) (s : ST) (r : Int32 × ST) (hf : f_X10_qHasSquare s = some r) : Cl l d mi_X10_qHasSquare [.ref 65] (hp s) (some (.int r.1), hp r.2) := by
  refine Ev.entry (by decide +kernel) rfl rfl ?_
  show Ev l d mi_X10_qHasSquare 0 [some (.ref 65), none] [] (hp s) 0 0 _
  unfold f_X10_qHasSquare at hf
  refine Ev.blk (pc' := 2) [(.iconst 0, 0, 0, 0), (.istore_n 1, 0, 0, 0)] (by decide +kernel) trivial rfl (And.intro (Nat.le_of_ble_eq_true rfl) (?_))
  show Ev l d mi_X10_qHasSquare 2 [some (.ref 65), some (.int (Int32.ofInt 0))] [] (hp s) 0 0 _
  exact (e_X10_qHasSquare_L2 hd fuel) (Int32.ofInt 0) s _ hf
def f_X10_qDropsNots_L0 : Nat → ST → Option (ST)
  | 0, _ => none
  | n + 1, s => (if (s.1 65 5) = 0 then (f_X10_qIsOn ((Int8.ofInt 12).toInt32) s).bind (fun q2 => (if q2.1 = 0 then some q2.2 else lt (uI q2.2 65 114 ((q2.2.1 65 114) - (Int32.ofInt 1))) (fun s4 => (f_X10_qDrops s4).bind (fun q5 => (f_X10_qDropsNots_L0 n) q5)))) else some s)
set_option maxHeartbeats 2000000 in
set_option maxRecDepth 20000 in
theorem e_X10_qDropsNots_L0 {l : Launch} {d : Nat} (hd : 3 ≤ d) : ∀ (n : Nat) (s : ST) (r : ST), f_X10_qDropsNots_L0 n s = some r → Ev l d mi_X10_qDropsNots 0 [some (.ref 65)] [] (hp s) 0 0 (none, hp r) := by
  intro n
  induction n with
  | zero =>
    intro s r hf
    cases hf
  | succ n ih =>
    intro s r hf
    unfold f_X10_qDropsNots_L0 at hf
    refine Ev.blk (pc' := 4) [(.aload_n 0, 0, 0, 0), (.getfield 278, 0, 10, 5)] (by decide +kernel) ⟨kf_10_278, trivial⟩ rfl (And.intro (kc rfl rfl) (?_))
    show Ev l d mi_X10_qDropsNots 4 [some (.ref 65)] [.int (s.1 65 5)] (hp s) 0 0 _
    refine Ev.if_ne (off := 29) (tgt := 33) (by decide +kernel) (by decide) (fun b1 => ?_) (fun b1 => ?_)
    · have hf := (if_neg b1).symm.trans hf
      cases hf
      exact Ev.vret rfl (by decide +kernel) (Nat.le_refl _) (Nat.le_refl _)
    · have hf := (if_pos b1).symm.trans hf
      refine Ev.blk (pc' := 10) [(.aload_n 0, 0, 0, 0), (.bipush 12, 0, 0, 0)] (by decide +kernel) trivial rfl (?_)
      show Ev l d mi_X10_qDropsNots 10 [some (.ref 65)] [.int ((Int8.ofInt 12).toInt32), .ref 65] (hp s) 0 0 _
      obtain ⟨q2, hq2, hf⟩ := bd_some hf
      refine Ev.callV (o := 65) (M' := mi_X10_qIsOn) (d' := d - 1) (As := [.int ((Int8.ofInt 12).toInt32)]) (rest := []) (r' := (some (.int q2.1), hp q2.2)) (e_X10_qIsOn (d := d - 1) (by omega) ((Int8.ofInt 12).toInt32) s _ hq2) (by omega) wm_X10_qIsOn wi_X10_qIsOn wv_X10_qIsOn km_10_712 (kc rfl rfl) (Nat.le_of_ble_eq_true rfl) rfl rfl rfl (Nat.le_of_ble_eq_true rfl) ⟨Nat.le_of_ble_eq_true rfl, Nat.le_of_ble_eq_true rfl⟩ (by decide +kernel) ?_
      show Ev l d mi_X10_qDropsNots 13 [some (.ref 65)] [.int q2.1] (hp q2.2) 0 0 _
      refine Ev.if_eq (off := 20) (tgt := 33) (by decide +kernel) (by decide) (fun b3 => ?_) (fun b3 => ?_)
      · have hf := (if_pos b3).symm.trans hf
        cases hf
        exact Ev.vret rfl (by decide +kernel) (Nat.le_refl _) (Nat.le_refl _)
      · have hf := (if_neg b3).symm.trans hf
        obtain ⟨s4, hs4, hf⟩ := lt_some hf
        refine Ev.blk (pc' := 27) [(.aload_n 0, 0, 0, 0), (.dup, 0, 0, 0), (.getfield 385, 0, 10, 114), (.iconst 1, 0, 0, 0), (.isub, 0, 0, 0), (.putfield 385, 0, 10, 114), (.aload_n 0, 0, 0, 0)] (by decide +kernel) ⟨kf_10_385, ⟨⟨kf_10_385, Or.inl rfl⟩, trivial⟩⟩ rfl (And.intro rfl (And.intro (kc rfl rfl) (And.intro (kc rfl rfl) (?_))))
        show Ev l d mi_X10_qDropsNots 27 [some (.ref 65)] [.ref 65] (hp (uI q2.2 65 114 ((q2.2.1 65 114) - (Int32.ofInt 1)))) 0 0 _
        rw [← hs4]
        obtain ⟨q5, hq5, hf⟩ := bd_some hf
        refine Ev.callV (o := 65) (M' := mi_X10_qDrops) (d' := d - 1) (As := []) (rest := []) (r' := (none, hp q5)) (e_X10_qDrops (d := d - 1) (by omega) s4 _ hq5) (by omega) wm_X10_qDrops wi_X10_qDrops wv_X10_qDrops km_10_685 (kc rfl rfl) (Nat.le_of_ble_eq_true rfl) rfl rfl rfl (Nat.le_of_ble_eq_true rfl) ⟨Nat.le_of_ble_eq_true rfl, Nat.le_of_ble_eq_true rfl⟩ (by decide +kernel) ?_
        show Ev l d mi_X10_qDropsNots 30 [some (.ref 65)] [] (hp q5) 0 0 _
        refine Ev.goto (off := -30) (tgt := 0) (by decide +kernel) (by decide) ?_
        exact ih q5 _ hf
def f_X10_qDropsNots (s : ST) : Option (ST) := (f_X10_qDropsNots_L0 fuel)  s
set_option maxHeartbeats 2000000 in
set_option maxRecDepth 20000 in
theorem e_X10_qDropsNots {l : Launch} {d : Nat} (hd : 3 ≤ d) (s : ST) (r : ST) (hf : f_X10_qDropsNots s = some r) : Cl l d mi_X10_qDropsNots [.ref 65] (hp s) (none, hp r) := by
  refine Ev.entry (by decide +kernel) rfl rfl ?_
  show Ev l d mi_X10_qDropsNots 0 [some (.ref 65)] [] (hp s) 0 0 _
  unfold f_X10_qDropsNots at hf
  exact Ev.wk ((e_X10_qDropsNots_L0 hd fuel)  s _ hf) (And.intro (Or.inr rfl) (trivial))
def f_X10_qGoesOnTest_L33 (k49 : ST → Option (Int32 × ST)) : Nat → ST → Option (Int32 × ST)
  | 0, _ => none
  | n + 1, s => (f_X10_qIsOn ((Int8.ofInt 25).toInt32) s).bind (fun q7 => (if q7.1 = 0 then (f_X10_qDrops q7.2).bind (fun q9 => (f_X10_qGoesOnTest_L33 k49 n) q9) else k49 q7.2))
set_option maxHeartbeats 2000000 in
set_option maxRecDepth 20000 in
theorem e_X10_qGoesOnTest_L33 {l : Launch} {d : Nat} (hd : 4 ≤ d) (k49 : ST → Option (Int32 × ST)) (hk49 : ∀ (s : ST) (r : Int32 × ST), k49 s = some r → Ev l d mi_X10_qGoesOnTest 49 [some (.ref 65)] [] (hp s) 0 0 (some (.int r.1), hp r.2)) : ∀ (n : Nat) (s : ST) (r : Int32 × ST), f_X10_qGoesOnTest_L33 k49 n s = some r → Ev l d mi_X10_qGoesOnTest 33 [some (.ref 65)] [] (hp s) 0 0 (some (.int r.1), hp r.2) := by
  intro n
  induction n with
  | zero =>
    intro s r hf
    cases hf
  | succ n ih =>
    intro s r hf
    unfold f_X10_qGoesOnTest_L33 at hf
    refine Ev.blk (pc' := 36) [(.aload_n 0, 0, 0, 0), (.bipush 25, 0, 0, 0)] (by decide +kernel) trivial rfl (?_)
    show Ev l d mi_X10_qGoesOnTest 36 [some (.ref 65)] [.int ((Int8.ofInt 25).toInt32), .ref 65] (hp s) 0 0 _
    obtain ⟨q7, hq7, hf⟩ := bd_some hf
    refine Ev.callV (o := 65) (M' := mi_X10_qIsOn) (d' := d - 1) (As := [.int ((Int8.ofInt 25).toInt32)]) (rest := []) (r' := (some (.int q7.1), hp q7.2)) (e_X10_qIsOn (d := d - 1) (by omega) ((Int8.ofInt 25).toInt32) s _ hq7) (by omega) wm_X10_qIsOn wi_X10_qIsOn wv_X10_qIsOn km_10_712 (kc rfl rfl) (Nat.le_of_ble_eq_true rfl) rfl rfl rfl (Nat.le_of_ble_eq_true rfl) ⟨Nat.le_of_ble_eq_true rfl, Nat.le_of_ble_eq_true rfl⟩ (by decide +kernel) ?_
    show Ev l d mi_X10_qGoesOnTest 39 [some (.ref 65)] [.int q7.1] (hp q7.2) 0 0 _
    refine Ev.if_ne (off := 10) (tgt := 49) (by decide +kernel) (by decide) (fun b8 => ?_) (fun b8 => ?_)
    · have hf := (if_neg b8).symm.trans hf
      exact hk49 q7.2 _ hf
    · have hf := (if_pos b8).symm.trans hf
      refine Ev.blk (pc' := 43) [(.aload_n 0, 0, 0, 0)] (by decide +kernel) trivial rfl (?_)
      show Ev l d mi_X10_qGoesOnTest 43 [some (.ref 65)] [.ref 65] (hp q7.2) 0 0 _
      obtain ⟨q9, hq9, hf⟩ := bd_some hf
      refine Ev.callV (o := 65) (M' := mi_X10_qDrops) (d' := d - 1) (As := []) (rest := []) (r' := (none, hp q9)) (e_X10_qDrops (d := d - 1) (by omega) q7.2 _ hq9) (by omega) wm_X10_qDrops wi_X10_qDrops wv_X10_qDrops km_10_685 (kc rfl rfl) (Nat.le_of_ble_eq_true rfl) rfl rfl rfl (Nat.le_of_ble_eq_true rfl) ⟨Nat.le_of_ble_eq_true rfl, Nat.le_of_ble_eq_true rfl⟩ (by decide +kernel) ?_
      show Ev l d mi_X10_qGoesOnTest 46 [some (.ref 65)] [] (hp q9) 0 0 _
      refine Ev.goto (off := -13) (tgt := 33) (by decide +kernel) (by decide) ?_
      exact ih q9 _ hf
def f_X10_qGoesOnTest_j49 (k0 : ST → Option (Int32 × ST)) (s : ST) : Option (Int32 × ST) := lt (uI (uI s 65 113 ((s.1 65 113) - (Int32.ofInt 1))) 65 114 (((uI s 65 113 ((s.1 65 113) - (Int32.ofInt 1))).1 65 114) - (Int32.ofInt 1))) (fun s18 => (f_X10_qDropsNots s18).bind (fun q19 => k0 q19))
set_option maxHeartbeats 2000000 in
set_option maxRecDepth 20000 in
theorem e_X10_qGoesOnTest_j49 {l : Launch} {d : Nat} (hd : 4 ≤ d) (k0 : ST → Option (Int32 × ST)) (hk0 : ∀ (s : ST) (r : Int32 × ST), k0 s = some r → Ev l d mi_X10_qGoesOnTest 0 [some (.ref 65)] [] (hp s) 0 0 (some (.int r.1), hp r.2)) (s : ST) (r : Int32 × ST) (hf : f_X10_qGoesOnTest_j49 k0 s = some r) : Ev l d mi_X10_qGoesOnTest 49 [some (.ref 65)] [] (hp s) 0 0 (some (.int r.1), hp r.2) := by
  unfold f_X10_qGoesOnTest_j49 at hf
  obtain ⟨s18, hs18, hf⟩ := lt_some hf
  refine Ev.blk (pc' := 70) [(.aload_n 0, 0, 0, 0), (.dup, 0, 0, 0), (.getfield 382, 0, 10, 113), (.iconst 1, 0, 0, 0), (.isub, 0, 0, 0), (.putfield 382, 0, 10, 113), (.aload_n 0, 0, 0, 0), (.dup, 0, 0, 0), (.getfield 385, 0, 10, 114), (.iconst 1, 0, 0, 0), (.isub, 0, 0, 0), (.putfield 385, 0, 10, 114), (.aload_n 0, 0, 0, 0)] (by decide +kernel) ⟨kf_10_382, ⟨⟨kf_10_382, Or.inl rfl⟩, ⟨kf_10_385, ⟨⟨kf_10_385, Or.inl rfl⟩, trivial⟩⟩⟩⟩ rfl (And.intro rfl (And.intro (kc rfl rfl) (And.intro (kc rfl rfl) (And.intro rfl (And.intro (kc rfl rfl) (And.intro (kc rfl rfl) (?_)))))))
  show Ev l d mi_X10_qGoesOnTest 70 [some (.ref 65)] [.ref 65] (hp (uI (uI s 65 113 ((s.1 65 113) - (Int32.ofInt 1))) 65 114 (((uI s 65 113 ((s.1 65 113) - (Int32.ofInt 1))).1 65 114) - (Int32.ofInt 1)))) 0 0 _
  rw [← hs18]
  obtain ⟨q19, hq19, hf⟩ := bd_some hf
  refine Ev.callV (o := 65) (M' := mi_X10_qDropsNots) (d' := d - 1) (As := []) (rest := []) (r' := (none, hp q19)) (e_X10_qDropsNots (d := d - 1) (by omega) s18 _ hq19) (by omega) wm_X10_qDropsNots wi_X10_qDropsNots wv_X10_qDropsNots km_10_724 (kc rfl rfl) (Nat.le_of_ble_eq_true rfl) rfl rfl rfl (Nat.le_of_ble_eq_true rfl) ⟨Nat.le_of_ble_eq_true rfl, Nat.le_of_ble_eq_true rfl⟩ (by decide +kernel) ?_
  show Ev l d mi_X10_qGoesOnTest 73 [some (.ref 65)] [] (hp q19) 0 0 _
  refine Ev.goto (off := -73) (tgt := 0) (by decide +kernel) (by decide) ?_
  exact hk0 q19 _ hf
def f_X10_qGoesOnTest_L0 (k76 : ST → Option (Int32 × ST)) : Nat → ST → Option (Int32 × ST)
  | 0, _ => none
  | n + 1, s => (if (s.1 65 5) = 0 then (f_X10_look s).bind (fun q2 => (if q2.1 = ((Int8.ofInt 93).toInt32) then (f_X10_qHasSquare q2.2).bind (fun q4 => (if q4.1 = 0 then k76 q4.2 else lt (uI q4.2 65 2 ((q4.2.1 65 2) + (Int32.ofInt 1))) (fun s6 => (f_X10_qGoesOnTest_L33 (f_X10_qGoesOnTest_j49 (f_X10_qGoesOnTest_L0 k76 n)) fuel) s6))) else k76 q2.2)) else k76 s)
set_option maxHeartbeats 2000000 in
set_option maxRecDepth 20000 in
theorem e_X10_qGoesOnTest_L0 {l : Launch} {d : Nat} (hd : 4 ≤ d) (k76 : ST → Option (Int32 × ST)) (hk76 : ∀ (s : ST) (r : Int32 × ST), k76 s = some r → Ev l d mi_X10_qGoesOnTest 76 [some (.ref 65)] [] (hp s) 0 0 (some (.int r.1), hp r.2)) : ∀ (n : Nat) (s : ST) (r : Int32 × ST), f_X10_qGoesOnTest_L0 k76 n s = some r → Ev l d mi_X10_qGoesOnTest 0 [some (.ref 65)] [] (hp s) 0 0 (some (.int r.1), hp r.2) := by
  intro n
  induction n with
  | zero =>
    intro s r hf
    cases hf
  | succ n ih =>
    intro s r hf
    unfold f_X10_qGoesOnTest_L0 at hf
    refine Ev.blk (pc' := 4) [(.aload_n 0, 0, 0, 0), (.getfield 278, 0, 10, 5)] (by decide +kernel) ⟨kf_10_278, trivial⟩ rfl (And.intro (kc rfl rfl) (?_))
    show Ev l d mi_X10_qGoesOnTest 4 [some (.ref 65)] [.int (s.1 65 5)] (hp s) 0 0 _
    refine Ev.if_ne (off := 72) (tgt := 76) (by decide +kernel) (by decide) (fun b1 => ?_) (fun b1 => ?_)
    · have hf := (if_neg b1).symm.trans hf
      exact hk76 s _ hf
    · have hf := (if_pos b1).symm.trans hf
      refine Ev.blk (pc' := 8) [(.aload_n 0, 0, 0, 0)] (by decide +kernel) trivial rfl (?_)
      show Ev l d mi_X10_qGoesOnTest 8 [some (.ref 65)] [.ref 65] (hp s) 0 0 _
      obtain ⟨q2, hq2, hf⟩ := bd_some hf
      refine Ev.callV (o := 65) (M' := mi_X10_look) (d' := d - 1) (As := []) (rest := []) (r' := (some (.int q2.1), hp q2.2)) (e_X10_look (d := d - 1) (by omega) s _ hq2) (by omega) wm_X10_look wi_X10_look wv_X10_look km_10_290 (kc rfl rfl) (Nat.le_of_ble_eq_true rfl) rfl rfl rfl (Nat.le_of_ble_eq_true rfl) ⟨Nat.le_of_ble_eq_true rfl, Nat.le_of_ble_eq_true rfl⟩ (by decide +kernel) ?_
      show Ev l d mi_X10_qGoesOnTest 11 [some (.ref 65)] [.int q2.1] (hp q2.2) 0 0 _
      refine Ev.blk (pc' := 13) [(.bipush 93, 0, 0, 0)] (by decide +kernel) trivial rfl (?_)
      show Ev l d mi_X10_qGoesOnTest 13 [some (.ref 65)] [.int ((Int8.ofInt 93).toInt32), .int q2.1] (hp q2.2) 0 0 _
      refine Ev.icmp_ne (off := 63) (tgt := 76) (by decide +kernel) (by decide) (fun b3 => ?_) (fun b3 => ?_)
      · have hf := (if_neg b3).symm.trans hf
        exact hk76 q2.2 _ hf
      · have hf := (if_pos b3).symm.trans hf
        refine Ev.blk (pc' := 17) [(.aload_n 0, 0, 0, 0)] (by decide +kernel) trivial rfl (?_)
        show Ev l d mi_X10_qGoesOnTest 17 [some (.ref 65)] [.ref 65] (hp q2.2) 0 0 _
        obtain ⟨q4, hq4, hf⟩ := bd_some hf
        refine Ev.callV (o := 65) (M' := mi_X10_qHasSquare) (d' := d - 1) (As := []) (rest := []) (r' := (some (.int q4.1), hp q4.2)) (e_X10_qHasSquare (d := d - 1) (by omega) q2.2 _ hq4) (by omega) wm_X10_qHasSquare wi_X10_qHasSquare wv_X10_qHasSquare km_10_730 (kc rfl rfl) (Nat.le_of_ble_eq_true rfl) rfl rfl rfl (Nat.le_of_ble_eq_true rfl) ⟨Nat.le_of_ble_eq_true rfl, Nat.le_of_ble_eq_true rfl⟩ (by decide +kernel) ?_
        show Ev l d mi_X10_qGoesOnTest 20 [some (.ref 65)] [.int q4.1] (hp q4.2) 0 0 _
        refine Ev.if_eq (off := 56) (tgt := 76) (by decide +kernel) (by decide) (fun b5 => ?_) (fun b5 => ?_)
        · have hf := (if_pos b5).symm.trans hf
          exact hk76 q4.2 _ hf
        · have hf := (if_neg b5).symm.trans hf
          obtain ⟨s6, hs6, hf⟩ := lt_some hf
          refine Ev.blk (pc' := 33) [(.aload_n 0, 0, 0, 0), (.dup, 0, 0, 0), (.getfield 284, 0, 10, 2), (.iconst 1, 0, 0, 0), (.iadd, 0, 0, 0), (.putfield 284, 0, 10, 2)] (by decide +kernel) ⟨kf_10_284, ⟨⟨kf_10_284, Or.inl rfl⟩, trivial⟩⟩ rfl (And.intro rfl (And.intro (kc rfl rfl) (And.intro (kc rfl rfl) (?_))))
          show Ev l d mi_X10_qGoesOnTest 33 [some (.ref 65)] [] (hp (uI q4.2 65 2 ((q4.2.1 65 2) + (Int32.ofInt 1)))) 0 0 _
          rw [← hs6]
          exact (e_X10_qGoesOnTest_L33 hd (f_X10_qGoesOnTest_j49 (f_X10_qGoesOnTest_L0 k76 n)) (e_X10_qGoesOnTest_j49 hd (f_X10_qGoesOnTest_L0 k76 n) ih) fuel) s6 _ hf
def f_X10_qGoesOnTest_j155 (k137 : ST → Option (Int32 × ST)) (s : ST) : Option (Int32 × ST) := (f_X10_qDrops s).bind (fun q29 => k137 q29)
set_option maxHeartbeats 2000000 in
set_option maxRecDepth 20000 in
theorem e_X10_qGoesOnTest_j155 {l : Launch} {d : Nat} (hd : 4 ≤ d) (k137 : ST → Option (Int32 × ST)) (hk137 : ∀ (s : ST) (r : Int32 × ST), k137 s = some r → Ev l d mi_X10_qGoesOnTest 137 [some (.ref 65)] [] (hp s) 0 0 (some (.int r.1), hp r.2)) (s : ST) (r : Int32 × ST) (hf : f_X10_qGoesOnTest_j155 k137 s = some r) : Ev l d mi_X10_qGoesOnTest 155 [some (.ref 65)] [] (hp s) 0 0 (some (.int r.1), hp r.2) := by
  unfold f_X10_qGoesOnTest_j155 at hf
  refine Ev.blk (pc' := 156) [(.aload_n 0, 0, 0, 0)] (by decide +kernel) trivial rfl (?_)
  show Ev l d mi_X10_qGoesOnTest 156 [some (.ref 65)] [.ref 65] (hp s) 0 0 _
  obtain ⟨q29, hq29, hf⟩ := bd_some hf
  refine Ev.callV (o := 65) (M' := mi_X10_qDrops) (d' := d - 1) (As := []) (rest := []) (r' := (none, hp q29)) (e_X10_qDrops (d := d - 1) (by omega) s _ hq29) (by omega) wm_X10_qDrops wi_X10_qDrops wv_X10_qDrops km_10_685 (kc rfl rfl) (Nat.le_of_ble_eq_true rfl) rfl rfl rfl (Nat.le_of_ble_eq_true rfl) ⟨Nat.le_of_ble_eq_true rfl, Nat.le_of_ble_eq_true rfl⟩ (by decide +kernel) ?_
  show Ev l d mi_X10_qGoesOnTest 159 [some (.ref 65)] [] (hp q29) 0 0 _
  refine Ev.goto (off := -22) (tgt := 137) (by decide +kernel) (by decide) ?_
  exact hk137 q29 _ hf
def f_X10_qGoesOnTest_L137 (k162 : ST → Option (Int32 × ST)) : Nat → ST → Option (Int32 × ST)
  | 0, _ => none
  | n + 1, s => (f_X10_qIsOn ((Int8.ofInt 10).toInt32) s).bind (fun q23 => (if q23.1 = 0 then (f_X10_qIsOn ((Int8.ofInt 11).toInt32) q23.2).bind (fun q25 => (if q25.1 = 0 then k162 q25.2 else (f_X10_qGoesOnTest_j155 (f_X10_qGoesOnTest_L137 k162 n)) q25.2)) else (f_X10_qGoesOnTest_j155 (f_X10_qGoesOnTest_L137 k162 n)) q23.2))
set_option maxHeartbeats 2000000 in
set_option maxRecDepth 20000 in
theorem e_X10_qGoesOnTest_L137 {l : Launch} {d : Nat} (hd : 4 ≤ d) (k162 : ST → Option (Int32 × ST)) (hk162 : ∀ (s : ST) (r : Int32 × ST), k162 s = some r → Ev l d mi_X10_qGoesOnTest 162 [some (.ref 65)] [] (hp s) 0 0 (some (.int r.1), hp r.2)) : ∀ (n : Nat) (s : ST) (r : Int32 × ST), f_X10_qGoesOnTest_L137 k162 n s = some r → Ev l d mi_X10_qGoesOnTest 137 [some (.ref 65)] [] (hp s) 0 0 (some (.int r.1), hp r.2) := by
  intro n
  induction n with
  | zero =>
    intro s r hf
    cases hf
  | succ n ih =>
    intro s r hf
    unfold f_X10_qGoesOnTest_L137 at hf
    refine Ev.blk (pc' := 140) [(.aload_n 0, 0, 0, 0), (.bipush 10, 0, 0, 0)] (by decide +kernel) trivial rfl (?_)
    show Ev l d mi_X10_qGoesOnTest 140 [some (.ref 65)] [.int ((Int8.ofInt 10).toInt32), .ref 65] (hp s) 0 0 _
    obtain ⟨q23, hq23, hf⟩ := bd_some hf
    refine Ev.callV (o := 65) (M' := mi_X10_qIsOn) (d' := d - 1) (As := [.int ((Int8.ofInt 10).toInt32)]) (rest := []) (r' := (some (.int q23.1), hp q23.2)) (e_X10_qIsOn (d := d - 1) (by omega) ((Int8.ofInt 10).toInt32) s _ hq23) (by omega) wm_X10_qIsOn wi_X10_qIsOn wv_X10_qIsOn km_10_712 (kc rfl rfl) (Nat.le_of_ble_eq_true rfl) rfl rfl rfl (Nat.le_of_ble_eq_true rfl) ⟨Nat.le_of_ble_eq_true rfl, Nat.le_of_ble_eq_true rfl⟩ (by decide +kernel) ?_
    show Ev l d mi_X10_qGoesOnTest 143 [some (.ref 65)] [.int q23.1] (hp q23.2) 0 0 _
    refine Ev.if_ne (off := 12) (tgt := 155) (by decide +kernel) (by decide) (fun b24 => ?_) (fun b24 => ?_)
    · have hf := (if_neg b24).symm.trans hf
      exact (e_X10_qGoesOnTest_j155 hd (f_X10_qGoesOnTest_L137 k162 n) ih) q23.2 _ hf
    · have hf := (if_pos b24).symm.trans hf
      refine Ev.blk (pc' := 149) [(.aload_n 0, 0, 0, 0), (.bipush 11, 0, 0, 0)] (by decide +kernel) trivial rfl (?_)
      show Ev l d mi_X10_qGoesOnTest 149 [some (.ref 65)] [.int ((Int8.ofInt 11).toInt32), .ref 65] (hp q23.2) 0 0 _
      obtain ⟨q25, hq25, hf⟩ := bd_some hf
      refine Ev.callV (o := 65) (M' := mi_X10_qIsOn) (d' := d - 1) (As := [.int ((Int8.ofInt 11).toInt32)]) (rest := []) (r' := (some (.int q25.1), hp q25.2)) (e_X10_qIsOn (d := d - 1) (by omega) ((Int8.ofInt 11).toInt32) q23.2 _ hq25) (by omega) wm_X10_qIsOn wi_X10_qIsOn wv_X10_qIsOn km_10_712 (kc rfl rfl) (Nat.le_of_ble_eq_true rfl) rfl rfl rfl (Nat.le_of_ble_eq_true rfl) ⟨Nat.le_of_ble_eq_true rfl, Nat.le_of_ble_eq_true rfl⟩ (by decide +kernel) ?_
      show Ev l d mi_X10_qGoesOnTest 152 [some (.ref 65)] [.int q25.1] (hp q25.2) 0 0 _
      refine Ev.if_eq (off := 10) (tgt := 162) (by decide +kernel) (by decide) (fun b26 => ?_) (fun b26 => ?_)
      · have hf := (if_pos b26).symm.trans hf
        exact hk162 q25.2 _ hf
      · have hf := (if_neg b26).symm.trans hf
        exact (e_X10_qGoesOnTest_j155 hd (f_X10_qGoesOnTest_L137 k162 n) ih) q25.2 _ hf
def f_X10_qGoesOnTest_j162 (s : ST) : Option (Int32 × ST) := gd (ib (s.1 65 113) 1700) (lt (uI (uI s 147 (s.1 65 113).toNatClampNeg ((Int8.ofInt 11).toInt32)) 65 113 (((uI s 147 (s.1 65 113).toNatClampNeg ((Int8.ofInt 11).toInt32)).1 65 113) + (Int32.ofInt 1))) (fun s31 => some ((Int32.ofInt 1), s31)))
set_option maxHeartbeats 2000000 in
set_option maxRecDepth 20000 in
theorem e_X10_qGoesOnTest_j162 {l : Launch} {d : Nat} (hd : 4 ≤ d) (s : ST) (r : Int32 × ST) (hf : f_X10_qGoesOnTest_j162 s = some r) : Ev l d mi_X10_qGoesOnTest 162 [some (.ref 65)] [] (hp s) 0 0 (some (.int r.1), hp r.2) := by
  unfold f_X10_qGoesOnTest_j162 at hf
  obtain ⟨c30, hf⟩ := gd_some hf
  obtain ⟨s31, hs31, hf⟩ := lt_some hf
  refine Ev.blk (pc' := 184) [(.aload_n 0, 0, 0, 0), (.getfield 266, 0, 10, 112), (.aload_n 0, 0, 0, 0), (.getfield 382, 0, 10, 113), (.bipush 11, 0, 0, 0), (.iastore, 0, 0, 0), (.aload_n 0, 0, 0, 0), (.dup, 0, 0, 0), (.getfield 382, 0, 10, 113), (.iconst 1, 0, 0, 0), (.iadd, 0, 0, 0), (.putfield 382, 0, 10, 113), (.iconst 1, 0, 0, 0)] (by decide +kernel) ⟨kf_10_266, ⟨kf_10_382, ⟨kf_10_382, ⟨⟨kf_10_382, Or.inl rfl⟩, trivial⟩⟩⟩⟩ rfl (And.intro (kc rfl rfl) (Exists.intro 147 (And.intro rfl (And.intro (kc rfl rfl) (And.intro (kc rfl rfl) (And.intro (ib_ok c30) (And.intro rfl (And.intro (kc rfl rfl) (And.intro (kc rfl rfl) (?_))))))))))
  show Ev l d mi_X10_qGoesOnTest 184 [some (.ref 65)] [.int (Int32.ofInt 1)] (hp (uI (uI s 147 (s.1 65 113).toNatClampNeg ((Int8.ofInt 11).toInt32)) 65 113 (((uI s 147 (s.1 65 113).toNatClampNeg ((Int8.ofInt 11).toInt32)).1 65 113) + (Int32.ofInt 1)))) 0 0 _
  rw [← hs31]
  cases hf
  exact Ev.iret .boolean rfl rfl (by decide +kernel) (Nat.le_refl _) (Nat.le_refl _)
def f_X10_qGoesOnTest_L87 (k103 : ST → Option (Int32 × ST)) : Nat → ST → Option (Int32 × ST)
  | 0, _ => none
  | n + 1, s => (f_X10_qIsOn ((Int8.ofInt 10).toInt32) s).bind (fun q20 => (if q20.1 = 0 then k103 q20.2 else (f_X10_qDrops q20.2).bind (fun q22 => (f_X10_qGoesOnTest_L87 k103 n) q22)))
set_option maxHeartbeats 2000000 in
set_option maxRecDepth 20000 in
theorem e_X10_qGoesOnTest_L87 {l : Launch} {d : Nat} (hd : 4 ≤ d) (k103 : ST → Option (Int32 × ST)) (hk103 : ∀ (s : ST) (r : Int32 × ST), k103 s = some r → Ev l d mi_X10_qGoesOnTest 103 [some (.ref 65)] [] (hp s) 0 0 (some (.int r.1), hp r.2)) : ∀ (n : Nat) (s : ST) (r : Int32 × ST), f_X10_qGoesOnTest_L87 k103 n s = some r → Ev l d mi_X10_qGoesOnTest 87 [some (.ref 65)] [] (hp s) 0 0 (some (.int r.1), hp r.2) := by
  intro n
  induction n with
  | zero =>
    intro s r hf
    cases hf
  | succ n ih =>
    intro s r hf
    unfold f_X10_qGoesOnTest_L87 at hf
    refine Ev.blk (pc' := 90) [(.aload_n 0, 0, 0, 0), (.bipush 10, 0, 0, 0)] (by decide +kernel) trivial rfl (?_)
    show Ev l d mi_X10_qGoesOnTest 90 [some (.ref 65)] [.int ((Int8.ofInt 10).toInt32), .ref 65] (hp s) 0 0 _
    obtain ⟨q20, hq20, hf⟩ := bd_some hf
    refine Ev.callV (o := 65) (M' := mi_X10_qIsOn) (d' := d - 1) (As := [.int ((Int8.ofInt 10).toInt32)]) (rest := []) (r' := (some (.int q20.1), hp q20.2)) (e_X10_qIsOn (d := d - 1) (by omega) ((Int8.ofInt 10).toInt32) s _ hq20) (by omega) wm_X10_qIsOn wi_X10_qIsOn wv_X10_qIsOn km_10_712 (kc rfl rfl) (Nat.le_of_ble_eq_true rfl) rfl rfl rfl (Nat.le_of_ble_eq_true rfl) ⟨Nat.le_of_ble_eq_true rfl, Nat.le_of_ble_eq_true rfl⟩ (by decide +kernel) ?_
    show Ev l d mi_X10_qGoesOnTest 93 [some (.ref 65)] [.int q20.1] (hp q20.2) 0 0 _
    refine Ev.if_eq (off := 10) (tgt := 103) (by decide +kernel) (by decide) (fun b21 => ?_) (fun b21 => ?_)
    · have hf := (if_pos b21).symm.trans hf
      exact hk103 q20.2 _ hf
    · have hf := (if_neg b21).symm.trans hf
      refine Ev.blk (pc' := 97) [(.aload_n 0, 0, 0, 0)] (by decide +kernel) trivial rfl (?_)
      show Ev l d mi_X10_qGoesOnTest 97 [some (.ref 65)] [.ref 65] (hp q20.2) 0 0 _
      obtain ⟨q22, hq22, hf⟩ := bd_some hf
      refine Ev.callV (o := 65) (M' := mi_X10_qDrops) (d' := d - 1) (As := []) (rest := []) (r' := (none, hp q22)) (e_X10_qDrops (d := d - 1) (by omega) q20.2 _ hq22) (by omega) wm_X10_qDrops wi_X10_qDrops wv_X10_qDrops km_10_685 (kc rfl rfl) (Nat.le_of_ble_eq_true rfl) rfl rfl rfl (Nat.le_of_ble_eq_true rfl) ⟨Nat.le_of_ble_eq_true rfl, Nat.le_of_ble_eq_true rfl⟩ (by decide +kernel) ?_
      show Ev l d mi_X10_qGoesOnTest 100 [some (.ref 65)] [] (hp q22) 0 0 _
      refine Ev.goto (off := -13) (tgt := 87) (by decide +kernel) (by decide) ?_
      exact ih q22 _ hf
def f_X10_qGoesOnTest_j103 (s : ST) : Option (Int32 × ST) := gd (ib (s.1 65 113) 1700) (lt (uI (uI s 147 (s.1 65 113).toNatClampNeg ((Int8.ofInt 10).toInt32)) 65 113 (((uI s 147 (s.1 65 113).toNatClampNeg ((Int8.ofInt 10).toInt32)).1 65 113) + (Int32.ofInt 1))) (fun s28 => some ((Int32.ofInt 1), s28)))
set_option maxHeartbeats 2000000 in
set_option maxRecDepth 20000 in
theorem e_X10_qGoesOnTest_j103 {l : Launch} {d : Nat} (hd : 4 ≤ d) (s : ST) (r : Int32 × ST) (hf : f_X10_qGoesOnTest_j103 s = some r) : Ev l d mi_X10_qGoesOnTest 103 [some (.ref 65)] [] (hp s) 0 0 (some (.int r.1), hp r.2) := by
  unfold f_X10_qGoesOnTest_j103 at hf
  obtain ⟨c27, hf⟩ := gd_some hf
  obtain ⟨s28, hs28, hf⟩ := lt_some hf
  refine Ev.blk (pc' := 125) [(.aload_n 0, 0, 0, 0), (.getfield 266, 0, 10, 112), (.aload_n 0, 0, 0, 0), (.getfield 382, 0, 10, 113), (.bipush 10, 0, 0, 0), (.iastore, 0, 0, 0), (.aload_n 0, 0, 0, 0), (.dup, 0, 0, 0), (.getfield 382, 0, 10, 113), (.iconst 1, 0, 0, 0), (.iadd, 0, 0, 0), (.putfield 382, 0, 10, 113), (.iconst 1, 0, 0, 0)] (by decide +kernel) ⟨kf_10_266, ⟨kf_10_382, ⟨kf_10_382, ⟨⟨kf_10_382, Or.inl rfl⟩, trivial⟩⟩⟩⟩ rfl (And.intro (kc rfl rfl) (Exists.intro 147 (And.intro rfl (And.intro (kc rfl rfl) (And.intro (kc rfl rfl) (And.intro (ib_ok c27) (And.intro rfl (And.intro (kc rfl rfl) (And.intro (kc rfl rfl) (?_))))))))))
  show Ev l d mi_X10_qGoesOnTest 125 [some (.ref 65)] [.int (Int32.ofInt 1)] (hp (uI (uI s 147 (s.1 65 113).toNatClampNeg ((Int8.ofInt 10).toInt32)) 65 113 (((uI s 147 (s.1 65 113).toNatClampNeg ((Int8.ofInt 10).toInt32)).1 65 113) + (Int32.ofInt 1)))) 0 0 _
  rw [← hs28]
  cases hf
  exact Ev.iret .boolean rfl rfl (by decide +kernel) (Nat.le_refl _) (Nat.le_refl _)
def f_X10_qGoesOnTest_j76 (s : ST) : Option (Int32 × ST) := (f_X10_takes 130 s).bind (fun q10 => (if q10.1 = 0 then (f_X10_takes 131 q10.2).bind (fun q12 => (if q12.1 = 0 then (if (q12.2.1 65 5) = 0 then (f_X10_qHasSquare q12.2).bind (fun q15 => (if q15.1 = 0 then some ((Int32.ofInt 0), q15.2) else (f_X10_fail (Int32.ofInt 1) (q15.2.1 65 2) q15.2).bind (fun q17 => some ((Int32.ofInt 0), q17)))) else some ((Int32.ofInt 0), q12.2)) else (f_X10_qGoesOnTest_L137 f_X10_qGoesOnTest_j162 fuel) q12.2)) else (f_X10_qGoesOnTest_L87 f_X10_qGoesOnTest_j103 fuel) q10.2))
set_option maxHeartbeats 2000000 in
set_option maxRecDepth 20000 in
theorem e_X10_qGoesOnTest_j76 {l : Launch} {d : Nat} (hd : 4 ≤ d) (s : ST) (r : Int32 × ST) (hf : f_X10_qGoesOnTest_j76 s = some r) : Ev l d mi_X10_qGoesOnTest 76 [some (.ref 65)] [] (hp s) 0 0 (some (.int r.1), hp r.2) := by
  unfold f_X10_qGoesOnTest_j76 at hf
  refine Ev.blk (pc' := 81) [(.aload_n 0, 0, 0, 0), (.aload_n 0, 0, 0, 0), (.getfield 215, 0, 10, 94)] (by decide +kernel) ⟨kf_10_215, trivial⟩ rfl (And.intro (kc rfl rfl) (Exists.intro 130 (And.intro rfl (?_))))
  show Ev l d mi_X10_qGoesOnTest 81 [some (.ref 65)] [.ref 130, .ref 65] (hp s) 0 0 _
  obtain ⟨q10, hq10, hf⟩ := bd_some hf
  refine Ev.callV (o := 65) (M' := mi_X10_takes) (d' := d - 1) (As := [.ref 130]) (rest := []) (r' := (some (.int q10.1), hp q10.2)) (e_X10_takes (d := d - 1) (by omega) 130 s _ hq10) (by omega) wm_X10_takes wi_X10_takes wv_X10_takes km_10_305 (kc rfl rfl) (Nat.le_of_ble_eq_true rfl) rfl rfl rfl (Nat.le_of_ble_eq_true rfl) ⟨Nat.le_of_ble_eq_true rfl, Nat.le_of_ble_eq_true rfl⟩ (by decide +kernel) ?_
  show Ev l d mi_X10_qGoesOnTest 84 [some (.ref 65)] [.int q10.1] (hp q10.2) 0 0 _
  refine Ev.if_eq (off := 42) (tgt := 126) (by decide +kernel) (by decide) (fun b11 => ?_) (fun b11 => ?_)
  · have hf := (if_pos b11).symm.trans hf
    refine Ev.blk (pc' := 131) [(.aload_n 0, 0, 0, 0), (.aload_n 0, 0, 0, 0), (.getfield 218, 0, 10, 95)] (by decide +kernel) ⟨kf_10_218, trivial⟩ rfl (And.intro (kc rfl rfl) (Exists.intro 131 (And.intro rfl (?_))))
    show Ev l d mi_X10_qGoesOnTest 131 [some (.ref 65)] [.ref 131, .ref 65] (hp q10.2) 0 0 _
    obtain ⟨q12, hq12, hf⟩ := bd_some hf
    refine Ev.callV (o := 65) (M' := mi_X10_takes) (d' := d - 1) (As := [.ref 131]) (rest := []) (r' := (some (.int q12.1), hp q12.2)) (e_X10_takes (d := d - 1) (by omega) 131 q10.2 _ hq12) (by omega) wm_X10_takes wi_X10_takes wv_X10_takes km_10_305 (kc rfl rfl) (Nat.le_of_ble_eq_true rfl) rfl rfl rfl (Nat.le_of_ble_eq_true rfl) ⟨Nat.le_of_ble_eq_true rfl, Nat.le_of_ble_eq_true rfl⟩ (by decide +kernel) ?_
    show Ev l d mi_X10_qGoesOnTest 134 [some (.ref 65)] [.int q12.1] (hp q12.2) 0 0 _
    refine Ev.if_eq (off := 51) (tgt := 185) (by decide +kernel) (by decide) (fun b13 => ?_) (fun b13 => ?_)
    · have hf := (if_pos b13).symm.trans hf
      refine Ev.blk (pc' := 189) [(.aload_n 0, 0, 0, 0), (.getfield 278, 0, 10, 5)] (by decide +kernel) ⟨kf_10_278, trivial⟩ rfl (And.intro (kc rfl rfl) (?_))
      show Ev l d mi_X10_qGoesOnTest 189 [some (.ref 65)] [.int (q12.2.1 65 5)] (hp q12.2) 0 0 _
      refine Ev.if_ne (off := 19) (tgt := 208) (by decide +kernel) (by decide) (fun b14 => ?_) (fun b14 => ?_)
      · have hf := (if_neg b14).symm.trans hf
        refine Ev.blk (pc' := 209) [(.iconst 0, 0, 0, 0)] (by decide +kernel) trivial rfl (?_)
        show Ev l d mi_X10_qGoesOnTest 209 [some (.ref 65)] [.int (Int32.ofInt 0)] (hp q12.2) 0 0 _
        cases hf
        exact Ev.iret .boolean rfl rfl (by decide +kernel) (Nat.le_refl _) (Nat.le_refl _)
      · have hf := (if_pos b14).symm.trans hf
        refine Ev.blk (pc' := 193) [(.aload_n 0, 0, 0, 0)] (by decide +kernel) trivial rfl (?_)
        show Ev l d mi_X10_qGoesOnTest 193 [some (.ref 65)] [.ref 65] (hp q12.2) 0 0 _
        obtain ⟨q15, hq15, hf⟩ := bd_some hf
        refine Ev.callV (o := 65) (M' := mi_X10_qHasSquare) (d' := d - 1) (As := []) (rest := []) (r' := (some (.int q15.1), hp q15.2)) (e_X10_qHasSquare (d := d - 1) (by omega) q12.2 _ hq15) (by omega) wm_X10_qHasSquare wi_X10_qHasSquare wv_X10_qHasSquare km_10_730 (kc rfl rfl) (Nat.le_of_ble_eq_true rfl) rfl rfl rfl (Nat.le_of_ble_eq_true rfl) ⟨Nat.le_of_ble_eq_true rfl, Nat.le_of_ble_eq_true rfl⟩ (by decide +kernel) ?_
        show Ev l d mi_X10_qGoesOnTest 196 [some (.ref 65)] [.int q15.1] (hp q15.2) 0 0 _
        refine Ev.if_eq (off := 12) (tgt := 208) (by decide +kernel) (by decide) (fun b16 => ?_) (fun b16 => ?_)
        · have hf := (if_pos b16).symm.trans hf
          refine Ev.blk (pc' := 209) [(.iconst 0, 0, 0, 0)] (by decide +kernel) trivial rfl (?_)
          show Ev l d mi_X10_qGoesOnTest 209 [some (.ref 65)] [.int (Int32.ofInt 0)] (hp q15.2) 0 0 _
          cases hf
          exact Ev.iret .boolean rfl rfl (by decide +kernel) (Nat.le_refl _) (Nat.le_refl _)
        · have hf := (if_neg b16).symm.trans hf
          refine Ev.blk (pc' := 205) [(.aload_n 0, 0, 0, 0), (.iconst 1, 0, 0, 0), (.aload_n 0, 0, 0, 0), (.getfield 284, 0, 10, 2)] (by decide +kernel) ⟨kf_10_284, trivial⟩ rfl (And.intro (kc rfl rfl) (?_))
          show Ev l d mi_X10_qGoesOnTest 205 [some (.ref 65)] [.int (q15.2.1 65 2), .int (Int32.ofInt 1), .ref 65] (hp q15.2) 0 0 _
          obtain ⟨q17, hq17, hf⟩ := bd_some hf
          refine Ev.callV (o := 65) (M' := mi_X10_fail) (d' := d - 1) (As := [.int (Int32.ofInt 1), .int (q15.2.1 65 2)]) (rest := []) (r' := (none, hp q17)) (e_X10_fail (d := d - 1) (by omega) (Int32.ofInt 1) (q15.2.1 65 2) q15.2 _ hq17) (by omega) wm_X10_fail wi_X10_fail wv_X10_fail km_10_308 (kc rfl rfl) (Nat.le_of_ble_eq_true rfl) rfl rfl rfl (Nat.le_of_ble_eq_true rfl) ⟨Nat.le_of_ble_eq_true rfl, Nat.le_of_ble_eq_true rfl⟩ (by decide +kernel) ?_
          show Ev l d mi_X10_qGoesOnTest 208 [some (.ref 65)] [] (hp q17) 0 0 _
          refine Ev.blk (pc' := 209) [(.iconst 0, 0, 0, 0)] (by decide +kernel) trivial rfl (?_)
          show Ev l d mi_X10_qGoesOnTest 209 [some (.ref 65)] [.int (Int32.ofInt 0)] (hp q17) 0 0 _
          cases hf
          exact Ev.iret .boolean rfl rfl (by decide +kernel) (Nat.le_refl _) (Nat.le_refl _)
    · have hf := (if_neg b13).symm.trans hf
      exact (e_X10_qGoesOnTest_L137 hd f_X10_qGoesOnTest_j162 (e_X10_qGoesOnTest_j162 hd) fuel) q12.2 _ hf
  · have hf := (if_neg b11).symm.trans hf
    exact (e_X10_qGoesOnTest_L87 hd f_X10_qGoesOnTest_j103 (e_X10_qGoesOnTest_j103 hd) fuel) q10.2 _ hf
def f_X10_qGoesOnTest (s : ST) : Option (Int32 × ST) := (f_X10_qGoesOnTest_L0 f_X10_qGoesOnTest_j76 fuel)  s
set_option maxHeartbeats 2000000 in
set_option maxRecDepth 20000 in
theorem e_X10_qGoesOnTest {l : Launch} {d : Nat} (hd : 4 ≤ d) (s : ST) (r : Int32 × ST) (hf : f_X10_qGoesOnTest s = some r) : Cl l d mi_X10_qGoesOnTest [.ref 65] (hp s) (some (.int r.1), hp r.2) := by
  refine Ev.entry (by decide +kernel) rfl rfl ?_
  show Ev l d mi_X10_qGoesOnTest 0 [some (.ref 65)] [] (hp s) 0 0 _
  unfold f_X10_qGoesOnTest at hf
  exact Ev.wk ((e_X10_qGoesOnTest_L0 hd f_X10_qGoesOnTest_j76 (e_X10_qGoesOnTest_j76 hd) fuel)  s _ hf) (And.intro (Or.inr rfl) (trivial))
def f_X10_qTest_L2 (k110 : ST → Option (ST)) : Nat → Int32 → ST → Option (ST)
  | 0, _, _ => none
  | n + 1, x1, s => (if x1 = 0 then k110 s else (if (s.1 65 5) = 0 then (f_X10_look s).bind (fun q3 => (if q3.1 = ((Int8.ofInt 91).toInt32) then (f_X10_qOpens ((Int8.ofInt 25).toInt32) (q3.2.1 65 2) q3.2).bind (fun q14 => lt (uI q14 65 2 ((q14.1 65 2) + (Int32.ofInt 1))) (fun s15 => (f_X10_qTest_L2 k110 n) x1 s15)) else (f_X10_isHere 129 q3.2).bind (fun q5 => (if q5.1 = 0 then (f_X10_qFact q5.2).bind (fun q7 => (f_X10_qDropsNots q7).bind (fun q8 => (if (q8.1 65 5) = 0 then (f_X10_qGoesOnTest q8).bind (fun q10 => (if q10.1 = 0 then (f_X10_qTest_L2 k110 n) (Int32.ofInt 0) q10.2 else (f_X10_qTest_L2 k110 n) (Int32.ofInt 1) q10.2)) else (f_X10_qTest_L2 k110 n) (Int32.ofInt 0) q8))) else (f_X10_qOpens ((Int8.ofInt 12).toInt32) (q5.2.1 65 2) q5.2).bind (fun q12 => (f_X10_asks 129 q12).bind (fun q13 => (f_X10_qTest_L2 k110 n) x1 q13)))))) else k110 s))
set_option maxHeartbeats 2000000 in
set_option maxRecDepth 20000 in
theorem e_X10_qTest_L2 {l : Launch} {d : Nat} (hd : 9 ≤ d) (k110 : ST → Option (ST)) (hk110 : ∀ (s : ST) (r : ST), k110 s = some r → Ev l d mi_X10_qTest 110 [some (.ref 65), none, none] [] (hp s) 0 0 (none, hp r)) : ∀ (n : Nat) (x1 : Int32) (s : ST) (r : ST), f_X10_qTest_L2 k110 n x1 s = some r → Ev l d mi_X10_qTest 2 [some (.ref 65), some (.int x1), none] [] (hp s) 0 0 (none, hp r) := by
  intro n
  induction n with
  | zero =>
    intro x1 s r hf
    cases hf
  | succ n ih =>
    intro x1 s r hf
    unfold f_X10_qTest_L2 at hf
    refine Ev.blk (pc' := 3) [(.iload_n 1, 0, 0, 0)] (by decide +kernel) trivial rfl (?_)
    show Ev l d mi_X10_qTest 3 [some (.ref 65), some (.int x1), none] [.int x1] (hp s) 0 0 _
    refine Ev.if_eq (off := 107) (tgt := 110) (by decide +kernel) (by decide) (fun b1 => ?_) (fun b1 => ?_)
    · have hf := (if_pos b1).symm.trans hf
      exact Ev.wk (hk110 s _ hf) (And.intro (Or.inr rfl) (And.intro (Or.inl rfl) (And.intro (Or.inr rfl) (trivial))))
    · have hf := (if_neg b1).symm.trans hf
      refine Ev.blk (pc' := 10) [(.aload_n 0, 0, 0, 0), (.getfield 278, 0, 10, 5)] (by decide +kernel) ⟨kf_10_278, trivial⟩ rfl (And.intro (kc rfl rfl) (?_))
      show Ev l d mi_X10_qTest 10 [some (.ref 65), some (.int x1), none] [.int (s.1 65 5)] (hp s) 0 0 _
      refine Ev.if_ne (off := 100) (tgt := 110) (by decide +kernel) (by decide) (fun b2 => ?_) (fun b2 => ?_)
      · have hf := (if_neg b2).symm.trans hf
        exact Ev.wk (hk110 s _ hf) (And.intro (Or.inr rfl) (And.intro (Or.inl rfl) (And.intro (Or.inr rfl) (trivial))))
      · have hf := (if_pos b2).symm.trans hf
        refine Ev.blk (pc' := 14) [(.aload_n 0, 0, 0, 0)] (by decide +kernel) trivial rfl (?_)
        show Ev l d mi_X10_qTest 14 [some (.ref 65), some (.int x1), none] [.ref 65] (hp s) 0 0 _
        obtain ⟨q3, hq3, hf⟩ := bd_some hf
        refine Ev.callV (o := 65) (M' := mi_X10_look) (d' := d - 1) (As := []) (rest := []) (r' := (some (.int q3.1), hp q3.2)) (e_X10_look (d := d - 1) (by omega) s _ hq3) (by omega) wm_X10_look wi_X10_look wv_X10_look km_10_290 (kc rfl rfl) (Nat.le_of_ble_eq_true rfl) rfl rfl rfl (Nat.le_of_ble_eq_true rfl) ⟨Nat.le_of_ble_eq_true rfl, Nat.le_of_ble_eq_true rfl⟩ (by decide +kernel) ?_
        show Ev l d mi_X10_qTest 17 [some (.ref 65), some (.int x1), none] [.int q3.1] (hp q3.2) 0 0 _
        refine Ev.blk (pc' := 21) [(.istore_n 2, 0, 0, 0), (.iload_n 2, 0, 0, 0), (.bipush 91, 0, 0, 0)] (by decide +kernel) trivial rfl (And.intro (Nat.le_of_ble_eq_true rfl) (?_))
        show Ev l d mi_X10_qTest 21 [some (.ref 65), some (.int x1), some (.int q3.1)] [.int ((Int8.ofInt 91).toInt32), .int q3.1] (hp q3.2) 0 0 _
        refine Ev.icmp_ne (off := 26) (tgt := 47) (by decide +kernel) (by decide) (fun b4 => ?_) (fun b4 => ?_)
        · have hf := (if_neg b4).symm.trans hf
          refine Ev.blk (pc' := 52) [(.aload_n 0, 0, 0, 0), (.aload_n 0, 0, 0, 0), (.getfield 212, 0, 10, 93)] (by decide +kernel) ⟨kf_10_212, trivial⟩ rfl (And.intro (kc rfl rfl) (Exists.intro 129 (And.intro rfl (?_))))
          show Ev l d mi_X10_qTest 52 [some (.ref 65), some (.int x1), some (.int q3.1)] [.ref 129, .ref 65] (hp q3.2) 0 0 _
          obtain ⟨q5, hq5, hf⟩ := bd_some hf
          refine Ev.callV (o := 65) (M' := mi_X10_isHere) (d' := d - 1) (As := [.ref 129]) (rest := []) (r' := (some (.int q5.1), hp q5.2)) (e_X10_isHere (d := d - 1) (by omega) 129 q3.2 _ hq5) (by omega) wm_X10_isHere wi_X10_isHere wv_X10_isHere km_10_301 (kc rfl rfl) (Nat.le_of_ble_eq_true rfl) rfl rfl rfl (Nat.le_of_ble_eq_true rfl) ⟨Nat.le_of_ble_eq_true rfl, Nat.le_of_ble_eq_true rfl⟩ (by decide +kernel) ?_
          show Ev l d mi_X10_qTest 55 [some (.ref 65), some (.int x1), some (.int q3.1)] [.int q5.1] (hp q5.2) 0 0 _
          refine Ev.if_eq (off := 24) (tgt := 79) (by decide +kernel) (by decide) (fun b6 => ?_) (fun b6 => ?_)
          · have hf := (if_pos b6).symm.trans hf
            refine Ev.blk (pc' := 80) [(.aload_n 0, 0, 0, 0)] (by decide +kernel) trivial rfl (?_)
            show Ev l d mi_X10_qTest 80 [some (.ref 65), some (.int x1), some (.int q3.1)] [.ref 65] (hp q5.2) 0 0 _
            obtain ⟨q7, hq7, hf⟩ := bd_some hf
            refine Ev.callV (o := 65) (M' := mi_X10_qFact) (d' := d - 1) (As := []) (rest := []) (r' := (none, hp q7)) (e_X10_qFact (d := d - 1) (by omega) q5.2 _ hq7) (by omega) wm_X10_qFact wi_X10_qFact wv_X10_qFact km_10_721 (kc rfl rfl) (Nat.le_of_ble_eq_true rfl) rfl rfl rfl (Nat.le_of_ble_eq_true rfl) ⟨Nat.le_of_ble_eq_true rfl, Nat.le_of_ble_eq_true rfl⟩ (by decide +kernel) ?_
            show Ev l d mi_X10_qTest 83 [some (.ref 65), some (.int x1), some (.int q3.1)] [] (hp q7) 0 0 _
            refine Ev.blk (pc' := 84) [(.aload_n 0, 0, 0, 0)] (by decide +kernel) trivial rfl (?_)
            show Ev l d mi_X10_qTest 84 [some (.ref 65), some (.int x1), some (.int q3.1)] [.ref 65] (hp q7) 0 0 _
            obtain ⟨q8, hq8, hf⟩ := bd_some hf
            refine Ev.callV (o := 65) (M' := mi_X10_qDropsNots) (d' := d - 1) (As := []) (rest := []) (r' := (none, hp q8)) (e_X10_qDropsNots (d := d - 1) (by omega) q7 _ hq8) (by omega) wm_X10_qDropsNots wi_X10_qDropsNots wv_X10_qDropsNots km_10_724 (kc rfl rfl) (Nat.le_of_ble_eq_true rfl) rfl rfl rfl (Nat.le_of_ble_eq_true rfl) ⟨Nat.le_of_ble_eq_true rfl, Nat.le_of_ble_eq_true rfl⟩ (by decide +kernel) ?_
            show Ev l d mi_X10_qTest 87 [some (.ref 65), some (.int x1), some (.int q3.1)] [] (hp q8) 0 0 _
            refine Ev.blk (pc' := 91) [(.aload_n 0, 0, 0, 0), (.getfield 278, 0, 10, 5)] (by decide +kernel) ⟨kf_10_278, trivial⟩ rfl (And.intro (kc rfl rfl) (?_))
            show Ev l d mi_X10_qTest 91 [some (.ref 65), some (.int x1), some (.int q3.1)] [.int (q8.1 65 5)] (hp q8) 0 0 _
            refine Ev.if_ne (off := 14) (tgt := 105) (by decide +kernel) (by decide) (fun b9 => ?_) (fun b9 => ?_)
            · have hf := (if_neg b9).symm.trans hf
              refine Ev.blk (pc' := 107) [(.iconst 0, 0, 0, 0), (.istore_n 1, 0, 0, 0)] (by decide +kernel) trivial rfl (And.intro (Nat.le_of_ble_eq_true rfl) (?_))
              show Ev l d mi_X10_qTest 107 [some (.ref 65), some (.int (Int32.ofInt 0)), some (.int q3.1)] [] (hp q8) 0 0 _
              refine Ev.goto (off := -105) (tgt := 2) (by decide +kernel) (by decide) ?_
              exact Ev.wk (ih (Int32.ofInt 0) q8 _ hf) (And.intro (Or.inr rfl) (And.intro (Or.inr rfl) (And.intro (Or.inl rfl) (trivial))))
            · have hf := (if_pos b9).symm.trans hf
              refine Ev.blk (pc' := 95) [(.aload_n 0, 0, 0, 0)] (by decide +kernel) trivial rfl (?_)
              show Ev l d mi_X10_qTest 95 [some (.ref 65), some (.int x1), some (.int q3.1)] [.ref 65] (hp q8) 0 0 _
              obtain ⟨q10, hq10, hf⟩ := bd_some hf
              refine Ev.callV (o := 65) (M' := mi_X10_qGoesOnTest) (d' := d - 1) (As := []) (rest := []) (r' := (some (.int q10.1), hp q10.2)) (e_X10_qGoesOnTest (d := d - 1) (by omega) q8 _ hq10) (by omega) wm_X10_qGoesOnTest wi_X10_qGoesOnTest wv_X10_qGoesOnTest km_10_727 (kc rfl rfl) (Nat.le_of_ble_eq_true rfl) rfl rfl rfl (Nat.le_of_ble_eq_true rfl) ⟨Nat.le_of_ble_eq_true rfl, Nat.le_of_ble_eq_true rfl⟩ (by decide +kernel) ?_
              show Ev l d mi_X10_qTest 98 [some (.ref 65), some (.int x1), some (.int q3.1)] [.int q10.1] (hp q10.2) 0 0 _
              refine Ev.if_eq (off := 7) (tgt := 105) (by decide +kernel) (by decide) (fun b11 => ?_) (fun b11 => ?_)
              · have hf := (if_pos b11).symm.trans hf
                refine Ev.blk (pc' := 107) [(.iconst 0, 0, 0, 0), (.istore_n 1, 0, 0, 0)] (by decide +kernel) trivial rfl (And.intro (Nat.le_of_ble_eq_true rfl) (?_))
                show Ev l d mi_X10_qTest 107 [some (.ref 65), some (.int (Int32.ofInt 0)), some (.int q3.1)] [] (hp q10.2) 0 0 _
                refine Ev.goto (off := -105) (tgt := 2) (by decide +kernel) (by decide) ?_
                exact Ev.wk (ih (Int32.ofInt 0) q10.2 _ hf) (And.intro (Or.inr rfl) (And.intro (Or.inr rfl) (And.intro (Or.inl rfl) (trivial))))
              · have hf := (if_neg b11).symm.trans hf
                refine Ev.blk (pc' := 102) [(.iconst 1, 0, 0, 0)] (by decide +kernel) trivial rfl (?_)
                show Ev l d mi_X10_qTest 102 [some (.ref 65), some (.int x1), some (.int q3.1)] [.int (Int32.ofInt 1)] (hp q10.2) 0 0 _
                refine Ev.goto (off := 4) (tgt := 106) (by decide +kernel) (by decide) ?_
                refine Ev.blk (pc' := 107) [(.istore_n 1, 0, 0, 0)] (by decide +kernel) trivial rfl (And.intro (Nat.le_of_ble_eq_true rfl) (?_))
                show Ev l d mi_X10_qTest 107 [some (.ref 65), some (.int (Int32.ofInt 1)), some (.int q3.1)] [] (hp q10.2) 0 0 _
                refine Ev.goto (off := -105) (tgt := 2) (by decide +kernel) (by decide) ?_
                exact Ev.wk (ih (Int32.ofInt 1) q10.2 _ hf) (And.intro (Or.inr rfl) (And.intro (Or.inr rfl) (And.intro (Or.inl rfl) (trivial))))
          · have hf := (if_neg b6).symm.trans hf
            refine Ev.blk (pc' := 65) [(.aload_n 0, 0, 0, 0), (.bipush 12, 0, 0, 0), (.aload_n 0, 0, 0, 0), (.getfield 284, 0, 10, 2)] (by decide +kernel) ⟨kf_10_284, trivial⟩ rfl (And.intro (kc rfl rfl) (?_))
            show Ev l d mi_X10_qTest 65 [some (.ref 65), some (.int x1), some (.int q3.1)] [.int (q5.2.1 65 2), .int ((Int8.ofInt 12).toInt32), .ref 65] (hp q5.2) 0 0 _
            obtain ⟨q12, hq12, hf⟩ := bd_some hf
            refine Ev.callV (o := 65) (M' := mi_X10_qOpens) (d' := d - 1) (As := [.int ((Int8.ofInt 12).toInt32), .int (q5.2.1 65 2)]) (rest := []) (r' := (none, hp q12)) (e_X10_qOpens (d := d - 1) (by omega) ((Int8.ofInt 12).toInt32) (q5.2.1 65 2) q5.2 _ hq12) (by omega) wm_X10_qOpens wi_X10_qOpens wv_X10_qOpens km_10_697 (kc rfl rfl) (Nat.le_of_ble_eq_true rfl) rfl rfl rfl (Nat.le_of_ble_eq_true rfl) ⟨Nat.le_of_ble_eq_true rfl, Nat.le_of_ble_eq_true rfl⟩ (by decide +kernel) ?_
            show Ev l d mi_X10_qTest 68 [some (.ref 65), some (.int x1), some (.int q3.1)] [] (hp q12) 0 0 _
            refine Ev.blk (pc' := 73) [(.aload_n 0, 0, 0, 0), (.aload_n 0, 0, 0, 0), (.getfield 212, 0, 10, 93)] (by decide +kernel) ⟨kf_10_212, trivial⟩ rfl (And.intro (kc rfl rfl) (Exists.intro 129 (And.intro rfl (?_))))
            show Ev l d mi_X10_qTest 73 [some (.ref 65), some (.int x1), some (.int q3.1)] [.ref 129, .ref 65] (hp q12) 0 0 _
            obtain ⟨q13, hq13, hf⟩ := bd_some hf
            refine Ev.callV (o := 65) (M' := mi_X10_asks) (d' := d - 1) (As := [.ref 129]) (rest := []) (r' := (none, hp q13)) (e_X10_asks (d := d - 1) (by omega) 129 q12 _ hq13) (by omega) wm_X10_asks wi_X10_asks wv_X10_asks km_10_348 (kc rfl rfl) (Nat.le_of_ble_eq_true rfl) rfl rfl rfl (Nat.le_of_ble_eq_true rfl) ⟨Nat.le_of_ble_eq_true rfl, Nat.le_of_ble_eq_true rfl⟩ (by decide +kernel) ?_
            show Ev l d mi_X10_qTest 76 [some (.ref 65), some (.int x1), some (.int q3.1)] [] (hp q13) 0 0 _
            refine Ev.goto (off := -74) (tgt := 2) (by decide +kernel) (by decide) ?_
            exact Ev.wk (ih x1 q13 _ hf) (And.intro (Or.inr rfl) (And.intro (Or.inr rfl) (And.intro (Or.inl rfl) (trivial))))
        · have hf := (if_pos b4).symm.trans hf
          refine Ev.blk (pc' := 31) [(.aload_n 0, 0, 0, 0), (.bipush 25, 0, 0, 0), (.aload_n 0, 0, 0, 0), (.getfield 284, 0, 10, 2)] (by decide +kernel) ⟨kf_10_284, trivial⟩ rfl (And.intro (kc rfl rfl) (?_))
          show Ev l d mi_X10_qTest 31 [some (.ref 65), some (.int x1), some (.int q3.1)] [.int (q3.2.1 65 2), .int ((Int8.ofInt 25).toInt32), .ref 65] (hp q3.2) 0 0 _
          obtain ⟨q14, hq14, hf⟩ := bd_some hf
          refine Ev.callV (o := 65) (M' := mi_X10_qOpens) (d' := d - 1) (As := [.int ((Int8.ofInt 25).toInt32), .int (q3.2.1 65 2)]) (rest := []) (r' := (none, hp q14)) (e_X10_qOpens (d := d - 1) (by omega) ((Int8.ofInt 25).toInt32) (q3.2.1 65 2) q3.2 _ hq14) (by omega) wm_X10_qOpens wi_X10_qOpens wv_X10_qOpens km_10_697 (kc rfl rfl) (Nat.le_of_ble_eq_true rfl) rfl rfl rfl (Nat.le_of_ble_eq_true rfl) ⟨Nat.le_of_ble_eq_true rfl, Nat.le_of_ble_eq_true rfl⟩ (by decide +kernel) ?_
          show Ev l d mi_X10_qTest 34 [some (.ref 65), some (.int x1), some (.int q3.1)] [] (hp q14) 0 0 _
          obtain ⟨s15, hs15, hf⟩ := lt_some hf
          refine Ev.blk (pc' := 44) [(.aload_n 0, 0, 0, 0), (.dup, 0, 0, 0), (.getfield 284, 0, 10, 2), (.iconst 1, 0, 0, 0), (.iadd, 0, 0, 0), (.putfield 284, 0, 10, 2)] (by decide +kernel) ⟨kf_10_284, ⟨⟨kf_10_284, Or.inl rfl⟩, trivial⟩⟩ rfl (And.intro rfl (And.intro (kc rfl rfl) (And.intro (kc rfl rfl) (?_))))
          show Ev l d mi_X10_qTest 44 [some (.ref 65), some (.int x1), some (.int q3.1)] [] (hp (uI q14 65 2 ((q14.1 65 2) + (Int32.ofInt 1)))) 0 0 _
          rw [← hs15]
          refine Ev.goto (off := -42) (tgt := 2) (by decide +kernel) (by decide) ?_
          exact Ev.wk (ih x1 s15 _ hf) (And.intro (Or.inr rfl) (And.intro (Or.inr rfl) (And.intro (Or.inl rfl) (trivial))))
def f_X10_qTest_L110 : Nat → ST → Option (ST)
  | 0, _ => none
  | n + 1, s => (if (s.1 65 5) = 0 then (if (s.1 65 113) ≤ 0 then some s else (f_X10_qDrops s).bind (fun q18 => (f_X10_qTest_L110 n) q18)) else some s)
set_option maxHeartbeats 2000000 in
set_option maxRecDepth 20000 in
theorem e_X10_qTest_L110 {l : Launch} {d : Nat} (hd : 9 ≤ d) : ∀ (n : Nat) (s : ST) (r : ST), f_X10_qTest_L110 n s = some r → Ev l d mi_X10_qTest 110 [some (.ref 65), none, none] [] (hp s) 0 0 (none, hp r) := by
  intro n
  induction n with
  | zero =>
    intro s r hf
    cases hf
  | succ n ih =>
    intro s r hf
    unfold f_X10_qTest_L110 at hf
    refine Ev.blk (pc' := 114) [(.aload_n 0, 0, 0, 0), (.getfield 278, 0, 10, 5)] (by decide +kernel) ⟨kf_10_278, trivial⟩ rfl (And.intro (kc rfl rfl) (?_))
    show Ev l d mi_X10_qTest 114 [some (.ref 65), none, none] [.int (s.1 65 5)] (hp s) 0 0 _
    refine Ev.if_ne (off := 17) (tgt := 131) (by decide +kernel) (by decide) (fun b16 => ?_) (fun b16 => ?_)
    · have hf := (if_neg b16).symm.trans hf
      cases hf
      exact Ev.vret rfl (by decide +kernel) (Nat.le_refl _) (Nat.le_refl _)
    · have hf := (if_pos b16).symm.trans hf
      refine Ev.blk (pc' := 121) [(.aload_n 0, 0, 0, 0), (.getfield 382, 0, 10, 113)] (by decide +kernel) ⟨kf_10_382, trivial⟩ rfl (And.intro (kc rfl rfl) (?_))
      show Ev l d mi_X10_qTest 121 [some (.ref 65), none, none] [.int (s.1 65 113)] (hp s) 0 0 _
      refine Ev.if_le (off := 10) (tgt := 131) (by decide +kernel) (by decide) (fun b17 => ?_) (fun b17 => ?_)
      · have hf := (if_pos b17).symm.trans hf
        cases hf
        exact Ev.vret rfl (by decide +kernel) (Nat.le_refl _) (Nat.le_refl _)
      · have hf := (if_neg b17).symm.trans hf
        refine Ev.blk (pc' := 125) [(.aload_n 0, 0, 0, 0)] (by decide +kernel) trivial rfl (?_)
        show Ev l d mi_X10_qTest 125 [some (.ref 65), none, none] [.ref 65] (hp s) 0 0 _
        obtain ⟨q18, hq18, hf⟩ := bd_some hf
        refine Ev.callV (o := 65) (M' := mi_X10_qDrops) (d' := d - 1) (As := []) (rest := []) (r' := (none, hp q18)) (e_X10_qDrops (d := d - 1) (by omega) s _ hq18) (by omega) wm_X10_qDrops wi_X10_qDrops wv_X10_qDrops km_10_685 (kc rfl rfl) (Nat.le_of_ble_eq_true rfl) rfl rfl rfl (Nat.le_of_ble_eq_true rfl) ⟨Nat.le_of_ble_eq_true rfl, Nat.le_of_ble_eq_true rfl⟩ (by decide +kernel) ?_
        show Ev l d mi_X10_qTest 128 [some (.ref 65), none, none] [] (hp q18) 0 0 _
        refine Ev.goto (off := -18) (tgt := 110) (by decide +kernel) (by decide) ?_
        exact ih q18 _ hf
def f_X10_qTest (s : ST) : Option (ST) := (f_X10_qTest_L2 (f_X10_qTest_L110 fuel) fuel) (Int32.ofInt 1) s
set_option maxHeartbeats 2000000 in
set_option maxRecDepth 20000 in
theorem e_X10_qTest {l : Launch} {d : Nat} (hd : 9 ≤ d) (s : ST) (r : ST) (hf : f_X10_qTest s = some r) : Cl l d mi_X10_qTest [.ref 65] (hp s) (none, hp r) := by
  refine Ev.entry (by decide +kernel) rfl rfl ?_
  show Ev l d mi_X10_qTest 0 [some (.ref 65), none, none] [] (hp s) 0 0 _
  unfold f_X10_qTest at hf
  refine Ev.blk (pc' := 2) [(.iconst 1, 0, 0, 0), (.istore_n 1, 0, 0, 0)] (by decide +kernel) trivial rfl (And.intro (Nat.le_of_ble_eq_true rfl) (?_))
  show Ev l d mi_X10_qTest 2 [some (.ref 65), some (.int (Int32.ofInt 1)), none] [] (hp s) 0 0 _
  exact (e_X10_qTest_L2 hd (f_X10_qTest_L110 fuel) (e_X10_qTest_L110 hd fuel) fuel) (Int32.ofInt 1) s _ hf
def f_X10_qOf (p0 : Int32) (p1 : Int64) (p2 : Int32) (s : ST) : Option (Int64 × ST) := ((f_X10_fieldMany s).bind (fun q1 => (f_X10_isIn p1 (Int64.ofNat ((0 : Fin 2) : Nat)) ((q1.1 - (Int32.ofInt 1)).toInt64) q1.2).bind (fun q2 => (if q2.1 = 0 then some ((Int64.ofNat ((0 : Fin 2) : Nat)), q2.2) else gd (ib (((Int8.ofInt 18).toInt32) + ((Int32.ofInt 3) * p1.toInt32)) 36) (gd (ib (((Int8.ofInt 19).toInt32) + ((Int32.ofInt 3) * p1.toInt32)) 36) (lt (q2.2.1 107 (((Int8.ofInt 18).toInt32) + ((Int32.ofInt 3) * p1.toInt32)).toNatClampNeg) (fun v6 => lt (q2.2.1 107 (((Int8.ofInt 19).toInt32) + ((Int32.ofInt 3) * p1.toInt32)).toNatClampNeg) (fun v7 => (f_X10_columnOf p2 q2.2).bind (fun q8 => (f_X10_rowOf p2 q8.2).bind (fun q9 => (f_X10_farOff v6 v7 q8.1 q9.1 q9.2).bind (fun q10 => some ((q10.1).toInt64, q10.2))))))))))))
set_option maxHeartbeats 2000000 in
set_option maxRecDepth 20000 in
theorem e_X10_qOf {l : Launch} {d : Nat} (hd : 3 ≤ d) (p0 : Int32) (p1 : Int64) (p2 : Int32) (s : ST) (r : Int64 × ST) (hf : f_X10_qOf p0 p1 p2 s = some r) : Cl l d mi_X10_qOf [.ref 65, .int p0, .long p1, .int p2] (hp s) (some (.long r.1), hp r.2) := by
  refine Ev.entry (by decide +kernel) rfl rfl ?_
  show Ev l d mi_X10_qOf 0 [some (.ref 65), some (.int p0), some (.long p1), none, some (.int p2)] [] (hp s) 0 0 _
  unfold f_X10_qOf at hf
  refine Ev.blk (pc' := 1) [(.iload_n 1, 0, 0, 0)] (by decide +kernel) trivial rfl (?_)
  show Ev l d mi_X10_qOf 1 [some (.ref 65), some (.int p0), some (.long p1), none, some (.int p2)] [.int p0] (hp s) 0 0 _
  refine Ev.lswitch (dflt := 11) (ps := #[]) (len := 11) (tgt := 12) (by decide +kernel) (by decide) rfl ?_
  refine Ev.blk (pc' := 15) [(.lload_n 2, 0, 0, 0), (.lconst 0, 0, 0, 0), (.aload_n 0, 0, 0, 0)] (by decide +kernel) trivial rfl (?_)
  show Ev l d mi_X10_qOf 15 [some (.ref 65), some (.int p0), some (.long p1), none, some (.int p2)] [.ref 65, .long (Int64.ofNat ((0 : Fin 2) : Nat)), .long p1] (hp s) 0 0 _
  obtain ⟨q1, hq1, hf⟩ := bd_some hf
  refine Ev.callV (o := 65) (M' := mi_X10_fieldMany) (d' := d - 1) (As := []) (rest := [.long (Int64.ofNat ((0 : Fin 2) : Nat)), .long p1]) (r' := (some (.int q1.1), hp q1.2)) (e_X10_fieldMany (d := d - 1) (by omega) s _ hq1) (by omega) wm_X10_fieldMany wi_X10_fieldMany wv_X10_fieldMany km_10_436 (kc rfl rfl) (Nat.le_of_ble_eq_true rfl) rfl rfl rfl (Nat.le_of_ble_eq_true rfl) ⟨Nat.le_of_ble_eq_true rfl, Nat.le_of_ble_eq_true rfl⟩ (by decide +kernel) ?_
  show Ev l d mi_X10_qOf 18 [some (.ref 65), some (.int p0), some (.long p1), none, some (.int p2)] [.int q1.1, .long (Int64.ofNat ((0 : Fin 2) : Nat)), .long p1] (hp q1.2) 0 0 _
  refine Ev.blk (pc' := 21) [(.iconst 1, 0, 0, 0), (.isub, 0, 0, 0), (.i2l, 0, 0, 0)] (by decide +kernel) trivial rfl (?_)
  show Ev l d mi_X10_qOf 21 [some (.ref 65), some (.int p0), some (.long p1), none, some (.int p2)] [.long (q1.1 - (Int32.ofInt 1)).toInt64, .long (Int64.ofNat ((0 : Fin 2) : Nat)), .long p1] (hp q1.2) 0 0 _
  obtain ⟨q2, hq2, hf⟩ := bd_some hf
  refine Ev.callS (M' := mi_X10_isIn) (d' := d - 1) (As := [.long p1, .long (Int64.ofNat ((0 : Fin 2) : Nat)), .long (q1.1 - (Int32.ofInt 1)).toInt64]) (rest := []) (r' := (some (.int q2.1), hp q2.2)) (e_X10_isIn (d := d - 1) (by omega) p1 (Int64.ofNat ((0 : Fin 2) : Nat)) ((q1.1 - (Int32.ofInt 1)).toInt64) q1.2 _ hq2) (by omega) wm_X10_isIn wt_X10_isIn km_10_321 rfl rfl rfl (Nat.le_of_ble_eq_true rfl) ⟨Nat.le_of_ble_eq_true rfl, Nat.le_of_ble_eq_true rfl⟩ (by decide +kernel) ?_
  show Ev l d mi_X10_qOf 24 [some (.ref 65), some (.int p0), some (.long p1), none, some (.int p2)] [.int q2.1] (hp q2.2) 0 0 _
  refine Ev.if_eq (off := 46) (tgt := 70) (by decide +kernel) (by decide) (fun b3 => ?_) (fun b3 => ?_)
  · have hf := (if_pos b3).symm.trans hf
    refine Ev.blk (pc' := 71) [(.lconst 0, 0, 0, 0)] (by decide +kernel) trivial rfl (?_)
    show Ev l d mi_X10_qOf 71 [some (.ref 65), some (.int p0), some (.long p1), none, some (.int p2)] [.long (Int64.ofNat ((0 : Fin 2) : Nat))] (hp q2.2) 0 0 _
    cases hf
    exact Ev.lret rfl (by decide +kernel) (Nat.le_refl _) (Nat.le_refl _)
  · have hf := (if_neg b3).symm.trans hf
    obtain ⟨c4, hf⟩ := gd_some hf
    obtain ⟨c5, hf⟩ := gd_some hf
    obtain ⟨v6, hv6, hf⟩ := lt_some hf
    obtain ⟨v7, hv7, hf⟩ := lt_some hf
    refine Ev.blk (pc' := 54) [(.aload_n 0, 0, 0, 0), (.getfield 139, 0, 10, 51), (.bipush 18, 0, 0, 0), (.iconst 3, 0, 0, 0), (.lload_n 2, 0, 0, 0), (.l2i, 0, 0, 0), (.imul, 0, 0, 0), (.iadd, 0, 0, 0), (.iaload, 0, 0, 0), (.aload_n 0, 0, 0, 0), (.getfield 139, 0, 10, 51), (.bipush 19, 0, 0, 0), (.iconst 3, 0, 0, 0), (.lload_n 2, 0, 0, 0), (.l2i, 0, 0, 0), (.imul, 0, 0, 0), (.iadd, 0, 0, 0), (.iaload, 0, 0, 0), (.aload_n 0, 0, 0, 0), (.iload 4, 0, 0, 0)] (by decide +kernel) ⟨kf_10_139, ⟨kf_10_139, trivial⟩⟩ rfl (And.intro (kc rfl rfl) (Exists.intro 107 (And.intro rfl (And.intro (kc rfl rfl) (And.intro (ib_ok c4) (And.intro (kc rfl rfl) (Exists.intro 107 (And.intro rfl (And.intro (kc rfl rfl) (And.intro (ib_ok c5) (?_)))))))))))
    show Ev l d mi_X10_qOf 54 [some (.ref 65), some (.int p0), some (.long p1), none, some (.int p2)] [.int p2, .ref 65, .int (q2.2.1 107 (((Int8.ofInt 19).toInt32) + ((Int32.ofInt 3) * p1.toInt32)).toNatClampNeg), .int (q2.2.1 107 (((Int8.ofInt 18).toInt32) + ((Int32.ofInt 3) * p1.toInt32)).toNatClampNeg)] (hp q2.2) 0 0 _
    rw [← hv6, ← hv7]
    obtain ⟨q8, hq8, hf⟩ := bd_some hf
    refine Ev.callV (o := 65) (M' := mi_X10_columnOf) (d' := d - 1) (As := [.int p2]) (rest := [.int v7, .int v6]) (r' := (some (.int q8.1), hp q8.2)) (e_X10_columnOf (d := d - 1) (by omega) p2 q2.2 _ hq8) (by omega) wm_X10_columnOf wi_X10_columnOf wv_X10_columnOf km_10_439 (kc rfl rfl) (Nat.le_of_ble_eq_true rfl) rfl rfl rfl (Nat.le_of_ble_eq_true rfl) ⟨Nat.le_of_ble_eq_true rfl, Nat.le_of_ble_eq_true rfl⟩ (by decide +kernel) ?_
    show Ev l d mi_X10_qOf 57 [some (.ref 65), some (.int p0), some (.long p1), none, some (.int p2)] [.int q8.1, .int v7, .int v6] (hp q8.2) 0 0 _
    refine Ev.blk (pc' := 60) [(.aload_n 0, 0, 0, 0), (.iload 4, 0, 0, 0)] (by decide +kernel) trivial rfl (?_)
    show Ev l d mi_X10_qOf 60 [some (.ref 65), some (.int p0), some (.long p1), none, some (.int p2)] [.int p2, .ref 65, .int q8.1, .int v7, .int v6] (hp q8.2) 0 0 _
    obtain ⟨q9, hq9, hf⟩ := bd_some hf
    refine Ev.callV (o := 65) (M' := mi_X10_rowOf) (d' := d - 1) (As := [.int p2]) (rest := [.int q8.1, .int v7, .int v6]) (r' := (some (.int q9.1), hp q9.2)) (e_X10_rowOf (d := d - 1) (by omega) p2 q8.2 _ hq9) (by omega) wm_X10_rowOf wi_X10_rowOf wv_X10_rowOf km_10_446 (kc rfl rfl) (Nat.le_of_ble_eq_true rfl) rfl rfl rfl (Nat.le_of_ble_eq_true rfl) ⟨Nat.le_of_ble_eq_true rfl, Nat.le_of_ble_eq_true rfl⟩ (by decide +kernel) ?_
    show Ev l d mi_X10_qOf 63 [some (.ref 65), some (.int p0), some (.long p1), none, some (.int p2)] [.int q9.1, .int q8.1, .int v7, .int v6] (hp q9.2) 0 0 _
    obtain ⟨q10, hq10, hf⟩ := bd_some hf
    refine Ev.callS (M' := mi_X10_farOff) (d' := d - 1) (As := [.int v6, .int v7, .int q8.1, .int q9.1]) (rest := []) (r' := (some (.int q10.1), hp q10.2)) (e_X10_farOff (d := d - 1) (by omega) v6 v7 q8.1 q9.1 q9.2 _ hq10) (by omega) wm_X10_farOff wt_X10_farOff km_10_461 rfl rfl rfl (Nat.le_of_ble_eq_true rfl) ⟨Nat.le_of_ble_eq_true rfl, Nat.le_of_ble_eq_true rfl⟩ (by decide +kernel) ?_
    show Ev l d mi_X10_qOf 66 [some (.ref 65), some (.int p0), some (.long p1), none, some (.int p2)] [.int q10.1] (hp q10.2) 0 0 _
    refine Ev.blk (pc' := 67) [(.i2l, 0, 0, 0)] (by decide +kernel) trivial rfl (?_)
    show Ev l d mi_X10_qOf 67 [some (.ref 65), some (.int p0), some (.long p1), none, some (.int p2)] [.long (q10.1).toInt64] (hp q10.2) 0 0 _
    refine Ev.goto (off := 4) (tgt := 71) (by decide +kernel) (by decide) ?_
    cases hf
    exact Ev.lret rfl (by decide +kernel) (Nat.le_refl _) (Nat.le_refl _)
def f_X10_qTold_L7 (k168 : ST → Option (Int64 × ST)) : Nat → Int32 → Int32 → ST → Option (Int64 × ST)
  | 0, _, _, _ => none
  | n + 1, x1, x2, s => (if (s.1 65 111) ≤ x2 then k168 s else gd (ib x2 1700) ((if (s.1 146 x2.toNatClampNeg) < ((Int16.ofInt 1000).toInt32) then (if (s.1 146 x2.toNatClampNeg) < ((Int8.ofInt 60).toInt32) then (if (s.1 146 x2.toNatClampNeg) < ((Int8.ofInt 40).toInt32) then (if (s.1 146 x2.toNatClampNeg) = ((Int8.ofInt 13).toInt32) then (f_X10_qPuts (Int64.ofNat ((1 : Fin 2) : Nat)) s).bind (fun q13 => (f_X10_qTold_L7 k168 n) x1 (x2 + Int32.ofInt 1) q13) else (if (s.1 146 x2.toNatClampNeg) = ((Int8.ofInt 12).toInt32) then gd (ib ((s.1 65 117) - (Int32.ofInt 1)) 1700) (gd (ib ((s.1 65 117) - (Int32.ofInt 1)) 1700) (lt (uJ s 148 ((s.1 65 117) - (Int32.ofInt 1)).toNatClampNeg ((Int64.ofNat ((1 : Fin 2) : Nat)) - (s.2.1 148 ((s.1 65 117) - (Int32.ofInt 1)).toNatClampNeg))) (fun s12 => (f_X10_qTold_L7 k168 n) x1 (x2 + Int32.ofInt 1) s12))) else (f_X10_qJoins (s.1 146 x2.toNatClampNeg) s).bind (fun q9 => (f_X10_qTold_L7 k168 n) x1 (x2 + Int32.ofInt 1) q9))) else (f_X10_qPartOf ((s.1 146 x2.toNatClampNeg) - ((Int8.ofInt 40).toInt32)) x1 s).bind (fun q14 => (f_X10_qClip q14.1 q14.2).bind (fun q15 => (f_X10_qPuts q15.1 q15.2).bind (fun q16 => (f_X10_qTold_L7 k168 n) x1 (x2 + Int32.ofInt 1) q16)))) else gd (ib ((s.1 65 117) - (Int32.ofInt 1)) 1700) ((f_X10_qOf ((s.1 146 x2.toNatClampNeg) - ((Int8.ofInt 60).toInt32)) (s.2.1 148 ((s.1 65 117) - (Int32.ofInt 1)).toNatClampNeg) x1 s).bind (fun q18 => (f_X10_qClip q18.1 q18.2).bind (fun q19 => gd (ib ((s.1 65 117) - (Int32.ofInt 1)) 1700) (lt (uJ q19.2 148 ((s.1 65 117) - (Int32.ofInt 1)).toNatClampNeg q19.1) (fun s21 => (f_X10_qTold_L7 k168 n) x1 (x2 + Int32.ofInt 1) s21)))))) else lt (((s.1 146 x2.toNatClampNeg) - ((Int16.ofInt 1000).toInt32)).toInt64) (fun v22 => (f_X10_qPuts v22 s).bind (fun q23 => (f_X10_qTold_L7 k168 n) x1 (x2 + Int32.ofInt 1) q23)))))
set_option maxHeartbeats 2000000 in
set_option maxRecDepth 20000 in
theorem e_X10_qTold_L7 {l : Launch} {d : Nat} (hd : 4 ≤ d) (k168 : ST → Option (Int64 × ST)) (hk168 : ∀ (s : ST) (r : Int64 × ST), k168 s = some r → Ev l d mi_X10_qTold 168 [some (.ref 65), none, none, none] [] (hp s) 0 0 (some (.long r.1), hp r.2)) : ∀ (n : Nat) (x1 : Int32) (x2 : Int32) (s : ST) (r : Int64 × ST), f_X10_qTold_L7 k168 n x1 x2 s = some r → Ev l d mi_X10_qTold 7 [some (.ref 65), some (.int x1), some (.int x2), none] [] (hp s) 0 0 (some (.long r.1), hp r.2) := by
  intro n
  induction n with
  | zero =>
    intro x1 x2 s r hf
    cases hf
  | succ n ih =>
    intro x1 x2 s r hf
    unfold f_X10_qTold_L7 at hf
    refine Ev.blk (pc' := 12) [(.iload_n 2, 0, 0, 0), (.aload_n 0, 0, 0, 0), (.getfield 379, 0, 10, 111)] (by decide +kernel) ⟨kf_10_379, trivial⟩ rfl (And.intro (kc rfl rfl) (?_))
    show Ev l d mi_X10_qTold 12 [some (.ref 65), some (.int x1), some (.int x2), none] [.int (s.1 65 111), .int x2] (hp s) 0 0 _
    refine Ev.icmp_ge (off := 156) (tgt := 168) (by decide +kernel) (by decide) (fun b2 => ?_) (fun b2 => ?_)
    · have hf := (if_pos b2).symm.trans hf
      exact Ev.wk (hk168 s _ hf) (And.intro (Or.inr rfl) (And.intro (Or.inl rfl) (And.intro (Or.inl rfl) (And.intro (Or.inr rfl) (trivial)))))
    · have hf := (if_neg b2).symm.trans hf
      obtain ⟨c3, hf⟩ := gd_some hf
      refine Ev.blk (pc' := 26) [(.aload_n 0, 0, 0, 0), (.getfield 263, 0, 10, 110), (.iload_n 2, 0, 0, 0), (.iaload, 0, 0, 0), (.istore_n 3, 0, 0, 0), (.iload_n 3, 0, 0, 0), (.sipush 1000, 0, 0, 0)] (by decide +kernel) ⟨kf_10_263, trivial⟩ rfl (And.intro (kc rfl rfl) (Exists.intro 146 (And.intro rfl (And.intro (kc rfl rfl) (And.intro (ib_ok c3) (And.intro (Nat.le_of_ble_eq_true rfl) (?_)))))))
      show Ev l d mi_X10_qTold 26 [some (.ref 65), some (.int x1), some (.int x2), some (.int (s.1 146 x2.toNatClampNeg))] [.int ((Int16.ofInt 1000).toInt32), .int (s.1 146 x2.toNatClampNeg)] (hp s) 0 0 _
      refine Ev.icmp_lt (off := 16) (tgt := 42) (by decide +kernel) (by decide) (fun b4 => ?_) (fun b4 => ?_)
      · have hf := (if_pos b4).symm.trans hf
        refine Ev.blk (pc' := 45) [(.iload_n 3, 0, 0, 0), (.bipush 60, 0, 0, 0)] (by decide +kernel) trivial rfl (?_)
        show Ev l d mi_X10_qTold 45 [some (.ref 65), some (.int x1), some (.int x2), some (.int (s.1 146 x2.toNatClampNeg))] [.int ((Int8.ofInt 60).toInt32), .int (s.1 146 x2.toNatClampNeg)] (hp s) 0 0 _
        refine Ev.icmp_lt (off := 40) (tgt := 85) (by decide +kernel) (by decide) (fun b5 => ?_) (fun b5 => ?_)
        · have hf := (if_pos b5).symm.trans hf
          refine Ev.blk (pc' := 88) [(.iload_n 3, 0, 0, 0), (.bipush 40, 0, 0, 0)] (by decide +kernel) trivial rfl (?_)
          show Ev l d mi_X10_qTold 88 [some (.ref 65), some (.int x1), some (.int x2), some (.int (s.1 146 x2.toNatClampNeg))] [.int ((Int8.ofInt 40).toInt32), .int (s.1 146 x2.toNatClampNeg)] (hp s) 0 0 _
          refine Ev.icmp_lt (off := 22) (tgt := 110) (by decide +kernel) (by decide) (fun b6 => ?_) (fun b6 => ?_)
          · have hf := (if_pos b6).symm.trans hf
            refine Ev.blk (pc' := 113) [(.iload_n 3, 0, 0, 0), (.bipush 13, 0, 0, 0)] (by decide +kernel) trivial rfl (?_)
            show Ev l d mi_X10_qTold 113 [some (.ref 65), some (.int x1), some (.int x2), some (.int (s.1 146 x2.toNatClampNeg))] [.int ((Int8.ofInt 13).toInt32), .int (s.1 146 x2.toNatClampNeg)] (hp s) 0 0 _
            refine Ev.icmp_ne (off := 11) (tgt := 124) (by decide +kernel) (by decide) (fun b7 => ?_) (fun b7 => ?_)
            · have hf := (if_neg b7).symm.trans hf
              refine Ev.blk (pc' := 127) [(.iload_n 3, 0, 0, 0), (.bipush 12, 0, 0, 0)] (by decide +kernel) trivial rfl (?_)
              show Ev l d mi_X10_qTold 127 [some (.ref 65), some (.int x1), some (.int x2), some (.int (s.1 146 x2.toNatClampNeg))] [.int ((Int8.ofInt 12).toInt32), .int (s.1 146 x2.toNatClampNeg)] (hp s) 0 0 _
              refine Ev.icmp_ne (off := 30) (tgt := 157) (by decide +kernel) (by decide) (fun b8 => ?_) (fun b8 => ?_)
              · have hf := (if_neg b8).symm.trans hf
                refine Ev.blk (pc' := 159) [(.aload_n 0, 0, 0, 0), (.iload_n 3, 0, 0, 0)] (by decide +kernel) trivial rfl (?_)
                show Ev l d mi_X10_qTold 159 [some (.ref 65), some (.int x1), some (.int x2), some (.int (s.1 146 x2.toNatClampNeg))] [.int (s.1 146 x2.toNatClampNeg), .ref 65] (hp s) 0 0 _
                obtain ⟨q9, hq9, hf⟩ := bd_some hf
                refine Ev.callV (o := 65) (M' := mi_X10_qJoins) (d' := d - 1) (As := [.int (s.1 146 x2.toNatClampNeg)]) (rest := []) (r' := (none, hp q9)) (e_X10_qJoins (d := d - 1) (by omega) (s.1 146 x2.toNatClampNeg) s _ hq9) (by omega) wm_X10_qJoins wi_X10_qJoins wv_X10_qJoins km_10_544 (kc rfl rfl) (Nat.le_of_ble_eq_true rfl) rfl rfl rfl (Nat.le_of_ble_eq_true rfl) ⟨Nat.le_of_ble_eq_true rfl, Nat.le_of_ble_eq_true rfl⟩ (by decide +kernel) ?_
                show Ev l d mi_X10_qTold 162 [some (.ref 65), some (.int x1), some (.int x2), some (.int (s.1 146 x2.toNatClampNeg))] [] (hp q9) 0 0 _
                refine Ev.blk (pc' := 165) [(.iinc 2 1, 0, 0, 0)] (by decide +kernel) trivial rfl (And.intro (Nat.le_of_ble_eq_true rfl) (?_))
                show Ev l d mi_X10_qTold 165 [some (.ref 65), some (.int x1), some (.int (x2 + Int32.ofInt 1)), some (.int (s.1 146 x2.toNatClampNeg))] [] (hp q9) 0 0 _
                refine Ev.goto (off := -158) (tgt := 7) (by decide +kernel) (by decide) ?_
                exact Ev.wk (ih x1 (x2 + Int32.ofInt 1) q9 _ hf) (And.intro (Or.inr rfl) (And.intro (Or.inr rfl) (And.intro (Or.inr rfl) (And.intro (Or.inl rfl) (trivial)))))
              · have hf := (if_pos b8).symm.trans hf
                obtain ⟨c10, hf⟩ := gd_some hf
                obtain ⟨c11, hf⟩ := gd_some hf
                obtain ⟨s12, hs12, hf⟩ := lt_some hf
                refine Ev.blk (pc' := 154) [(.aload_n 0, 0, 0, 0), (.getfield 269, 0, 10, 116), (.aload_n 0, 0, 0, 0), (.getfield 533, 0, 10, 117), (.iconst 1, 0, 0, 0), (.isub, 0, 0, 0), (.lconst 1, 0, 0, 0), (.aload_n 0, 0, 0, 0), (.getfield 269, 0, 10, 116), (.aload_n 0, 0, 0, 0), (.getfield 533, 0, 10, 117), (.iconst 1, 0, 0, 0), (.isub, 0, 0, 0), (.laload, 0, 0, 0), (.lsub, 0, 0, 0), (.lastore, 0, 0, 0)] (by decide +kernel) ⟨kf_10_269, ⟨kf_10_533, ⟨kf_10_269, ⟨kf_10_533, trivial⟩⟩⟩⟩ rfl (And.intro (kc rfl rfl) (Exists.intro 148 (And.intro rfl (And.intro (kc rfl rfl) (And.intro (kc rfl rfl) (Exists.intro 148 (And.intro rfl (And.intro (kc rfl rfl) (And.intro (kc rfl rfl) (And.intro (ib_ok c10) (And.intro (kc rfl rfl) (And.intro (ib_ok c11) (?_)))))))))))))
                show Ev l d mi_X10_qTold 154 [some (.ref 65), some (.int x1), some (.int x2), some (.int (s.1 146 x2.toNatClampNeg))] [] (hp (uJ s 148 ((s.1 65 117) - (Int32.ofInt 1)).toNatClampNeg ((Int64.ofNat ((1 : Fin 2) : Nat)) - (s.2.1 148 ((s.1 65 117) - (Int32.ofInt 1)).toNatClampNeg)))) 0 0 _
                rw [← hs12]
                refine Ev.goto (off := 8) (tgt := 162) (by decide +kernel) (by decide) ?_
                refine Ev.blk (pc' := 165) [(.iinc 2 1, 0, 0, 0)] (by decide +kernel) trivial rfl (And.intro (Nat.le_of_ble_eq_true rfl) (?_))
                show Ev l d mi_X10_qTold 165 [some (.ref 65), some (.int x1), some (.int (x2 + Int32.ofInt 1)), some (.int (s.1 146 x2.toNatClampNeg))] [] (hp s12) 0 0 _
                refine Ev.goto (off := -158) (tgt := 7) (by decide +kernel) (by decide) ?_
                exact Ev.wk (ih x1 (x2 + Int32.ofInt 1) s12 _ hf) (And.intro (Or.inr rfl) (And.intro (Or.inr rfl) (And.intro (Or.inr rfl) (And.intro (Or.inl rfl) (trivial)))))
            · have hf := (if_pos b7).symm.trans hf
              refine Ev.blk (pc' := 118) [(.aload_n 0, 0, 0, 0), (.lconst 1, 0, 0, 0)] (by decide +kernel) trivial rfl (?_)
              show Ev l d mi_X10_qTold 118 [some (.ref 65), some (.int x1), some (.int x2), some (.int (s.1 146 x2.toNatClampNeg))] [.long (Int64.ofNat ((1 : Fin 2) : Nat)), .ref 65] (hp s) 0 0 _
              obtain ⟨q13, hq13, hf⟩ := bd_some hf
              refine Ev.callV (o := 65) (M' := mi_X10_qPuts) (d' := d - 1) (As := [.long (Int64.ofNat ((1 : Fin 2) : Nat))]) (rest := []) (r' := (none, hp q13)) (e_X10_qPuts (d := d - 1) (by omega) (Int64.ofNat ((1 : Fin 2) : Nat)) s _ hq13) (by omega) wm_X10_qPuts wi_X10_qPuts wv_X10_qPuts km_10_536 (kc rfl rfl) (Nat.le_of_ble_eq_true rfl) rfl rfl rfl (Nat.le_of_ble_eq_true rfl) ⟨Nat.le_of_ble_eq_true rfl, Nat.le_of_ble_eq_true rfl⟩ (by decide +kernel) ?_
              show Ev l d mi_X10_qTold 121 [some (.ref 65), some (.int x1), some (.int x2), some (.int (s.1 146 x2.toNatClampNeg))] [] (hp q13) 0 0 _
              refine Ev.goto (off := 41) (tgt := 162) (by decide +kernel) (by decide) ?_
              refine Ev.blk (pc' := 165) [(.iinc 2 1, 0, 0, 0)] (by decide +kernel) trivial rfl (And.intro (Nat.le_of_ble_eq_true rfl) (?_))
              show Ev l d mi_X10_qTold 165 [some (.ref 65), some (.int x1), some (.int (x2 + Int32.ofInt 1)), some (.int (s.1 146 x2.toNatClampNeg))] [] (hp q13) 0 0 _
              refine Ev.goto (off := -158) (tgt := 7) (by decide +kernel) (by decide) ?_
              exact Ev.wk (ih x1 (x2 + Int32.ofInt 1) q13 _ hf) (And.intro (Or.inr rfl) (And.intro (Or.inr rfl) (And.intro (Or.inr rfl) (And.intro (Or.inl rfl) (trivial)))))
          · have hf := (if_neg b6).symm.trans hf
            refine Ev.blk (pc' := 98) [(.aload_n 0, 0, 0, 0), (.aload_n 0, 0, 0, 0), (.iload_n 3, 0, 0, 0), (.bipush 40, 0, 0, 0), (.isub, 0, 0, 0), (.iload_n 1, 0, 0, 0)] (by decide +kernel) trivial rfl (?_)
            show Ev l d mi_X10_qTold 98 [some (.ref 65), some (.int x1), some (.int x2), some (.int (s.1 146 x2.toNatClampNeg))] [.int x1, .int ((s.1 146 x2.toNatClampNeg) - ((Int8.ofInt 40).toInt32)), .ref 65, .ref 65] (hp s) 0 0 _
            obtain ⟨q14, hq14, hf⟩ := bd_some hf
            refine Ev.callV (o := 65) (M' := mi_X10_qPartOf) (d' := d - 1) (As := [.int ((s.1 146 x2.toNatClampNeg) - ((Int8.ofInt 40).toInt32)), .int x1]) (rest := [.ref 65]) (r' := (some (.long q14.1), hp q14.2)) (e_X10_qPartOf (d := d - 1) (by omega) ((s.1 146 x2.toNatClampNeg) - ((Int8.ofInt 40).toInt32)) x1 s _ hq14) (by omega) wm_X10_qPartOf wi_X10_qPartOf wv_X10_qPartOf km_10_540 (kc rfl rfl) (Nat.le_of_ble_eq_true rfl) rfl rfl rfl (Nat.le_of_ble_eq_true rfl) ⟨Nat.le_of_ble_eq_true rfl, Nat.le_of_ble_eq_true rfl⟩ (by decide +kernel) ?_
            show Ev l d mi_X10_qTold 101 [some (.ref 65), some (.int x1), some (.int x2), some (.int (s.1 146 x2.toNatClampNeg))] [.long q14.1, .ref 65] (hp q14.2) 0 0 _
            obtain ⟨q15, hq15, hf⟩ := bd_some hf
            refine Ev.callS (M' := mi_X10_qClip) (d' := d - 1) (As := [.long q14.1]) (rest := [.ref 65]) (r' := (some (.long q15.1), hp q15.2)) (e_X10_qClip (d := d - 1) (by omega) q14.1 q14.2 _ hq15) (by omega) wm_X10_qClip wt_X10_qClip km_10_737 rfl rfl rfl (Nat.le_of_ble_eq_true rfl) ⟨Nat.le_of_ble_eq_true rfl, Nat.le_of_ble_eq_true rfl⟩ (by decide +kernel) ?_
            show Ev l d mi_X10_qTold 104 [some (.ref 65), some (.int x1), some (.int x2), some (.int (s.1 146 x2.toNatClampNeg))] [.long q15.1, .ref 65] (hp q15.2) 0 0 _
            obtain ⟨q16, hq16, hf⟩ := bd_some hf
            refine Ev.callV (o := 65) (M' := mi_X10_qPuts) (d' := d - 1) (As := [.long q15.1]) (rest := []) (r' := (none, hp q16)) (e_X10_qPuts (d := d - 1) (by omega) q15.1 q15.2 _ hq16) (by omega) wm_X10_qPuts wi_X10_qPuts wv_X10_qPuts km_10_536 (kc rfl rfl) (Nat.le_of_ble_eq_true rfl) rfl rfl rfl (Nat.le_of_ble_eq_true rfl) ⟨Nat.le_of_ble_eq_true rfl, Nat.le_of_ble_eq_true rfl⟩ (by decide +kernel) ?_
            show Ev l d mi_X10_qTold 107 [some (.ref 65), some (.int x1), some (.int x2), some (.int (s.1 146 x2.toNatClampNeg))] [] (hp q16) 0 0 _
            refine Ev.goto (off := 55) (tgt := 162) (by decide +kernel) (by decide) ?_
            refine Ev.blk (pc' := 165) [(.iinc 2 1, 0, 0, 0)] (by decide +kernel) trivial rfl (And.intro (Nat.le_of_ble_eq_true rfl) (?_))
            show Ev l d mi_X10_qTold 165 [some (.ref 65), some (.int x1), some (.int (x2 + Int32.ofInt 1)), some (.int (s.1 146 x2.toNatClampNeg))] [] (hp q16) 0 0 _
            refine Ev.goto (off := -158) (tgt := 7) (by decide +kernel) (by decide) ?_
            exact Ev.wk (ih x1 (x2 + Int32.ofInt 1) q16 _ hf) (And.intro (Or.inr rfl) (And.intro (Or.inr rfl) (And.intro (Or.inr rfl) (And.intro (Or.inl rfl) (trivial)))))
        · have hf := (if_neg b5).symm.trans hf
          obtain ⟨c17, hf⟩ := gd_some hf
          refine Ev.blk (pc' := 75) [(.aload_n 0, 0, 0, 0), (.getfield 269, 0, 10, 116), (.aload_n 0, 0, 0, 0), (.getfield 533, 0, 10, 117), (.iconst 1, 0, 0, 0), (.isub, 0, 0, 0), (.aload_n 0, 0, 0, 0), (.iload_n 3, 0, 0, 0), (.bipush 60, 0, 0, 0), (.isub, 0, 0, 0), (.aload_n 0, 0, 0, 0), (.getfield 269, 0, 10, 116), (.aload_n 0, 0, 0, 0), (.getfield 533, 0, 10, 117), (.iconst 1, 0, 0, 0), (.isub, 0, 0, 0), (.laload, 0, 0, 0), (.iload_n 1, 0, 0, 0)] (by decide +kernel) ⟨kf_10_269, ⟨kf_10_533, ⟨kf_10_269, ⟨kf_10_533, trivial⟩⟩⟩⟩ rfl (And.intro (kc rfl rfl) (Exists.intro 148 (And.intro rfl (And.intro (kc rfl rfl) (And.intro (kc rfl rfl) (Exists.intro 148 (And.intro rfl (And.intro (kc rfl rfl) (And.intro (kc rfl rfl) (And.intro (ib_ok c17) (?_)))))))))))
          show Ev l d mi_X10_qTold 75 [some (.ref 65), some (.int x1), some (.int x2), some (.int (s.1 146 x2.toNatClampNeg))] [.int x1, .long (s.2.1 148 ((s.1 65 117) - (Int32.ofInt 1)).toNatClampNeg), .int ((s.1 146 x2.toNatClampNeg) - ((Int8.ofInt 60).toInt32)), .ref 65, .int ((s.1 65 117) - (Int32.ofInt 1)), .ref 148] (hp s) 0 0 _
          obtain ⟨q18, hq18, hf⟩ := bd_some hf
          refine Ev.callV (o := 65) (M' := mi_X10_qOf) (d' := d - 1) (As := [.int ((s.1 146 x2.toNatClampNeg) - ((Int8.ofInt 60).toInt32)), .long (s.2.1 148 ((s.1 65 117) - (Int32.ofInt 1)).toNatClampNeg), .int x1]) (rest := [.int ((s.1 65 117) - (Int32.ofInt 1)), .ref 148]) (r' := (some (.long q18.1), hp q18.2)) (e_X10_qOf (d := d - 1) (by omega) ((s.1 146 x2.toNatClampNeg) - ((Int8.ofInt 60).toInt32)) (s.2.1 148 ((s.1 65 117) - (Int32.ofInt 1)).toNatClampNeg) x1 s _ hq18) (by omega) wm_X10_qOf wi_X10_qOf wv_X10_qOf km_10_745 (kc rfl rfl) (Nat.le_of_ble_eq_true rfl) rfl rfl rfl (Nat.le_of_ble_eq_true rfl) ⟨Nat.le_of_ble_eq_true rfl, Nat.le_of_ble_eq_true rfl⟩ (by decide +kernel) ?_
          show Ev l d mi_X10_qTold 78 [some (.ref 65), some (.int x1), some (.int x2), some (.int (s.1 146 x2.toNatClampNeg))] [.long q18.1, .int ((s.1 65 117) - (Int32.ofInt 1)), .ref 148] (hp q18.2) 0 0 _
          obtain ⟨q19, hq19, hf⟩ := bd_some hf
          refine Ev.callS (M' := mi_X10_qClip) (d' := d - 1) (As := [.long q18.1]) (rest := [.int ((s.1 65 117) - (Int32.ofInt 1)), .ref 148]) (r' := (some (.long q19.1), hp q19.2)) (e_X10_qClip (d := d - 1) (by omega) q18.1 q18.2 _ hq19) (by omega) wm_X10_qClip wt_X10_qClip km_10_737 rfl rfl rfl (Nat.le_of_ble_eq_true rfl) ⟨Nat.le_of_ble_eq_true rfl, Nat.le_of_ble_eq_true rfl⟩ (by decide +kernel) ?_
          show Ev l d mi_X10_qTold 81 [some (.ref 65), some (.int x1), some (.int x2), some (.int (s.1 146 x2.toNatClampNeg))] [.long q19.1, .int ((s.1 65 117) - (Int32.ofInt 1)), .ref 148] (hp q19.2) 0 0 _
          obtain ⟨c20, hf⟩ := gd_some hf
          obtain ⟨s21, hs21, hf⟩ := lt_some hf
          refine Ev.blk (pc' := 82) [(.lastore, 0, 0, 0)] (by decide +kernel) trivial rfl (And.intro (kc rfl rfl) (And.intro (ib_ok c20) (?_)))
          show Ev l d mi_X10_qTold 82 [some (.ref 65), some (.int x1), some (.int x2), some (.int (s.1 146 x2.toNatClampNeg))] [] (hp (uJ q19.2 148 ((s.1 65 117) - (Int32.ofInt 1)).toNatClampNeg q19.1)) 0 0 _
          rw [← hs21]
          refine Ev.goto (off := 80) (tgt := 162) (by decide +kernel) (by decide) ?_
          refine Ev.blk (pc' := 165) [(.iinc 2 1, 0, 0, 0)] (by decide +kernel) trivial rfl (And.intro (Nat.le_of_ble_eq_true rfl) (?_))
          show Ev l d mi_X10_qTold 165 [some (.ref 65), some (.int x1), some (.int (x2 + Int32.ofInt 1)), some (.int (s.1 146 x2.toNatClampNeg))] [] (hp s21) 0 0 _
          refine Ev.goto (off := -158) (tgt := 7) (by decide +kernel) (by decide) ?_
          exact Ev.wk (ih x1 (x2 + Int32.ofInt 1) s21 _ hf) (And.intro (Or.inr rfl) (And.intro (Or.inr rfl) (And.intro (Or.inr rfl) (And.intro (Or.inl rfl) (trivial)))))
      · have hf := (if_neg b4).symm.trans hf
        obtain ⟨v22, hv22, hf⟩ := lt_some hf
        refine Ev.blk (pc' := 36) [(.aload_n 0, 0, 0, 0), (.iload_n 3, 0, 0, 0), (.sipush 1000, 0, 0, 0), (.isub, 0, 0, 0), (.i2l, 0, 0, 0)] (by decide +kernel) trivial rfl (?_)
        show Ev l d mi_X10_qTold 36 [some (.ref 65), some (.int x1), some (.int x2), some (.int (s.1 146 x2.toNatClampNeg))] [.long ((s.1 146 x2.toNatClampNeg) - ((Int16.ofInt 1000).toInt32)).toInt64, .ref 65] (hp s) 0 0 _
        rw [← hv22]
        obtain ⟨q23, hq23, hf⟩ := bd_some hf
        refine Ev.callV (o := 65) (M' := mi_X10_qPuts) (d' := d - 1) (As := [.long v22]) (rest := []) (r' := (none, hp q23)) (e_X10_qPuts (d := d - 1) (by omega) v22 s _ hq23) (by omega) wm_X10_qPuts wi_X10_qPuts wv_X10_qPuts km_10_536 (kc rfl rfl) (Nat.le_of_ble_eq_true rfl) rfl rfl rfl (Nat.le_of_ble_eq_true rfl) ⟨Nat.le_of_ble_eq_true rfl, Nat.le_of_ble_eq_true rfl⟩ (by decide +kernel) ?_
        show Ev l d mi_X10_qTold 39 [some (.ref 65), some (.int x1), some (.int x2), some (.int (s.1 146 x2.toNatClampNeg))] [] (hp q23) 0 0 _
        refine Ev.goto (off := 123) (tgt := 162) (by decide +kernel) (by decide) ?_
        refine Ev.blk (pc' := 165) [(.iinc 2 1, 0, 0, 0)] (by decide +kernel) trivial rfl (And.intro (Nat.le_of_ble_eq_true rfl) (?_))
        show Ev l d mi_X10_qTold 165 [some (.ref 65), some (.int x1), some (.int (x2 + Int32.ofInt 1)), some (.int (s.1 146 x2.toNatClampNeg))] [] (hp q23) 0 0 _
        refine Ev.goto (off := -158) (tgt := 7) (by decide +kernel) (by decide) ?_
        exact Ev.wk (ih x1 (x2 + Int32.ofInt 1) q23 _ hf) (And.intro (Or.inr rfl) (And.intro (Or.inr rfl) (And.intro (Or.inr rfl) (And.intro (Or.inl rfl) (trivial)))))
def f_X10_qTold_j168 (s : ST) : Option (Int64 × ST) := gd (ib (Int32.ofInt 0) 1700) (some ((s.2.1 148 (Int32.ofInt 0).toNatClampNeg), s))
set_option maxHeartbeats 2000000 in
set_option maxRecDepth 20000 in
theorem e_X10_qTold_j168 {l : Launch} {d : Nat} (hd : 4 ≤ d) (s : ST) (r : Int64 × ST) (hf : f_X10_qTold_j168 s = some r) : Ev l d mi_X10_qTold 168 [some (.ref 65), none, none, none] [] (hp s) 0 0 (some (.long r.1), hp r.2) := by
  unfold f_X10_qTold_j168 at hf
  obtain ⟨c24, hf⟩ := gd_some hf
  refine Ev.blk (pc' := 174) [(.aload_n 0, 0, 0, 0), (.getfield 269, 0, 10, 116), (.iconst 0, 0, 0, 0), (.laload, 0, 0, 0)] (by decide +kernel) ⟨kf_10_269, trivial⟩ rfl (And.intro (kc rfl rfl) (Exists.intro 148 (And.intro rfl (And.intro (kc rfl rfl) (And.intro (ib_ok c24) (?_))))))
  show Ev l d mi_X10_qTold 174 [some (.ref 65), none, none, none] [.long (s.2.1 148 (Int32.ofInt 0).toNatClampNeg)] (hp s) 0 0 _
  cases hf
  exact Ev.lret rfl (by decide +kernel) (Nat.le_refl _) (Nat.le_refl _)
def f_X10_qTold (p0 : Int32) (s : ST) : Option (Int64 × ST) := lt (uI s 65 117 (Int32.ofInt 0)) (fun s1 => (f_X10_qTold_L7 f_X10_qTold_j168 fuel) p0 (Int32.ofInt 0) s1)
set_option maxHeartbeats 2000000 in
set_option maxRecDepth 20000 in
theorem e_X10_qTold {l : Launch} {d : Nat} (hd : 4 ≤ d) (p0 : Int32) (s : ST) (r : Int64 × ST) (hf : f_X10_qTold p0 s = some r) : Cl l d mi_X10_qTold [.ref 65, .int p0] (hp s) (some (.long r.1), hp r.2) := by
  refine Ev.entry (by decide +kernel) rfl rfl ?_
  show Ev l d mi_X10_qTold 0 [some (.ref 65), some (.int p0), none, none] [] (hp s) 0 0 _
  unfold f_X10_qTold at hf
  obtain ⟨s1, hs1, hf⟩ := lt_some hf
  refine Ev.blk (pc' := 7) [(.aload_n 0, 0, 0, 0), (.iconst 0, 0, 0, 0), (.putfield 533, 0, 10, 117), (.iconst 0, 0, 0, 0), (.istore_n 2, 0, 0, 0)] (by decide +kernel) ⟨⟨kf_10_533, Or.inl rfl⟩, trivial⟩ rfl (And.intro (kc rfl rfl) (And.intro (Nat.le_of_ble_eq_true rfl) (?_)))
  show Ev l d mi_X10_qTold 7 [some (.ref 65), some (.int p0), some (.int (Int32.ofInt 0)), none] [] (hp (uI s 65 117 (Int32.ofInt 0))) 0 0 _
  rw [← hs1]
  exact (e_X10_qTold_L7 hd f_X10_qTold_j168 (e_X10_qTold_j168 hd) fuel) p0 (Int32.ofInt 0) s1 _ hf
def f_X10_qKind_j76 (y0 : Int32) (s : ST) : Option (Int32 × ST) := (if y0 = (Int32.ofInt 5) then (f_X10_asks 128 s).bind (fun q12 => some (y0, q12)) else some (y0, s))
set_option maxHeartbeats 2000000 in
set_option maxRecDepth 20000 in
theorem e_X10_qKind_j76 {l : Launch} {d : Nat} (hd : 5 ≤ d) (y0 : Int32) (s : ST) (r : Int32 × ST) (hf : f_X10_qKind_j76 y0 s = some r) : Ev l d mi_X10_qKind 76 [some (.ref 65), none] [.int y0] (hp s) 0 0 (some (.int r.1), hp r.2) := by
  unfold f_X10_qKind_j76 at hf
  refine Ev.blk (pc' := 79) [(.istore_n 1, 0, 0, 0), (.iload_n 1, 0, 0, 0), (.iconst 5, 0, 0, 0)] (by decide +kernel) trivial rfl (And.intro (Nat.le_of_ble_eq_true rfl) (?_))
  show Ev l d mi_X10_qKind 79 [some (.ref 65), some (.int y0)] [.int (Int32.ofInt 5), .int y0] (hp s) 0 0 _
  refine Ev.icmp_ne (off := 11) (tgt := 90) (by decide +kernel) (by decide) (fun b11 => ?_) (fun b11 => ?_)
  · have hf := (if_neg b11).symm.trans hf
    refine Ev.blk (pc' := 91) [(.iload_n 1, 0, 0, 0)] (by decide +kernel) trivial rfl (?_)
    show Ev l d mi_X10_qKind 91 [some (.ref 65), some (.int y0)] [.int y0] (hp s) 0 0 _
    cases hf
    exact Ev.iret .int rfl rfl (by decide +kernel) (Nat.le_refl _) (Nat.le_refl _)
  · have hf := (if_pos b11).symm.trans hf
    refine Ev.blk (pc' := 87) [(.aload_n 0, 0, 0, 0), (.aload_n 0, 0, 0, 0), (.getfield 209, 0, 10, 92)] (by decide +kernel) ⟨kf_10_209, trivial⟩ rfl (And.intro (kc rfl rfl) (Exists.intro 128 (And.intro rfl (?_))))
    show Ev l d mi_X10_qKind 87 [some (.ref 65), some (.int y0)] [.ref 128, .ref 65] (hp s) 0 0 _
    obtain ⟨q12, hq12, hf⟩ := bd_some hf
    refine Ev.callV (o := 65) (M' := mi_X10_asks) (d' := d - 1) (As := [.ref 128]) (rest := []) (r' := (none, hp q12)) (e_X10_asks (d := d - 1) (by omega) 128 s _ hq12) (by omega) wm_X10_asks wi_X10_asks wv_X10_asks km_10_348 (kc rfl rfl) (Nat.le_of_ble_eq_true rfl) rfl rfl rfl (Nat.le_of_ble_eq_true rfl) ⟨Nat.le_of_ble_eq_true rfl, Nat.le_of_ble_eq_true rfl⟩ (by decide +kernel) ?_
    show Ev l d mi_X10_qKind 90 [some (.ref 65), some (.int y0)] [] (hp q12) 0 0 _
    refine Ev.blk (pc' := 91) [(.iload_n 1, 0, 0, 0)] (by decide +kernel) trivial rfl (?_)
    show Ev l d mi_X10_qKind 91 [some (.ref 65), some (.int y0)] [.int y0] (hp q12) 0 0 _
    cases hf
    exact Ev.iret .int rfl rfl (by decide +kernel) (Nat.le_refl _) (Nat.le_refl _)
def f_X10_qKind (s : ST) : Option (Int32 × ST) := (f_X10_takes 123 s).bind (fun q1 => (if q1.1 = 0 then (f_X10_takes 124 q1.2).bind (fun q3 => (if q3.1 = 0 then (f_X10_takes 125 q3.2).bind (fun q5 => (if q5.1 = 0 then (f_X10_takes 126 q5.2).bind (fun q7 => (if q7.1 = 0 then (f_X10_takes 127 q7.2).bind (fun q9 => (if q9.1 = 0 then f_X10_qKind_j76 (Int32.ofInt 5) q9.2 else f_X10_qKind_j76 (Int32.ofInt 4) q9.2)) else f_X10_qKind_j76 (Int32.ofInt 3) q7.2)) else f_X10_qKind_j76 (Int32.ofInt 2) q5.2)) else f_X10_qKind_j76 (Int32.ofInt 1) q3.2)) else f_X10_qKind_j76 (Int32.ofInt 0) q1.2))
set_option maxHeartbeats 2000000 in
set_option maxRecDepth 20000 in
theorem e_X10_qKind {l : Launch} {d : Nat} (hd : 5 ≤ d) (s : ST) (r : Int32 × ST) (hf : f_X10_qKind s = some r) : Cl l d mi_X10_qKind [.ref 65] (hp s) (some (.int r.1), hp r.2) := by
  refine Ev.entry (by decide +kernel) rfl rfl ?_
  show Ev l d mi_X10_qKind 0 [some (.ref 65), none] [] (hp s) 0 0 _
  unfold f_X10_qKind at hf
  refine Ev.blk (pc' := 5) [(.aload_n 0, 0, 0, 0), (.aload_n 0, 0, 0, 0), (.getfield 194, 0, 10, 87)] (by decide +kernel) ⟨kf_10_194, trivial⟩ rfl (And.intro (kc rfl rfl) (Exists.intro 123 (And.intro rfl (?_))))
  show Ev l d mi_X10_qKind 5 [some (.ref 65), none] [.ref 123, .ref 65] (hp s) 0 0 _
  obtain ⟨q1, hq1, hf⟩ := bd_some hf
  refine Ev.callV (o := 65) (M' := mi_X10_takes) (d' := d - 1) (As := [.ref 123]) (rest := []) (r' := (some (.int q1.1), hp q1.2)) (e_X10_takes (d := d - 1) (by omega) 123 s _ hq1) (by omega) wm_X10_takes wi_X10_takes wv_X10_takes km_10_305 (kc rfl rfl) (Nat.le_of_ble_eq_true rfl) rfl rfl rfl (Nat.le_of_ble_eq_true rfl) ⟨Nat.le_of_ble_eq_true rfl, Nat.le_of_ble_eq_true rfl⟩ (by decide +kernel) ?_
  show Ev l d mi_X10_qKind 8 [some (.ref 65), none] [.int q1.1] (hp q1.2) 0 0 _
  refine Ev.if_eq (off := 7) (tgt := 15) (by decide +kernel) (by decide) (fun b2 => ?_) (fun b2 => ?_)
  · have hf := (if_pos b2).symm.trans hf
    refine Ev.blk (pc' := 20) [(.aload_n 0, 0, 0, 0), (.aload_n 0, 0, 0, 0), (.getfield 197, 0, 10, 88)] (by decide +kernel) ⟨kf_10_197, trivial⟩ rfl (And.intro (kc rfl rfl) (Exists.intro 124 (And.intro rfl (?_))))
    show Ev l d mi_X10_qKind 20 [some (.ref 65), none] [.ref 124, .ref 65] (hp q1.2) 0 0 _
    obtain ⟨q3, hq3, hf⟩ := bd_some hf
    refine Ev.callV (o := 65) (M' := mi_X10_takes) (d' := d - 1) (As := [.ref 124]) (rest := []) (r' := (some (.int q3.1), hp q3.2)) (e_X10_takes (d := d - 1) (by omega) 124 q1.2 _ hq3) (by omega) wm_X10_takes wi_X10_takes wv_X10_takes km_10_305 (kc rfl rfl) (Nat.le_of_ble_eq_true rfl) rfl rfl rfl (Nat.le_of_ble_eq_true rfl) ⟨Nat.le_of_ble_eq_true rfl, Nat.le_of_ble_eq_true rfl⟩ (by decide +kernel) ?_
    show Ev l d mi_X10_qKind 23 [some (.ref 65), none] [.int q3.1] (hp q3.2) 0 0 _
    refine Ev.if_eq (off := 7) (tgt := 30) (by decide +kernel) (by decide) (fun b4 => ?_) (fun b4 => ?_)
    · have hf := (if_pos b4).symm.trans hf
      refine Ev.blk (pc' := 35) [(.aload_n 0, 0, 0, 0), (.aload_n 0, 0, 0, 0), (.getfield 200, 0, 10, 89)] (by decide +kernel) ⟨kf_10_200, trivial⟩ rfl (And.intro (kc rfl rfl) (Exists.intro 125 (And.intro rfl (?_))))
      show Ev l d mi_X10_qKind 35 [some (.ref 65), none] [.ref 125, .ref 65] (hp q3.2) 0 0 _
      obtain ⟨q5, hq5, hf⟩ := bd_some hf
      refine Ev.callV (o := 65) (M' := mi_X10_takes) (d' := d - 1) (As := [.ref 125]) (rest := []) (r' := (some (.int q5.1), hp q5.2)) (e_X10_takes (d := d - 1) (by omega) 125 q3.2 _ hq5) (by omega) wm_X10_takes wi_X10_takes wv_X10_takes km_10_305 (kc rfl rfl) (Nat.le_of_ble_eq_true rfl) rfl rfl rfl (Nat.le_of_ble_eq_true rfl) ⟨Nat.le_of_ble_eq_true rfl, Nat.le_of_ble_eq_true rfl⟩ (by decide +kernel) ?_
      show Ev l d mi_X10_qKind 38 [some (.ref 65), none] [.int q5.1] (hp q5.2) 0 0 _
      refine Ev.if_eq (off := 7) (tgt := 45) (by decide +kernel) (by decide) (fun b6 => ?_) (fun b6 => ?_)
      · have hf := (if_pos b6).symm.trans hf
        refine Ev.blk (pc' := 50) [(.aload_n 0, 0, 0, 0), (.aload_n 0, 0, 0, 0), (.getfield 203, 0, 10, 90)] (by decide +kernel) ⟨kf_10_203, trivial⟩ rfl (And.intro (kc rfl rfl) (Exists.intro 126 (And.intro rfl (?_))))
        show Ev l d mi_X10_qKind 50 [some (.ref 65), none] [.ref 126, .ref 65] (hp q5.2) 0 0 _
        obtain ⟨q7, hq7, hf⟩ := bd_some hf
        refine Ev.callV (o := 65) (M' := mi_X10_takes) (d' := d - 1) (As := [.ref 126]) (rest := []) (r' := (some (.int q7.1), hp q7.2)) (e_X10_takes (d := d - 1) (by omega) 126 q5.2 _ hq7) (by omega) wm_X10_takes wi_X10_takes wv_X10_takes km_10_305 (kc rfl rfl) (Nat.le_of_ble_eq_true rfl) rfl rfl rfl (Nat.le_of_ble_eq_true rfl) ⟨Nat.le_of_ble_eq_true rfl, Nat.le_of_ble_eq_true rfl⟩ (by decide +kernel) ?_
        show Ev l d mi_X10_qKind 53 [some (.ref 65), none] [.int q7.1] (hp q7.2) 0 0 _
        refine Ev.if_eq (off := 7) (tgt := 60) (by decide +kernel) (by decide) (fun b8 => ?_) (fun b8 => ?_)
        · have hf := (if_pos b8).symm.trans hf
          refine Ev.blk (pc' := 65) [(.aload_n 0, 0, 0, 0), (.aload_n 0, 0, 0, 0), (.getfield 206, 0, 10, 91)] (by decide +kernel) ⟨kf_10_206, trivial⟩ rfl (And.intro (kc rfl rfl) (Exists.intro 127 (And.intro rfl (?_))))
          show Ev l d mi_X10_qKind 65 [some (.ref 65), none] [.ref 127, .ref 65] (hp q7.2) 0 0 _
          obtain ⟨q9, hq9, hf⟩ := bd_some hf
          refine Ev.callV (o := 65) (M' := mi_X10_takes) (d' := d - 1) (As := [.ref 127]) (rest := []) (r' := (some (.int q9.1), hp q9.2)) (e_X10_takes (d := d - 1) (by omega) 127 q7.2 _ hq9) (by omega) wm_X10_takes wi_X10_takes wv_X10_takes km_10_305 (kc rfl rfl) (Nat.le_of_ble_eq_true rfl) rfl rfl rfl (Nat.le_of_ble_eq_true rfl) ⟨Nat.le_of_ble_eq_true rfl, Nat.le_of_ble_eq_true rfl⟩ (by decide +kernel) ?_
          show Ev l d mi_X10_qKind 68 [some (.ref 65), none] [.int q9.1] (hp q9.2) 0 0 _
          refine Ev.if_eq (off := 7) (tgt := 75) (by decide +kernel) (by decide) (fun b10 => ?_) (fun b10 => ?_)
          · have hf := (if_pos b10).symm.trans hf
            refine Ev.blk (pc' := 76) [(.iconst 5, 0, 0, 0)] (by decide +kernel) trivial rfl (?_)
            show Ev l d mi_X10_qKind 76 [some (.ref 65), none] [.int (Int32.ofInt 5)] (hp q9.2) 0 0 _
            exact (e_X10_qKind_j76 hd) (Int32.ofInt 5) q9.2 _ hf
          · have hf := (if_neg b10).symm.trans hf
            refine Ev.blk (pc' := 72) [(.iconst 4, 0, 0, 0)] (by decide +kernel) trivial rfl (?_)
            show Ev l d mi_X10_qKind 72 [some (.ref 65), none] [.int (Int32.ofInt 4)] (hp q9.2) 0 0 _
            refine Ev.goto (off := 4) (tgt := 76) (by decide +kernel) (by decide) ?_
            exact (e_X10_qKind_j76 hd) (Int32.ofInt 4) q9.2 _ hf
        · have hf := (if_neg b8).symm.trans hf
          refine Ev.blk (pc' := 57) [(.iconst 3, 0, 0, 0)] (by decide +kernel) trivial rfl (?_)
          show Ev l d mi_X10_qKind 57 [some (.ref 65), none] [.int (Int32.ofInt 3)] (hp q7.2) 0 0 _
          refine Ev.goto (off := 19) (tgt := 76) (by decide +kernel) (by decide) ?_
          exact (e_X10_qKind_j76 hd) (Int32.ofInt 3) q7.2 _ hf
      · have hf := (if_neg b6).symm.trans hf
        refine Ev.blk (pc' := 42) [(.iconst 2, 0, 0, 0)] (by decide +kernel) trivial rfl (?_)
        show Ev l d mi_X10_qKind 42 [some (.ref 65), none] [.int (Int32.ofInt 2)] (hp q5.2) 0 0 _
        refine Ev.goto (off := 34) (tgt := 76) (by decide +kernel) (by decide) ?_
        exact (e_X10_qKind_j76 hd) (Int32.ofInt 2) q5.2 _ hf
    · have hf := (if_neg b4).symm.trans hf
      refine Ev.blk (pc' := 27) [(.iconst 1, 0, 0, 0)] (by decide +kernel) trivial rfl (?_)
      show Ev l d mi_X10_qKind 27 [some (.ref 65), none] [.int (Int32.ofInt 1)] (hp q3.2) 0 0 _
      refine Ev.goto (off := 49) (tgt := 76) (by decide +kernel) (by decide) ?_
      exact (e_X10_qKind_j76 hd) (Int32.ofInt 1) q3.2 _ hf
  · have hf := (if_neg b2).symm.trans hf
    refine Ev.blk (pc' := 12) [(.iconst 0, 0, 0, 0)] (by decide +kernel) trivial rfl (?_)
    show Ev l d mi_X10_qKind 12 [some (.ref 65), none] [.int (Int32.ofInt 0)] (hp q1.2) 0 0 _
    refine Ev.goto (off := 64) (tgt := 76) (by decide +kernel) (by decide) ?_
    exact (e_X10_qKind_j76 hd) (Int32.ofInt 0) q1.2 _ hf
def f_X10_qTakes_j133 (s : ST) : Option (ST) := lt (uI s 65 119 (Int32.ofInt 0)) (fun s20 => some s20)
set_option maxHeartbeats 2000000 in
set_option maxRecDepth 20000 in
theorem e_X10_qTakes_j133 {l : Launch} {d : Nat} (hd : 1 ≤ d) (s : ST) (r : ST) (hf : f_X10_qTakes_j133 s = some r) : Ev l d mi_X10_qTakes 133 [some (.ref 65), none, none, none, none, none] [] (hp s) 0 0 (none, hp r) := by
  unfold f_X10_qTakes_j133 at hf
  obtain ⟨s20, hs20, hf⟩ := lt_some hf
  refine Ev.blk (pc' := 138) [(.aload_n 0, 0, 0, 0), (.iconst 0, 0, 0, 0), (.putfield 754, 0, 10, 119)] (by decide +kernel) ⟨⟨kf_10_754, Or.inl rfl⟩, trivial⟩ rfl (And.intro (kc rfl rfl) (And.intro (Or.inl rfl) (?_)))
  show Ev l d mi_X10_qTakes 138 [some (.ref 65), none, none, none, none, none] [] (hp (uI s 65 119 (Int32.ofInt 0))) 0 0 _
  rw [← hs20]
  cases hf
  exact Ev.vret rfl (by decide +kernel) (Nat.le_refl _) (Nat.le_refl _)
def f_X10_qTakes_j128 (x2 : Int64) (s : ST) : Option (ST) := lt (uJ s 65 118 x2) (fun s19 => f_X10_qTakes_j133 s19)
set_option maxHeartbeats 2000000 in
set_option maxRecDepth 20000 in
theorem e_X10_qTakes_j128 {l : Launch} {d : Nat} (hd : 1 ≤ d) (x2 : Int64) (s : ST) (r : ST) (hf : f_X10_qTakes_j128 x2 s = some r) : Ev l d mi_X10_qTakes 128 [some (.ref 65), none, some (.long x2), none, none, none] [] (hp s) 0 0 (none, hp r) := by
  unfold f_X10_qTakes_j128 at hf
  obtain ⟨s19, hs19, hf⟩ := lt_some hf
  refine Ev.blk (pc' := 133) [(.aload_n 0, 0, 0, 0), (.lload_n 2, 0, 0, 0), (.putfield 749, 0, 10, 118)] (by decide +kernel) ⟨⟨kf_10_749, Or.inl rfl⟩, trivial⟩ rfl (And.intro (kc rfl rfl) (?_))
  show Ev l d mi_X10_qTakes 133 [some (.ref 65), none, some (.long x2), none, none, none] [] (hp (uJ s 65 118 x2)) 0 0 _
  rw [← hs19]
  exact Ev.wk ((e_X10_qTakes_j133 hd) s19 _ hf) (And.intro (Or.inr rfl) (And.intro (Or.inr rfl) (And.intro (Or.inl rfl) (And.intro (Or.inr rfl) (And.intro (Or.inr rfl) (And.intro (Or.inr rfl) (trivial)))))))
def f_X10_qTakes_j90 (x1 : Int32) (x2 : Int64) (s : ST) : Option (ST) := (if x1 ≤ (Int32.ofInt 3) then f_X10_qTakes_j133 s else (if (s.1 65 119) = 0 then (if x1 = (Int32.ofInt 4) then (if (lg_cmp x2 (s.2.1 65 118)) ≤ 0 then f_X10_qTakes_j133 s else f_X10_qTakes_j128 x2 s) else (if 0 ≤ (lg_cmp x2 (s.2.1 65 118)) then f_X10_qTakes_j133 s else f_X10_qTakes_j128 x2 s)) else f_X10_qTakes_j128 x2 s))
set_option maxHeartbeats 2000000 in
set_option maxRecDepth 20000 in
theorem e_X10_qTakes_j90 {l : Launch} {d : Nat} (hd : 1 ≤ d) (x1 : Int32) (x2 : Int64) (s : ST) (r : ST) (hf : f_X10_qTakes_j90 x1 x2 s = some r) : Ev l d mi_X10_qTakes 90 [some (.ref 65), some (.int x1), some (.long x2), none, none, none] [] (hp s) 0 0 (none, hp r) := by
  unfold f_X10_qTakes_j90 at hf
  refine Ev.blk (pc' := 92) [(.iload_n 1, 0, 0, 0), (.iconst 3, 0, 0, 0)] (by decide +kernel) trivial rfl (?_)
  show Ev l d mi_X10_qTakes 92 [some (.ref 65), some (.int x1), some (.long x2), none, none, none] [.int (Int32.ofInt 3), .int x1] (hp s) 0 0 _
  refine Ev.icmp_le (off := 41) (tgt := 133) (by decide +kernel) (by decide) (fun b14 => ?_) (fun b14 => ?_)
  · have hf := (if_pos b14).symm.trans hf
    exact Ev.wk ((e_X10_qTakes_j133 hd) s _ hf) (And.intro (Or.inr rfl) (And.intro (Or.inl rfl) (And.intro (Or.inl rfl) (And.intro (Or.inr rfl) (And.intro (Or.inr rfl) (And.intro (Or.inr rfl) (trivial)))))))
  · have hf := (if_neg b14).symm.trans hf
    refine Ev.blk (pc' := 99) [(.aload_n 0, 0, 0, 0), (.getfield 754, 0, 10, 119)] (by decide +kernel) ⟨kf_10_754, trivial⟩ rfl (And.intro (kc rfl rfl) (?_))
    show Ev l d mi_X10_qTakes 99 [some (.ref 65), some (.int x1), some (.long x2), none, none, none] [.int (s.1 65 119)] (hp s) 0 0 _
    refine Ev.if_ne (off := 29) (tgt := 128) (by decide +kernel) (by decide) (fun b15 => ?_) (fun b15 => ?_)
    · have hf := (if_neg b15).symm.trans hf
      exact Ev.wk ((e_X10_qTakes_j128 hd) x2 s _ hf) (And.intro (Or.inr rfl) (And.intro (Or.inl rfl) (And.intro (Or.inr rfl) (And.intro (Or.inr rfl) (And.intro (Or.inr rfl) (And.intro (Or.inr rfl) (trivial)))))))
    · have hf := (if_pos b15).symm.trans hf
      refine Ev.blk (pc' := 104) [(.iload_n 1, 0, 0, 0), (.iconst 4, 0, 0, 0)] (by decide +kernel) trivial rfl (?_)
      show Ev l d mi_X10_qTakes 104 [some (.ref 65), some (.int x1), some (.long x2), none, none, none] [.int (Int32.ofInt 4), .int x1] (hp s) 0 0 _
      refine Ev.icmp_ne (off := 15) (tgt := 119) (by decide +kernel) (by decide) (fun b16 => ?_) (fun b16 => ?_)
      · have hf := (if_neg b16).symm.trans hf
        refine Ev.blk (pc' := 125) [(.lload_n 2, 0, 0, 0), (.aload_n 0, 0, 0, 0), (.getfield 749, 0, 10, 118), (.lcmp, 0, 0, 0)] (by decide +kernel) ⟨kf_10_749, trivial⟩ rfl (And.intro (kc rfl rfl) (?_))
        show Ev l d mi_X10_qTakes 125 [some (.ref 65), some (.int x1), some (.long x2), none, none, none] [.int (lg_cmp x2 (s.2.1 65 118))] (hp s) 0 0 _
        refine Ev.if_ge (off := 8) (tgt := 133) (by decide +kernel) (by decide) (fun b17 => ?_) (fun b17 => ?_)
        · have hf := (if_pos b17).symm.trans hf
          exact Ev.wk ((e_X10_qTakes_j133 hd) s _ hf) (And.intro (Or.inr rfl) (And.intro (Or.inl rfl) (And.intro (Or.inl rfl) (And.intro (Or.inr rfl) (And.intro (Or.inr rfl) (And.intro (Or.inr rfl) (trivial)))))))
        · have hf := (if_neg b17).symm.trans hf
          exact Ev.wk ((e_X10_qTakes_j128 hd) x2 s _ hf) (And.intro (Or.inr rfl) (And.intro (Or.inl rfl) (And.intro (Or.inr rfl) (And.intro (Or.inr rfl) (And.intro (Or.inr rfl) (And.intro (Or.inr rfl) (trivial)))))))
      · have hf := (if_pos b16).symm.trans hf
        refine Ev.blk (pc' := 113) [(.lload_n 2, 0, 0, 0), (.aload_n 0, 0, 0, 0), (.getfield 749, 0, 10, 118), (.lcmp, 0, 0, 0)] (by decide +kernel) ⟨kf_10_749, trivial⟩ rfl (And.intro (kc rfl rfl) (?_))
        show Ev l d mi_X10_qTakes 113 [some (.ref 65), some (.int x1), some (.long x2), none, none, none] [.int (lg_cmp x2 (s.2.1 65 118))] (hp s) 0 0 _
        refine Ev.if_le (off := 20) (tgt := 133) (by decide +kernel) (by decide) (fun b18 => ?_) (fun b18 => ?_)
        · have hf := (if_pos b18).symm.trans hf
          exact Ev.wk ((e_X10_qTakes_j133 hd) s _ hf) (And.intro (Or.inr rfl) (And.intro (Or.inl rfl) (And.intro (Or.inl rfl) (And.intro (Or.inr rfl) (And.intro (Or.inr rfl) (And.intro (Or.inr rfl) (trivial)))))))
        · have hf := (if_neg b18).symm.trans hf
          refine Ev.goto (off := 12) (tgt := 128) (by decide +kernel) (by decide) ?_
          exact Ev.wk ((e_X10_qTakes_j128 hd) x2 s _ hf) (And.intro (Or.inr rfl) (And.intro (Or.inl rfl) (And.intro (Or.inr rfl) (And.intro (Or.inr rfl) (And.intro (Or.inr rfl) (And.intro (Or.inr rfl) (trivial)))))))
def f_X10_qTakes_j75 (x1 : Int32) (x2 : Int64) (s : ST) : Option (ST) := (if x1 = (Int32.ofInt 3) then lt (uJ s 65 118 ((s.2.1 65 118) + x2)) (fun s13 => f_X10_qTakes_j90 x1 x2 s13) else f_X10_qTakes_j90 x1 x2 s)
set_option maxHeartbeats 2000000 in
set_option maxRecDepth 20000 in
theorem e_X10_qTakes_j75 {l : Launch} {d : Nat} (hd : 1 ≤ d) (x1 : Int32) (x2 : Int64) (s : ST) (r : ST) (hf : f_X10_qTakes_j75 x1 x2 s = some r) : Ev l d mi_X10_qTakes 75 [some (.ref 65), some (.int x1), some (.long x2), none, none, none] [] (hp s) 0 0 (none, hp r) := by
  unfold f_X10_qTakes_j75 at hf
  refine Ev.blk (pc' := 77) [(.iload_n 1, 0, 0, 0), (.iconst 3, 0, 0, 0)] (by decide +kernel) trivial rfl (?_)
  show Ev l d mi_X10_qTakes 77 [some (.ref 65), some (.int x1), some (.long x2), none, none, none] [.int (Int32.ofInt 3), .int x1] (hp s) 0 0 _
  refine Ev.icmp_ne (off := 13) (tgt := 90) (by decide +kernel) (by decide) (fun b12 => ?_) (fun b12 => ?_)
  · have hf := (if_neg b12).symm.trans hf
    exact (e_X10_qTakes_j90 hd) x1 x2 s _ hf
  · have hf := (if_pos b12).symm.trans hf
    obtain ⟨s13, hs13, hf⟩ := lt_some hf
    refine Ev.blk (pc' := 90) [(.aload_n 0, 0, 0, 0), (.dup, 0, 0, 0), (.getfield 749, 0, 10, 118), (.lload_n 2, 0, 0, 0), (.ladd, 0, 0, 0), (.putfield 749, 0, 10, 118)] (by decide +kernel) ⟨kf_10_749, ⟨⟨kf_10_749, Or.inl rfl⟩, trivial⟩⟩ rfl (And.intro rfl (And.intro (kc rfl rfl) (And.intro (kc rfl rfl) (?_))))
    show Ev l d mi_X10_qTakes 90 [some (.ref 65), some (.int x1), some (.long x2), none, none, none] [] (hp (uJ s 65 118 ((s.2.1 65 118) + x2))) 0 0 _
    rw [← hs13]
    exact (e_X10_qTakes_j90 hd) x1 x2 s13 _ hf
def f_X10_qTakes_j55 (x1 : Int32) (x2 : Int64) (x5 : Int32) (s : ST) : Option (ST) := (if x1 = (Int32.ofInt 2) then (if x5 = 0 then f_X10_qTakes_j75 x1 x2 s else lt (uJ s 65 118 ((s.2.1 65 118) + (Int64.ofNat ((1 : Fin 2) : Nat)))) (fun s11 => f_X10_qTakes_j75 x1 x2 s11)) else f_X10_qTakes_j75 x1 x2 s)
set_option maxHeartbeats 2000000 in
set_option maxRecDepth 20000 in
theorem e_X10_qTakes_j55 {l : Launch} {d : Nat} (hd : 1 ≤ d) (x1 : Int32) (x2 : Int64) (x5 : Int32) (s : ST) (r : ST) (hf : f_X10_qTakes_j55 x1 x2 x5 s = some r) : Ev l d mi_X10_qTakes 55 [some (.ref 65), some (.int x1), some (.long x2), none, none, some (.int x5)] [] (hp s) 0 0 (none, hp r) := by
  unfold f_X10_qTakes_j55 at hf
  refine Ev.blk (pc' := 57) [(.iload_n 1, 0, 0, 0), (.iconst 2, 0, 0, 0)] (by decide +kernel) trivial rfl (?_)
  show Ev l d mi_X10_qTakes 57 [some (.ref 65), some (.int x1), some (.long x2), none, none, some (.int x5)] [.int (Int32.ofInt 2), .int x1] (hp s) 0 0 _
  refine Ev.icmp_ne (off := 18) (tgt := 75) (by decide +kernel) (by decide) (fun b9 => ?_) (fun b9 => ?_)
  · have hf := (if_neg b9).symm.trans hf
    exact Ev.wk ((e_X10_qTakes_j75 hd) x1 x2 s _ hf) (And.intro (Or.inr rfl) (And.intro (Or.inr rfl) (And.intro (Or.inr rfl) (And.intro (Or.inr rfl) (And.intro (Or.inr rfl) (And.intro (Or.inl rfl) (trivial)))))))
  · have hf := (if_pos b9).symm.trans hf
    refine Ev.blk (pc' := 62) [(.iload 5, 0, 0, 0)] (by decide +kernel) trivial rfl (?_)
    show Ev l d mi_X10_qTakes 62 [some (.ref 65), some (.int x1), some (.long x2), none, none, some (.int x5)] [.int x5] (hp s) 0 0 _
    refine Ev.if_eq (off := 13) (tgt := 75) (by decide +kernel) (by decide) (fun b10 => ?_) (fun b10 => ?_)
    · have hf := (if_pos b10).symm.trans hf
      exact Ev.wk ((e_X10_qTakes_j75 hd) x1 x2 s _ hf) (And.intro (Or.inr rfl) (And.intro (Or.inr rfl) (And.intro (Or.inr rfl) (And.intro (Or.inr rfl) (And.intro (Or.inr rfl) (And.intro (Or.inl rfl) (trivial)))))))
    · have hf := (if_neg b10).symm.trans hf
      obtain ⟨s11, hs11, hf⟩ := lt_some hf
      refine Ev.blk (pc' := 75) [(.aload_n 0, 0, 0, 0), (.dup, 0, 0, 0), (.getfield 749, 0, 10, 118), (.lconst 1, 0, 0, 0), (.ladd, 0, 0, 0), (.putfield 749, 0, 10, 118)] (by decide +kernel) ⟨kf_10_749, ⟨⟨kf_10_749, Or.inl rfl⟩, trivial⟩⟩ rfl (And.intro rfl (And.intro (kc rfl rfl) (And.intro (kc rfl rfl) (?_))))
      show Ev l d mi_X10_qTakes 75 [some (.ref 65), some (.int x1), some (.long x2), none, none, some (.int x5)] [] (hp (uJ s 65 118 ((s.2.1 65 118) + (Int64.ofNat ((1 : Fin 2) : Nat))))) 0 0 _
      rw [← hs11]
      exact Ev.wk ((e_X10_qTakes_j75 hd) x1 x2 s11 _ hf) (And.intro (Or.inr rfl) (And.intro (Or.inr rfl) (And.intro (Or.inr rfl) (And.intro (Or.inr rfl) (And.intro (Or.inr rfl) (And.intro (Or.inl rfl) (trivial)))))))
def f_X10_qTakes_j48 (x1 : Int32) (x2 : Int64) (x4 : Int32) (x5 : Int32) (s : ST) : Option (ST) := lt (uJ s 65 118 ((x4).toInt64)) (fun s8 => f_X10_qTakes_j55 x1 x2 x5 s8)
set_option maxHeartbeats 2000000 in
set_option maxRecDepth 20000 in
theorem e_X10_qTakes_j48 {l : Launch} {d : Nat} (hd : 1 ≤ d) (x1 : Int32) (x2 : Int64) (x4 : Int32) (x5 : Int32) (s : ST) (r : ST) (hf : f_X10_qTakes_j48 x1 x2 x4 x5 s = some r) : Ev l d mi_X10_qTakes 48 [some (.ref 65), some (.int x1), some (.long x2), none, some (.int x4), some (.int x5)] [] (hp s) 0 0 (none, hp r) := by
  unfold f_X10_qTakes_j48 at hf
  obtain ⟨s8, hs8, hf⟩ := lt_some hf
  refine Ev.blk (pc' := 55) [(.aload_n 0, 0, 0, 0), (.iload 4, 0, 0, 0), (.i2l, 0, 0, 0), (.putfield 749, 0, 10, 118)] (by decide +kernel) ⟨⟨kf_10_749, Or.inl rfl⟩, trivial⟩ rfl (And.intro (kc rfl rfl) (?_))
  show Ev l d mi_X10_qTakes 55 [some (.ref 65), some (.int x1), some (.long x2), none, some (.int x4), some (.int x5)] [] (hp (uJ s 65 118 ((x4).toInt64))) 0 0 _
  rw [← hs8]
  exact Ev.wk ((e_X10_qTakes_j55 hd) x1 x2 x5 s8 _ hf) (And.intro (Or.inr rfl) (And.intro (Or.inr rfl) (And.intro (Or.inr rfl) (And.intro (Or.inr rfl) (And.intro (Or.inl rfl) (And.intro (Or.inr rfl) (trivial)))))))
def f_X10_qTakes_j38 (x1 : Int32) (x2 : Int64) (x4 : Int32) (x5 : Int32) (s : ST) : Option (ST) := (if x1 = (Int32.ofInt 1) then (if x5 = 0 then f_X10_qTakes_j55 x1 x2 x5 s else f_X10_qTakes_j48 x1 x2 x4 x5 s) else f_X10_qTakes_j55 x1 x2 x5 s)
set_option maxHeartbeats 2000000 in
set_option maxRecDepth 20000 in
theorem e_X10_qTakes_j38 {l : Launch} {d : Nat} (hd : 1 ≤ d) (x1 : Int32) (x2 : Int64) (x4 : Int32) (x5 : Int32) (s : ST) (r : ST) (hf : f_X10_qTakes_j38 x1 x2 x4 x5 s = some r) : Ev l d mi_X10_qTakes 38 [some (.ref 65), some (.int x1), some (.long x2), none, some (.int x4), some (.int x5)] [] (hp s) 0 0 (none, hp r) := by
  unfold f_X10_qTakes_j38 at hf
  refine Ev.blk (pc' := 40) [(.iload_n 1, 0, 0, 0), (.iconst 1, 0, 0, 0)] (by decide +kernel) trivial rfl (?_)
  show Ev l d mi_X10_qTakes 40 [some (.ref 65), some (.int x1), some (.long x2), none, some (.int x4), some (.int x5)] [.int (Int32.ofInt 1), .int x1] (hp s) 0 0 _
  refine Ev.icmp_ne (off := 15) (tgt := 55) (by decide +kernel) (by decide) (fun b6 => ?_) (fun b6 => ?_)
  · have hf := (if_neg b6).symm.trans hf
    exact Ev.wk ((e_X10_qTakes_j55 hd) x1 x2 x5 s _ hf) (And.intro (Or.inr rfl) (And.intro (Or.inr rfl) (And.intro (Or.inr rfl) (And.intro (Or.inr rfl) (And.intro (Or.inl rfl) (And.intro (Or.inr rfl) (trivial)))))))
  · have hf := (if_pos b6).symm.trans hf
    refine Ev.blk (pc' := 45) [(.iload 5, 0, 0, 0)] (by decide +kernel) trivial rfl (?_)
    show Ev l d mi_X10_qTakes 45 [some (.ref 65), some (.int x1), some (.long x2), none, some (.int x4), some (.int x5)] [.int x5] (hp s) 0 0 _
    refine Ev.if_eq (off := 10) (tgt := 55) (by decide +kernel) (by decide) (fun b7 => ?_) (fun b7 => ?_)
    · have hf := (if_pos b7).symm.trans hf
      exact Ev.wk ((e_X10_qTakes_j55 hd) x1 x2 x5 s _ hf) (And.intro (Or.inr rfl) (And.intro (Or.inr rfl) (And.intro (Or.inr rfl) (And.intro (Or.inr rfl) (And.intro (Or.inl rfl) (And.intro (Or.inr rfl) (trivial)))))))
    · have hf := (if_neg b7).symm.trans hf
      exact (e_X10_qTakes_j48 hd) x1 x2 x4 x5 s _ hf
def f_X10_qTakes_j16 (x1 : Int32) (x2 : Int64) (x4 : Int32) (y0 : Int32) (s : ST) : Option (ST) := (if x1 = 0 then (if y0 = 0 then f_X10_qTakes_j38 x1 x2 x4 y0 s else (if (lg_cmp (s.2.1 65 118) (Int64.ofInt (-1))) = 0 then f_X10_qTakes_j48 x1 x2 x4 y0 s else f_X10_qTakes_j38 x1 x2 x4 y0 s)) else f_X10_qTakes_j38 x1 x2 x4 y0 s)
set_option maxHeartbeats 2000000 in
set_option maxRecDepth 20000 in
theorem e_X10_qTakes_j16 {l : Launch} {d : Nat} (hd : 1 ≤ d) (x1 : Int32) (x2 : Int64) (x4 : Int32) (y0 : Int32) (s : ST) (r : ST) (hf : f_X10_qTakes_j16 x1 x2 x4 y0 s = some r) : Ev l d mi_X10_qTakes 16 [some (.ref 65), some (.int x1), some (.long x2), none, some (.int x4), none] [.int y0] (hp s) 0 0 (none, hp r) := by
  unfold f_X10_qTakes_j16 at hf
  refine Ev.blk (pc' := 19) [(.istore 5, 0, 0, 0), (.iload_n 1, 0, 0, 0)] (by decide +kernel) trivial rfl (And.intro (Nat.le_of_ble_eq_true rfl) (?_))
  show Ev l d mi_X10_qTakes 19 [some (.ref 65), some (.int x1), some (.long x2), none, some (.int x4), some (.int y0)] [.int x1] (hp s) 0 0 _
  refine Ev.if_ne (off := 19) (tgt := 38) (by decide +kernel) (by decide) (fun b3 => ?_) (fun b3 => ?_)
  · have hf := (if_neg b3).symm.trans hf
    exact (e_X10_qTakes_j38 hd) x1 x2 x4 y0 s _ hf
  · have hf := (if_pos b3).symm.trans hf
    refine Ev.blk (pc' := 24) [(.iload 5, 0, 0, 0)] (by decide +kernel) trivial rfl (?_)
    show Ev l d mi_X10_qTakes 24 [some (.ref 65), some (.int x1), some (.long x2), none, some (.int x4), some (.int y0)] [.int y0] (hp s) 0 0 _
    refine Ev.if_eq (off := 14) (tgt := 38) (by decide +kernel) (by decide) (fun b4 => ?_) (fun b4 => ?_)
    · have hf := (if_pos b4).symm.trans hf
      exact (e_X10_qTakes_j38 hd) x1 x2 x4 y0 s _ hf
    · have hf := (if_neg b4).symm.trans hf
      refine Ev.blk (pc' := 35) [(.aload_n 0, 0, 0, 0), (.getfield 749, 0, 10, 118), (.ldc2_w 752, (-1), 0, 0), (.lcmp, 0, 0, 0)] (by decide +kernel) ⟨kf_10_749, ⟨kl_10_752, trivial⟩⟩ rfl (And.intro (kc rfl rfl) (?_))
      show Ev l d mi_X10_qTakes 35 [some (.ref 65), some (.int x1), some (.long x2), none, some (.int x4), some (.int y0)] [.int (lg_cmp (s.2.1 65 118) (Int64.ofInt (-1)))] (hp s) 0 0 _
      refine Ev.if_eq (off := 13) (tgt := 48) (by decide +kernel) (by decide) (fun b5 => ?_) (fun b5 => ?_)
      · have hf := (if_pos b5).symm.trans hf
        exact (e_X10_qTakes_j48 hd) x1 x2 x4 y0 s _ hf
      · have hf := (if_neg b5).symm.trans hf
        exact (e_X10_qTakes_j38 hd) x1 x2 x4 y0 s _ hf
def f_X10_qTakes_j15 (x1 : Int32) (x2 : Int64) (x4 : Int32) (s : ST) : Option (ST) := f_X10_qTakes_j16 x1 x2 x4 (Int32.ofInt 0) s
set_option maxHeartbeats 2000000 in
set_option maxRecDepth 20000 in
theorem e_X10_qTakes_j15 {l : Launch} {d : Nat} (hd : 1 ≤ d) (x1 : Int32) (x2 : Int64) (x4 : Int32) (s : ST) (r : ST) (hf : f_X10_qTakes_j15 x1 x2 x4 s = some r) : Ev l d mi_X10_qTakes 15 [some (.ref 65), some (.int x1), some (.long x2), none, some (.int x4), none] [] (hp s) 0 0 (none, hp r) := by
  unfold f_X10_qTakes_j15 at hf
  refine Ev.blk (pc' := 16) [(.iconst 0, 0, 0, 0)] (by decide +kernel) trivial rfl (?_)
  show Ev l d mi_X10_qTakes 16 [some (.ref 65), some (.int x1), some (.long x2), none, some (.int x4), none] [.int (Int32.ofInt 0)] (hp s) 0 0 _
  exact (e_X10_qTakes_j16 hd) x1 x2 x4 (Int32.ofInt 0) s _ hf
def f_X10_qTakes (p0 : Int32) (p1 : Int64) (p2 : Int32) (s : ST) : Option (ST) := (if (Int32.ofInt 3) ≤ p0 then f_X10_qTakes_j15 p0 p1 p2 s else (if (lg_cmp p1 (Int64.ofNat ((1 : Fin 2) : Nat))) = 0 then f_X10_qTakes_j16 p0 p1 p2 (Int32.ofInt 1) s else f_X10_qTakes_j15 p0 p1 p2 s))
set_option maxHeartbeats 2000000 in
set_option maxRecDepth 20000 in
theorem e_X10_qTakes {l : Launch} {d : Nat} (hd : 1 ≤ d) (p0 : Int32) (p1 : Int64) (p2 : Int32) (s : ST) (r : ST) (hf : f_X10_qTakes p0 p1 p2 s = some r) : Cl l d mi_X10_qTakes [.ref 65, .int p0, .long p1, .int p2] (hp s) (none, hp r) := by
  refine Ev.entry (by decide +kernel) rfl rfl ?_
  show Ev l d mi_X10_qTakes 0 [some (.ref 65), some (.int p0), some (.long p1), none, some (.int p2), none] [] (hp s) 0 0 _
  unfold f_X10_qTakes at hf
  refine Ev.blk (pc' := 2) [(.iload_n 1, 0, 0, 0), (.iconst 3, 0, 0, 0)] (by decide +kernel) trivial rfl (?_)
  show Ev l d mi_X10_qTakes 2 [some (.ref 65), some (.int p0), some (.long p1), none, some (.int p2), none] [.int (Int32.ofInt 3), .int p0] (hp s) 0 0 _
  refine Ev.icmp_ge (off := 13) (tgt := 15) (by decide +kernel) (by decide) (fun b1 => ?_) (fun b1 => ?_)
  · have hf := (if_pos b1).symm.trans hf
    exact (e_X10_qTakes_j15 hd) p0 p1 p2 s _ hf
  · have hf := (if_neg b1).symm.trans hf
    refine Ev.blk (pc' := 8) [(.lload_n 2, 0, 0, 0), (.lconst 1, 0, 0, 0), (.lcmp, 0, 0, 0)] (by decide +kernel) trivial rfl (?_)
    show Ev l d mi_X10_qTakes 8 [some (.ref 65), some (.int p0), some (.long p1), none, some (.int p2), none] [.int (lg_cmp p1 (Int64.ofNat ((1 : Fin 2) : Nat)))] (hp s) 0 0 _
    refine Ev.if_ne (off := 7) (tgt := 15) (by decide +kernel) (by decide) (fun b2 => ?_) (fun b2 => ?_)
    · have hf := (if_neg b2).symm.trans hf
      exact (e_X10_qTakes_j15 hd) p0 p1 p2 s _ hf
    · have hf := (if_pos b2).symm.trans hf
      refine Ev.blk (pc' := 12) [(.iconst 1, 0, 0, 0)] (by decide +kernel) trivial rfl (?_)
      show Ev l d mi_X10_qTakes 12 [some (.ref 65), some (.int p0), some (.long p1), none, some (.int p2), none] [.int (Int32.ofInt 1)] (hp s) 0 0 _
      refine Ev.goto (off := 4) (tgt := 16) (by decide +kernel) (by decide) ?_
      exact (e_X10_qTakes_j16 hd) p0 p1 p2 (Int32.ofInt 1) s _ hf
def f_X10_ask_j213 (k183 : Int32 → Int32 → ST → Option (Int64 × ST)) (x1 : Int32) (x2 : Int32) (y1 : Int32) (y2 : Int32) (s : ST) : Option (Int64 × ST) := gd (ib y1 8) (lt (uI s 118 y1.toNatClampNeg y2) (fun s25 => k183 x1 (x2 + Int32.ofInt 1) s25))
set_option maxHeartbeats 2000000 in
set_option maxRecDepth 20000 in
theorem e_X10_ask_j213 {l : Launch} {d : Nat} (hd : 10 ≤ d) (k183 : Int32 → Int32 → ST → Option (Int64 × ST)) (hk183 : ∀ (x1 : Int32) (x2 : Int32) (s : ST) (r : Int64 × ST), k183 x1 x2 s = some r → Ev l d mi_X10_ask 183 [some (.ref 65), some (.int x1), some (.int x2)] [] (hp s) 0 0 (some (.long r.1), hp r.2)) (x1 : Int32) (x2 : Int32) (y1 : Int32) (y2 : Int32) (s : ST) (r : Int64 × ST) (hf : f_X10_ask_j213 k183 x1 x2 y1 y2 s = some r) : Ev l d mi_X10_ask 213 [some (.ref 65), some (.int x1), some (.int x2)] [.int y2, .int y1, .ref 118] (hp s) 0 0 (some (.long r.1), hp r.2) := by
  unfold f_X10_ask_j213 at hf
  obtain ⟨c24, hf⟩ := gd_some hf
  obtain ⟨s25, hs25, hf⟩ := lt_some hf
  refine Ev.blk (pc' := 217) [(.iastore, 0, 0, 0), (.iinc 2 1, 0, 0, 0)] (by decide +kernel) trivial rfl (And.intro (kc rfl rfl) (And.intro (ib_ok c24) (And.intro (Nat.le_of_ble_eq_true rfl) (?_))))
  show Ev l d mi_X10_ask 217 [some (.ref 65), some (.int x1), some (.int (x2 + Int32.ofInt 1))] [] (hp (uI s 118 y1.toNatClampNeg y2)) 0 0 _
  rw [← hs25]
  refine Ev.goto (off := -34) (tgt := 183) (by decide +kernel) (by decide) ?_
  exact hk183 x1 (x2 + Int32.ofInt 1) s25 _ hf
def f_X10_ask_L183 (k220 : Int32 → ST → Option (Int64 × ST)) : Nat → Int32 → Int32 → ST → Option (Int64 × ST)
  | 0, _, _, _ => none
  | n + 1, x1, x2, s => (f_X10_manMany s).bind (fun q19 => (if q19.1 ≤ x2 then k220 x1 q19.2 else (f_X10_isTaken x2 q19.2).bind (fun q21 => (if q21.1 = 0 then (f_X10_movesOf x2 q21.2).bind (fun q23 => (f_X10_ask_j213 (f_X10_ask_L183 k220 n)) x1 x2 x2 q23.1 q23.2) else (f_X10_ask_j213 (f_X10_ask_L183 k220 n)) x1 x2 x2 (Int32.ofInt 0) q21.2))))
set_option maxHeartbeats 2000000 in
set_option maxRecDepth 20000 in
theorem e_X10_ask_L183 {l : Launch} {d : Nat} (hd : 10 ≤ d) (k220 : Int32 → ST → Option (Int64 × ST)) (hk220 : ∀ (x1 : Int32) (s : ST) (r : Int64 × ST), k220 x1 s = some r → Ev l d mi_X10_ask 220 [some (.ref 65), some (.int x1), none] [] (hp s) 0 0 (some (.long r.1), hp r.2)) : ∀ (n : Nat) (x1 : Int32) (x2 : Int32) (s : ST) (r : Int64 × ST), f_X10_ask_L183 k220 n x1 x2 s = some r → Ev l d mi_X10_ask 183 [some (.ref 65), some (.int x1), some (.int x2)] [] (hp s) 0 0 (some (.long r.1), hp r.2) := by
  intro n
  induction n with
  | zero =>
    intro x1 x2 s r hf
    cases hf
  | succ n ih =>
    intro x1 x2 s r hf
    unfold f_X10_ask_L183 at hf
    refine Ev.blk (pc' := 185) [(.iload_n 2, 0, 0, 0), (.aload_n 0, 0, 0, 0)] (by decide +kernel) trivial rfl (?_)
    show Ev l d mi_X10_ask 185 [some (.ref 65), some (.int x1), some (.int x2)] [.ref 65, .int x2] (hp s) 0 0 _
    obtain ⟨q19, hq19, hf⟩ := bd_some hf
    refine Ev.callV (o := 65) (M' := mi_X10_manMany) (d' := d - 1) (As := []) (rest := [.int x2]) (r' := (some (.int q19.1), hp q19.2)) (e_X10_manMany (d := d - 1) (by omega) s _ hq19) (by omega) wm_X10_manMany wi_X10_manMany wv_X10_manMany km_10_433 (kc rfl rfl) (Nat.le_of_ble_eq_true rfl) rfl rfl rfl (Nat.le_of_ble_eq_true rfl) ⟨Nat.le_of_ble_eq_true rfl, Nat.le_of_ble_eq_true rfl⟩ (by decide +kernel) ?_
    show Ev l d mi_X10_ask 188 [some (.ref 65), some (.int x1), some (.int x2)] [.int q19.1, .int x2] (hp q19.2) 0 0 _
    refine Ev.icmp_ge (off := 32) (tgt := 220) (by decide +kernel) (by decide) (fun b20 => ?_) (fun b20 => ?_)
    · have hf := (if_pos b20).symm.trans hf
      exact Ev.wk (hk220 x1 q19.2 _ hf) (And.intro (Or.inr rfl) (And.intro (Or.inr rfl) (And.intro (Or.inl rfl) (trivial))))
    · have hf := (if_neg b20).symm.trans hf
      refine Ev.blk (pc' := 198) [(.aload_n 0, 0, 0, 0), (.getfield 172, 0, 10, 74), (.iload_n 2, 0, 0, 0), (.aload_n 0, 0, 0, 0), (.iload_n 2, 0, 0, 0)] (by decide +kernel) ⟨kf_10_172, trivial⟩ rfl (And.intro (kc rfl rfl) (Exists.intro 118 (And.intro rfl (?_))))
      show Ev l d mi_X10_ask 198 [some (.ref 65), some (.int x1), some (.int x2)] [.int x2, .ref 65, .int x2, .ref 118] (hp q19.2) 0 0 _
      obtain ⟨q21, hq21, hf⟩ := bd_some hf
      refine Ev.callV (o := 65) (M' := mi_X10_isTaken) (d' := d - 1) (As := [.int x2]) (rest := [.int x2, .ref 118]) (r' := (some (.int q21.1), hp q21.2)) (e_X10_isTaken (d := d - 1) (by omega) x2 q19.2 _ hq21) (by omega) wm_X10_isTaken wi_X10_isTaken wv_X10_isTaken km_10_458 (kc rfl rfl) (Nat.le_of_ble_eq_true rfl) rfl rfl rfl (Nat.le_of_ble_eq_true rfl) ⟨Nat.le_of_ble_eq_true rfl, Nat.le_of_ble_eq_true rfl⟩ (by decide +kernel) ?_
      show Ev l d mi_X10_ask 201 [some (.ref 65), some (.int x1), some (.int x2)] [.int q21.1, .int x2, .ref 118] (hp q21.2) 0 0 _
      refine Ev.if_eq (off := 7) (tgt := 208) (by decide +kernel) (by decide) (fun b22 => ?_) (fun b22 => ?_)
      · have hf := (if_pos b22).symm.trans hf
        refine Ev.blk (pc' := 210) [(.aload_n 0, 0, 0, 0), (.iload_n 2, 0, 0, 0)] (by decide +kernel) trivial rfl (?_)
        show Ev l d mi_X10_ask 210 [some (.ref 65), some (.int x1), some (.int x2)] [.int x2, .ref 65, .int x2, .ref 118] (hp q21.2) 0 0 _
        obtain ⟨q23, hq23, hf⟩ := bd_some hf
        refine Ev.callV (o := 65) (M' := mi_X10_movesOf) (d' := d - 1) (As := [.int x2]) (rest := [.int x2, .ref 118]) (r' := (some (.int q23.1), hp q23.2)) (e_X10_movesOf (d := d - 1) (by omega) x2 q21.2 _ hq23) (by omega) wm_X10_movesOf wi_X10_movesOf wv_X10_movesOf km_10_478 (kc rfl rfl) (Nat.le_of_ble_eq_true rfl) rfl rfl rfl (Nat.le_of_ble_eq_true rfl) ⟨Nat.le_of_ble_eq_true rfl, Nat.le_of_ble_eq_true rfl⟩ (by decide +kernel) ?_
        show Ev l d mi_X10_ask 213 [some (.ref 65), some (.int x1), some (.int x2)] [.int q23.1, .int x2, .ref 118] (hp q23.2) 0 0 _
        exact (e_X10_ask_j213 hd (f_X10_ask_L183 k220 n) ih) x1 x2 x2 q23.1 q23.2 _ hf
      · have hf := (if_neg b22).symm.trans hf
        refine Ev.blk (pc' := 205) [(.iconst 0, 0, 0, 0)] (by decide +kernel) trivial rfl (?_)
        show Ev l d mi_X10_ask 205 [some (.ref 65), some (.int x1), some (.int x2)] [.int (Int32.ofInt 0), .int x2, .ref 118] (hp q21.2) 0 0 _
        refine Ev.goto (off := 8) (tgt := 213) (by decide +kernel) (by decide) ?_
        exact (e_X10_ask_j213 hd (f_X10_ask_L183 k220 n) ih) x1 x2 x2 (Int32.ofInt 0) q21.2 _ hf
def f_X10_ask_L227 (k260 : ST → Option (Int64 × ST)) : Nat → Int32 → Int32 → ST → Option (Int64 × ST)
  | 0, _, _, _ => none
  | n + 1, x1, x2, s => (f_X10_manMany s).bind (fun q27 => (if q27.1 ≤ x2 then k260 q27.2 else (f_X10_isTaken x2 q27.2).bind (fun q29 => (if q29.1 = 0 then (f_X10_qTold x2 q29.2).bind (fun q31 => (f_X10_qTakes x1 q31.1 x2 q31.2).bind (fun q32 => (f_X10_ask_L227 k260 n) x1 (x2 + Int32.ofInt 1) q32)) else (f_X10_ask_L227 k260 n) x1 (x2 + Int32.ofInt 1) q29.2))))
set_option maxHeartbeats 2000000 in
set_option maxRecDepth 20000 in
theorem e_X10_ask_L227 {l : Launch} {d : Nat} (hd : 10 ≤ d) (k260 : ST → Option (Int64 × ST)) (hk260 : ∀ (s : ST) (r : Int64 × ST), k260 s = some r → Ev l d mi_X10_ask 260 [some (.ref 65), none, none] [] (hp s) 0 0 (some (.long r.1), hp r.2)) : ∀ (n : Nat) (x1 : Int32) (x2 : Int32) (s : ST) (r : Int64 × ST), f_X10_ask_L227 k260 n x1 x2 s = some r → Ev l d mi_X10_ask 227 [some (.ref 65), some (.int x1), some (.int x2)] [] (hp s) 0 0 (some (.long r.1), hp r.2) := by
  intro n
  induction n with
  | zero =>
    intro x1 x2 s r hf
    cases hf
  | succ n ih =>
    intro x1 x2 s r hf
    unfold f_X10_ask_L227 at hf
    refine Ev.blk (pc' := 229) [(.iload_n 2, 0, 0, 0), (.aload_n 0, 0, 0, 0)] (by decide +kernel) trivial rfl (?_)
    show Ev l d mi_X10_ask 229 [some (.ref 65), some (.int x1), some (.int x2)] [.ref 65, .int x2] (hp s) 0 0 _
    obtain ⟨q27, hq27, hf⟩ := bd_some hf
    refine Ev.callV (o := 65) (M' := mi_X10_manMany) (d' := d - 1) (As := []) (rest := [.int x2]) (r' := (some (.int q27.1), hp q27.2)) (e_X10_manMany (d := d - 1) (by omega) s _ hq27) (by omega) wm_X10_manMany wi_X10_manMany wv_X10_manMany km_10_433 (kc rfl rfl) (Nat.le_of_ble_eq_true rfl) rfl rfl rfl (Nat.le_of_ble_eq_true rfl) ⟨Nat.le_of_ble_eq_true rfl, Nat.le_of_ble_eq_true rfl⟩ (by decide +kernel) ?_
    show Ev l d mi_X10_ask 232 [some (.ref 65), some (.int x1), some (.int x2)] [.int q27.1, .int x2] (hp q27.2) 0 0 _
    refine Ev.icmp_ge (off := 28) (tgt := 260) (by decide +kernel) (by decide) (fun b28 => ?_) (fun b28 => ?_)
    · have hf := (if_pos b28).symm.trans hf
      exact Ev.wk (hk260 q27.2 _ hf) (And.intro (Or.inr rfl) (And.intro (Or.inl rfl) (And.intro (Or.inl rfl) (trivial))))
    · have hf := (if_neg b28).symm.trans hf
      refine Ev.blk (pc' := 237) [(.aload_n 0, 0, 0, 0), (.iload_n 2, 0, 0, 0)] (by decide +kernel) trivial rfl (?_)
      show Ev l d mi_X10_ask 237 [some (.ref 65), some (.int x1), some (.int x2)] [.int x2, .ref 65] (hp q27.2) 0 0 _
      obtain ⟨q29, hq29, hf⟩ := bd_some hf
      refine Ev.callV (o := 65) (M' := mi_X10_isTaken) (d' := d - 1) (As := [.int x2]) (rest := []) (r' := (some (.int q29.1), hp q29.2)) (e_X10_isTaken (d := d - 1) (by omega) x2 q27.2 _ hq29) (by omega) wm_X10_isTaken wi_X10_isTaken wv_X10_isTaken km_10_458 (kc rfl rfl) (Nat.le_of_ble_eq_true rfl) rfl rfl rfl (Nat.le_of_ble_eq_true rfl) ⟨Nat.le_of_ble_eq_true rfl, Nat.le_of_ble_eq_true rfl⟩ (by decide +kernel) ?_
      show Ev l d mi_X10_ask 240 [some (.ref 65), some (.int x1), some (.int x2)] [.int q29.1] (hp q29.2) 0 0 _
      refine Ev.if_ne (off := 14) (tgt := 254) (by decide +kernel) (by decide) (fun b30 => ?_) (fun b30 => ?_)
      · have hf := (if_neg b30).symm.trans hf
        refine Ev.blk (pc' := 257) [(.iinc 2 1, 0, 0, 0)] (by decide +kernel) trivial rfl (And.intro (Nat.le_of_ble_eq_true rfl) (?_))
        show Ev l d mi_X10_ask 257 [some (.ref 65), some (.int x1), some (.int (x2 + Int32.ofInt 1))] [] (hp q29.2) 0 0 _
        refine Ev.goto (off := -30) (tgt := 227) (by decide +kernel) (by decide) ?_
        exact ih x1 (x2 + Int32.ofInt 1) q29.2 _ hf
      · have hf := (if_pos b30).symm.trans hf
        refine Ev.blk (pc' := 247) [(.aload_n 0, 0, 0, 0), (.iload_n 1, 0, 0, 0), (.aload_n 0, 0, 0, 0), (.iload_n 2, 0, 0, 0)] (by decide +kernel) trivial rfl (?_)
        show Ev l d mi_X10_ask 247 [some (.ref 65), some (.int x1), some (.int x2)] [.int x2, .ref 65, .int x1, .ref 65] (hp q29.2) 0 0 _
        obtain ⟨q31, hq31, hf⟩ := bd_some hf
        refine Ev.callV (o := 65) (M' := mi_X10_qTold) (d' := d - 1) (As := [.int x2]) (rest := [.int x1, .ref 65]) (r' := (some (.long q31.1), hp q31.2)) (e_X10_qTold (d := d - 1) (by omega) x2 q29.2 _ hq31) (by omega) wm_X10_qTold wi_X10_qTold wv_X10_qTold km_10_763 (kc rfl rfl) (Nat.le_of_ble_eq_true rfl) rfl rfl rfl (Nat.le_of_ble_eq_true rfl) ⟨Nat.le_of_ble_eq_true rfl, Nat.le_of_ble_eq_true rfl⟩ (by decide +kernel) ?_
        show Ev l d mi_X10_ask 250 [some (.ref 65), some (.int x1), some (.int x2)] [.long q31.1, .int x1, .ref 65] (hp q31.2) 0 0 _
        refine Ev.blk (pc' := 251) [(.iload_n 2, 0, 0, 0)] (by decide +kernel) trivial rfl (?_)
        show Ev l d mi_X10_ask 251 [some (.ref 65), some (.int x1), some (.int x2)] [.int x2, .long q31.1, .int x1, .ref 65] (hp q31.2) 0 0 _
        obtain ⟨q32, hq32, hf⟩ := bd_some hf
        refine Ev.callV (o := 65) (M' := mi_X10_qTakes) (d' := d - 1) (As := [.int x1, .long q31.1, .int x2]) (rest := []) (r' := (none, hp q32)) (e_X10_qTakes (d := d - 1) (by omega) x1 q31.1 x2 q31.2 _ hq32) (by omega) wm_X10_qTakes wi_X10_qTakes wv_X10_qTakes km_10_767 (kc rfl rfl) (Nat.le_of_ble_eq_true rfl) rfl rfl rfl (Nat.le_of_ble_eq_true rfl) ⟨Nat.le_of_ble_eq_true rfl, Nat.le_of_ble_eq_true rfl⟩ (by decide +kernel) ?_
        show Ev l d mi_X10_ask 254 [some (.ref 65), some (.int x1), some (.int x2)] [] (hp q32) 0 0 _
        refine Ev.blk (pc' := 257) [(.iinc 2 1, 0, 0, 0)] (by decide +kernel) trivial rfl (And.intro (Nat.le_of_ble_eq_true rfl) (?_))
        show Ev l d mi_X10_ask 257 [some (.ref 65), some (.int x1), some (.int (x2 + Int32.ofInt 1))] [] (hp q32) 0 0 _
        refine Ev.goto (off := -30) (tgt := 227) (by decide +kernel) (by decide) ?_
        exact ih x1 (x2 + Int32.ofInt 1) q32 _ hf
def f_X10_ask_j260 (s : ST) : Option (Int64 × ST) := some ((s.2.1 65 118), s)
set_option maxHeartbeats 2000000 in
set_option maxRecDepth 20000 in
theorem e_X10_ask_j260 {l : Launch} {d : Nat} (hd : 10 ≤ d) (s : ST) (r : Int64 × ST) (hf : f_X10_ask_j260 s = some r) : Ev l d mi_X10_ask 260 [some (.ref 65), none, none] [] (hp s) 0 0 (some (.long r.1), hp r.2) := by
  unfold f_X10_ask_j260 at hf
  refine Ev.blk (pc' := 264) [(.aload_n 0, 0, 0, 0), (.getfield 749, 0, 10, 118)] (by decide +kernel) ⟨kf_10_749, trivial⟩ rfl (And.intro (kc rfl rfl) (?_))
  show Ev l d mi_X10_ask 264 [some (.ref 65), none, none] [.long (s.2.1 65 118)] (hp s) 0 0 _
  cases hf
  exact Ev.lret rfl (by decide +kernel) (Nat.le_refl _) (Nat.le_refl _)
def f_X10_ask_j220 (x1 : Int32) (s : ST) : Option (Int64 × ST) := lt (uI s 65 59 (Int32.ofInt 0)) (fun s26 => (f_X10_ask_L227 f_X10_ask_j260 fuel) x1 (Int32.ofInt 0) s26)
set_option maxHeartbeats 2000000 in
set_option maxRecDepth 20000 in
theorem e_X10_ask_j220 {l : Launch} {d : Nat} (hd : 10 ≤ d) (x1 : Int32) (s : ST) (r : Int64 × ST) (hf : f_X10_ask_j220 x1 s = some r) : Ev l d mi_X10_ask 220 [some (.ref 65), some (.int x1), none] [] (hp s) 0 0 (some (.long r.1), hp r.2) := by
  unfold f_X10_ask_j220 at hf
  obtain ⟨s26, hs26, hf⟩ := lt_some hf
  refine Ev.blk (pc' := 227) [(.aload_n 0, 0, 0, 0), (.iconst 0, 0, 0, 0), (.putfield 336, 0, 10, 59), (.iconst 0, 0, 0, 0), (.istore_n 2, 0, 0, 0)] (by decide +kernel) ⟨⟨kf_10_336, Or.inl rfl⟩, trivial⟩ rfl (And.intro (kc rfl rfl) (And.intro (Or.inl rfl) (And.intro (Nat.le_of_ble_eq_true rfl) (?_))))
  show Ev l d mi_X10_ask 227 [some (.ref 65), some (.int x1), some (.int (Int32.ofInt 0))] [] (hp (uI s 65 59 (Int32.ofInt 0))) 0 0 _
  rw [← hs26]
  exact (e_X10_ask_L227 hd f_X10_ask_j260 (e_X10_ask_j260 hd) fuel) x1 (Int32.ofInt 0) s26 _ hf
def f_X10_ask_j173 (x1 : Int32) (y1 : Int64) (s : ST) : Option (Int64 × ST) := lt (uI (uJ s 65 118 y1) 65 119 (Int32.ofInt 1)) (fun s18 => (f_X10_ask_L183 f_X10_ask_j220 fuel) x1 (Int32.ofInt 0) s18)
set_option maxHeartbeats 2000000 in
set_option maxRecDepth 20000 in
theorem e_X10_ask_j173 {l : Launch} {d : Nat} (hd : 10 ≤ d) (x1 : Int32) (y1 : Int64) (s : ST) (r : Int64 × ST) (hf : f_X10_ask_j173 x1 y1 s = some r) : Ev l d mi_X10_ask 173 [some (.ref 65), some (.int x1), none] [.long y1, .ref 65] (hp s) 0 0 (some (.long r.1), hp r.2) := by
  unfold f_X10_ask_j173 at hf
  obtain ⟨s18, hs18, hf⟩ := lt_some hf
  refine Ev.blk (pc' := 183) [(.putfield 749, 0, 10, 118), (.aload_n 0, 0, 0, 0), (.iconst 1, 0, 0, 0), (.putfield 754, 0, 10, 119), (.iconst 0, 0, 0, 0), (.istore_n 2, 0, 0, 0)] (by decide +kernel) ⟨⟨kf_10_749, Or.inl rfl⟩, ⟨⟨kf_10_754, Or.inl rfl⟩, trivial⟩⟩ rfl (And.intro (kc rfl rfl) (And.intro (kc rfl rfl) (And.intro (Or.inr rfl) (And.intro (Nat.le_of_ble_eq_true rfl) (?_)))))
  show Ev l d mi_X10_ask 183 [some (.ref 65), some (.int x1), some (.int (Int32.ofInt 0))] [] (hp (uI (uJ s 65 118 y1) 65 119 (Int32.ofInt 1))) 0 0 _
  rw [← hs18]
  exact (e_X10_ask_L183 hd f_X10_ask_j220 (e_X10_ask_j220 hd) fuel) x1 (Int32.ofInt 0) s18 _ hf
def f_X10_ask_j133 (x1 : Int32) (s : ST) : Option (Int64 × ST) := lt (uI (uI s 65 7 (s.1 65 5)) 65 8 ((uI s 65 7 (s.1 65 5)).1 65 6)) (fun s15 => (if (s15.1 65 5) = 0 then (if (Int32.ofInt 2) ≤ x1 then f_X10_ask_j173 x1 (Int64.ofNat ((0 : Fin 2) : Nat)) s15 else f_X10_ask_j173 x1 (Int64.ofInt (-1)) s15) else some ((Int64.ofInt (-1000000000000000)), s15)))
set_option maxHeartbeats 2000000 in
set_option maxRecDepth 20000 in
theorem e_X10_ask_j133 {l : Launch} {d : Nat} (hd : 10 ≤ d) (x1 : Int32) (s : ST) (r : Int64 × ST) (hf : f_X10_ask_j133 x1 s = some r) : Ev l d mi_X10_ask 133 [some (.ref 65), some (.int x1), none] [] (hp s) 0 0 (some (.long r.1), hp r.2) := by
  unfold f_X10_ask_j133 at hf
  obtain ⟨s15, hs15, hf⟩ := lt_some hf
  refine Ev.blk (pc' := 153) [(.aload_n 0, 0, 0, 0), (.aload_n 0, 0, 0, 0), (.getfield 278, 0, 10, 5), (.putfield 418, 0, 10, 7), (.aload_n 0, 0, 0, 0), (.aload_n 0, 0, 0, 0), (.getfield 281, 0, 10, 6), (.putfield 13, 0, 10, 8), (.aload_n 0, 0, 0, 0), (.getfield 278, 0, 10, 5)] (by decide +kernel) ⟨kf_10_278, ⟨⟨kf_10_418, Or.inl rfl⟩, ⟨kf_10_281, ⟨⟨kf_10_13, Or.inl rfl⟩, ⟨kf_10_278, trivial⟩⟩⟩⟩⟩ rfl (And.intro (kc rfl rfl) (And.intro (kc rfl rfl) (And.intro (kc rfl rfl) (And.intro (kc rfl rfl) (And.intro (kc rfl rfl) (?_))))))
  show Ev l d mi_X10_ask 153 [some (.ref 65), some (.int x1), none] [.int ((uI (uI s 65 7 (s.1 65 5)) 65 8 ((uI s 65 7 (s.1 65 5)).1 65 6)).1 65 5)] (hp (uI (uI s 65 7 (s.1 65 5)) 65 8 ((uI s 65 7 (s.1 65 5)).1 65 6))) 0 0 _
  rw [← hs15]
  refine Ev.if_eq (off := 7) (tgt := 160) (by decide +kernel) (by decide) (fun b16 => ?_) (fun b16 => ?_)
  · have hf := (if_pos b16).symm.trans hf
    refine Ev.blk (pc' := 163) [(.aload_n 0, 0, 0, 0), (.iload_n 1, 0, 0, 0), (.iconst 2, 0, 0, 0)] (by decide +kernel) trivial rfl (?_)
    show Ev l d mi_X10_ask 163 [some (.ref 65), some (.int x1), none] [.int (Int32.ofInt 2), .int x1, .ref 65] (hp s15) 0 0 _
    refine Ev.icmp_ge (off := 9) (tgt := 172) (by decide +kernel) (by decide) (fun b17 => ?_) (fun b17 => ?_)
    · have hf := (if_pos b17).symm.trans hf
      refine Ev.blk (pc' := 173) [(.lconst 0, 0, 0, 0)] (by decide +kernel) trivial rfl (?_)
      show Ev l d mi_X10_ask 173 [some (.ref 65), some (.int x1), none] [.long (Int64.ofNat ((0 : Fin 2) : Nat)), .ref 65] (hp s15) 0 0 _
      exact (e_X10_ask_j173 hd) x1 (Int64.ofNat ((0 : Fin 2) : Nat)) s15 _ hf
    · have hf := (if_neg b17).symm.trans hf
      refine Ev.blk (pc' := 169) [(.ldc2_w 752, (-1), 0, 0)] (by decide +kernel) ⟨kl_10_752, trivial⟩ rfl (?_)
      show Ev l d mi_X10_ask 169 [some (.ref 65), some (.int x1), none] [.long (Int64.ofInt (-1)), .ref 65] (hp s15) 0 0 _
      refine Ev.goto (off := 4) (tgt := 173) (by decide +kernel) (by decide) ?_
      exact (e_X10_ask_j173 hd) x1 (Int64.ofInt (-1)) s15 _ hf
  · have hf := (if_neg b16).symm.trans hf
    refine Ev.blk (pc' := 159) [(.ldc2_w 610, (-1000000000000000), 0, 0)] (by decide +kernel) ⟨kl_10_610, trivial⟩ rfl (?_)
    show Ev l d mi_X10_ask 159 [some (.ref 65), some (.int x1), none] [.long (Int64.ofInt (-1000000000000000))] (hp s15) 0 0 _
    cases hf
    exact Ev.lret rfl (by decide +kernel) (Nat.le_refl _) (Nat.le_refl _)
def f_X10_ask_j109 (x1 : Int32) (s : ST) : Option (Int64 × ST) := (if (s.1 65 5) = 0 then (f_X10_look s).bind (fun q12 => (if q12.1 = (Int32.ofInt (-1)) then f_X10_ask_j133 x1 q12.2 else (f_X10_fail (Int32.ofInt 1) (q12.2.1 65 2) q12.2).bind (fun q14 => f_X10_ask_j133 x1 q14))) else f_X10_ask_j133 x1 s)
set_option maxHeartbeats 2000000 in
set_option maxRecDepth 20000 in
theorem e_X10_ask_j109 {l : Launch} {d : Nat} (hd : 10 ≤ d) (x1 : Int32) (s : ST) (r : Int64 × ST) (hf : f_X10_ask_j109 x1 s = some r) : Ev l d mi_X10_ask 109 [some (.ref 65), some (.int x1), none] [] (hp s) 0 0 (some (.long r.1), hp r.2) := by
  unfold f_X10_ask_j109 at hf
  refine Ev.blk (pc' := 113) [(.aload_n 0, 0, 0, 0), (.getfield 278, 0, 10, 5)] (by decide +kernel) ⟨kf_10_278, trivial⟩ rfl (And.intro (kc rfl rfl) (?_))
  show Ev l d mi_X10_ask 113 [some (.ref 65), some (.int x1), none] [.int (s.1 65 5)] (hp s) 0 0 _
  refine Ev.if_ne (off := 20) (tgt := 133) (by decide +kernel) (by decide) (fun b11 => ?_) (fun b11 => ?_)
  · have hf := (if_neg b11).symm.trans hf
    exact (e_X10_ask_j133 hd) x1 s _ hf
  · have hf := (if_pos b11).symm.trans hf
    refine Ev.blk (pc' := 117) [(.aload_n 0, 0, 0, 0)] (by decide +kernel) trivial rfl (?_)
    show Ev l d mi_X10_ask 117 [some (.ref 65), some (.int x1), none] [.ref 65] (hp s) 0 0 _
    obtain ⟨q12, hq12, hf⟩ := bd_some hf
    refine Ev.callV (o := 65) (M' := mi_X10_look) (d' := d - 1) (As := []) (rest := []) (r' := (some (.int q12.1), hp q12.2)) (e_X10_look (d := d - 1) (by omega) s _ hq12) (by omega) wm_X10_look wi_X10_look wv_X10_look km_10_290 (kc rfl rfl) (Nat.le_of_ble_eq_true rfl) rfl rfl rfl (Nat.le_of_ble_eq_true rfl) ⟨Nat.le_of_ble_eq_true rfl, Nat.le_of_ble_eq_true rfl⟩ (by decide +kernel) ?_
    show Ev l d mi_X10_ask 120 [some (.ref 65), some (.int x1), none] [.int q12.1] (hp q12.2) 0 0 _
    refine Ev.blk (pc' := 121) [(.iconst (-1), 0, 0, 0)] (by decide +kernel) trivial rfl (?_)
    show Ev l d mi_X10_ask 121 [some (.ref 65), some (.int x1), none] [.int (Int32.ofInt (-1)), .int q12.1] (hp q12.2) 0 0 _
    refine Ev.icmp_eq (off := 12) (tgt := 133) (by decide +kernel) (by decide) (fun b13 => ?_) (fun b13 => ?_)
    · have hf := (if_pos b13).symm.trans hf
      exact (e_X10_ask_j133 hd) x1 q12.2 _ hf
    · have hf := (if_neg b13).symm.trans hf
      refine Ev.blk (pc' := 130) [(.aload_n 0, 0, 0, 0), (.iconst 1, 0, 0, 0), (.aload_n 0, 0, 0, 0), (.getfield 284, 0, 10, 2)] (by decide +kernel) ⟨kf_10_284, trivial⟩ rfl (And.intro (kc rfl rfl) (?_))
      show Ev l d mi_X10_ask 130 [some (.ref 65), some (.int x1), none] [.int (q12.2.1 65 2), .int (Int32.ofInt 1), .ref 65] (hp q12.2) 0 0 _
      obtain ⟨q14, hq14, hf⟩ := bd_some hf
      refine Ev.callV (o := 65) (M' := mi_X10_fail) (d' := d - 1) (As := [.int (Int32.ofInt 1), .int (q12.2.1 65 2)]) (rest := []) (r' := (none, hp q14)) (e_X10_fail (d := d - 1) (by omega) (Int32.ofInt 1) (q12.2.1 65 2) q12.2 _ hq14) (by omega) wm_X10_fail wi_X10_fail wv_X10_fail km_10_308 (kc rfl rfl) (Nat.le_of_ble_eq_true rfl) rfl rfl rfl (Nat.le_of_ble_eq_true rfl) ⟨Nat.le_of_ble_eq_true rfl, Nat.le_of_ble_eq_true rfl⟩ (by decide +kernel) ?_
      show Ev l d mi_X10_ask 133 [some (.ref 65), some (.int x1), none] [] (hp q14) 0 0 _
      exact (e_X10_ask_j133 hd) x1 q14 _ hf
def f_X10_ask_j98 (x1 : Int32) (s : ST) : Option (Int64 × ST) := (if (s.1 65 5) = 0 then (f_X10_qSums s).bind (fun q10 => f_X10_ask_j109 x1 q10) else f_X10_ask_j109 x1 s)
set_option maxHeartbeats 2000000 in
set_option maxRecDepth 20000 in
theorem e_X10_ask_j98 {l : Launch} {d : Nat} (hd : 10 ≤ d) (x1 : Int32) (s : ST) (r : Int64 × ST) (hf : f_X10_ask_j98 x1 s = some r) : Ev l d mi_X10_ask 98 [some (.ref 65), some (.int x1), none] [] (hp s) 0 0 (some (.long r.1), hp r.2) := by
  unfold f_X10_ask_j98 at hf
  refine Ev.blk (pc' := 102) [(.aload_n 0, 0, 0, 0), (.getfield 278, 0, 10, 5)] (by decide +kernel) ⟨kf_10_278, trivial⟩ rfl (And.intro (kc rfl rfl) (?_))
  show Ev l d mi_X10_ask 102 [some (.ref 65), some (.int x1), none] [.int (s.1 65 5)] (hp s) 0 0 _
  refine Ev.if_ne (off := 7) (tgt := 109) (by decide +kernel) (by decide) (fun b9 => ?_) (fun b9 => ?_)
  · have hf := (if_neg b9).symm.trans hf
    exact (e_X10_ask_j109 hd) x1 s _ hf
  · have hf := (if_pos b9).symm.trans hf
    refine Ev.blk (pc' := 106) [(.aload_n 0, 0, 0, 0)] (by decide +kernel) trivial rfl (?_)
    show Ev l d mi_X10_ask 106 [some (.ref 65), some (.int x1), none] [.ref 65] (hp s) 0 0 _
    obtain ⟨q10, hq10, hf⟩ := bd_some hf
    refine Ev.callV (o := 65) (M' := mi_X10_qSums) (d' := d - 1) (As := []) (rest := []) (r' := (none, hp q10)) (e_X10_qSums (d := d - 1) (by omega) s _ hq10) (by omega) wm_X10_qSums wi_X10_qSums wv_X10_qSums km_10_391 (kc rfl rfl) (Nat.le_of_ble_eq_true rfl) rfl rfl rfl (Nat.le_of_ble_eq_true rfl) ⟨Nat.le_of_ble_eq_true rfl, Nat.le_of_ble_eq_true rfl⟩ (by decide +kernel) ?_
    show Ev l d mi_X10_ask 109 [some (.ref 65), some (.int x1), none] [] (hp q10) 0 0 _
    exact (e_X10_ask_j109 hd) x1 q10 _ hf
def f_X10_ask (s : ST) : Option (Int64 × ST) := (if (s.1 65 58) = 0 then lt (uI s 65 1 (Int32.ofInt 0)) (fun s8 => some ((Int64.ofInt (-1000000000000000)), s8)) else lt (uI (uI (uI (uI (uI (uI (uI (uI (uI s 65 3 (s.1 65 1)) 65 1 (Int32.ofInt 0)) 65 2 (Int32.ofInt 0)) 65 4 (Int32.ofInt (-1))) 65 5 (Int32.ofInt 0)) 65 6 (Int32.ofInt (-1))) 65 59 (Int32.ofInt 0)) 65 111 (Int32.ofInt 0)) 65 113 (Int32.ofInt 0)) (fun s2 => lt (uI (uI s2 65 114 (Int32.ofInt 0)) 65 115 (Int32.ofInt 0)) (fun s3 => (f_X10_qKind s3).bind (fun q4 => (if (q4.2.1 65 5) = 0 then (if (Int32.ofInt 3) ≤ q4.1 then f_X10_ask_j98 q4.1 q4.2 else (f_X10_qTest q4.2).bind (fun q7 => f_X10_ask_j109 q4.1 q7)) else f_X10_ask_j98 q4.1 q4.2)))))
set_option maxHeartbeats 2000000 in
set_option maxRecDepth 20000 in
theorem e_X10_ask {l : Launch} {d : Nat} (hd : 10 ≤ d) (s : ST) (r : Int64 × ST) (hf : f_X10_ask s = some r) : Cl l d mi_X10_ask [.ref 65] (hp s) (some (.long r.1), hp r.2) := by
  refine Ev.entry (by decide +kernel) rfl rfl ?_
  show Ev l d mi_X10_ask 0 [some (.ref 65), none, none] [] (hp s) 0 0 _
  unfold f_X10_ask at hf
  refine Ev.blk (pc' := 4) [(.aload_n 0, 0, 0, 0), (.getfield 424, 0, 10, 58)] (by decide +kernel) ⟨kf_10_424, trivial⟩ rfl (And.intro (kc rfl rfl) (?_))
  show Ev l d mi_X10_ask 4 [some (.ref 65), none, none] [.int (s.1 65 58)] (hp s) 0 0 _
  refine Ev.if_ne (off := 12) (tgt := 16) (by decide +kernel) (by decide) (fun b1 => ?_) (fun b1 => ?_)
  · have hf := (if_neg b1).symm.trans hf
    obtain ⟨s2, hs2, hf⟩ := lt_some hf
    refine Ev.blk (pc' := 66) [(.aload_n 0, 0, 0, 0), (.aload_n 0, 0, 0, 0), (.getfield 275, 0, 10, 1), (.putfield 287, 0, 10, 3), (.aload_n 0, 0, 0, 0), (.iconst 0, 0, 0, 0), (.putfield 275, 0, 10, 1), (.aload_n 0, 0, 0, 0), (.iconst 0, 0, 0, 0), (.putfield 284, 0, 10, 2), (.aload_n 0, 0, 0, 0), (.iconst (-1), 0, 0, 0), (.putfield 298, 0, 10, 4), (.aload_n 0, 0, 0, 0), (.iconst 0, 0, 0, 0), (.putfield 278, 0, 10, 5), (.aload_n 0, 0, 0, 0), (.iconst (-1), 0, 0, 0), (.putfield 281, 0, 10, 6), (.aload_n 0, 0, 0, 0), (.iconst 0, 0, 0, 0), (.putfield 336, 0, 10, 59), (.aload_n 0, 0, 0, 0), (.iconst 0, 0, 0, 0), (.putfield 379, 0, 10, 111), (.aload_n 0, 0, 0, 0), (.iconst 0, 0, 0, 0), (.putfield 382, 0, 10, 113), (.aload_n 0, 0, 0, 0), (.iconst 0, 0, 0, 0)] (by decide +kernel) ⟨kf_10_275, ⟨⟨kf_10_287, Or.inl rfl⟩, ⟨⟨kf_10_275, Or.inl rfl⟩, ⟨⟨kf_10_284, Or.inl rfl⟩, ⟨⟨kf_10_298, Or.inl rfl⟩, ⟨⟨kf_10_278, Or.inl rfl⟩, ⟨⟨kf_10_281, Or.inl rfl⟩, ⟨⟨kf_10_336, Or.inl rfl⟩, ⟨⟨kf_10_379, Or.inl rfl⟩, ⟨⟨kf_10_382, Or.inl rfl⟩, trivial⟩⟩⟩⟩⟩⟩⟩⟩⟩⟩ rfl (And.intro (kc rfl rfl) (And.intro (kc rfl rfl) (And.intro (kc rfl rfl) (And.intro (kc rfl rfl) (And.intro (kc rfl rfl) (And.intro (kc rfl rfl) (And.intro (kc rfl rfl) (And.intro (kc rfl rfl) (And.intro (Or.inl rfl) (And.intro (kc rfl rfl) (And.intro (kc rfl rfl) (?_))))))))))))
    show Ev l d mi_X10_ask 66 [some (.ref 65), none, none] [.int (Int32.ofInt 0), .ref 65] (hp (uI (uI (uI (uI (uI (uI (uI (uI (uI s 65 3 (s.1 65 1)) 65 1 (Int32.ofInt 0)) 65 2 (Int32.ofInt 0)) 65 4 (Int32.ofInt (-1))) 65 5 (Int32.ofInt 0)) 65 6 (Int32.ofInt (-1))) 65 59 (Int32.ofInt 0)) 65 111 (Int32.ofInt 0)) 65 113 (Int32.ofInt 0))) 0 0 _
    rw [← hs2]
    obtain ⟨s3, hs3, hf⟩ := lt_some hf
    refine Ev.blk (pc' := 75) [(.putfield 385, 0, 10, 114), (.aload_n 0, 0, 0, 0), (.iconst 0, 0, 0, 0), (.putfield 388, 0, 10, 115), (.aload_n 0, 0, 0, 0)] (by decide +kernel) ⟨⟨kf_10_385, Or.inl rfl⟩, ⟨⟨kf_10_388, Or.inl rfl⟩, trivial⟩⟩ rfl (And.intro (kc rfl rfl) (And.intro (kc rfl rfl) (?_)))
    show Ev l d mi_X10_ask 75 [some (.ref 65), none, none] [.ref 65] (hp (uI (uI s2 65 114 (Int32.ofInt 0)) 65 115 (Int32.ofInt 0))) 0 0 _
    rw [← hs3]
    obtain ⟨q4, hq4, hf⟩ := bd_some hf
    refine Ev.callV (o := 65) (M' := mi_X10_qKind) (d' := d - 1) (As := []) (rest := []) (r' := (some (.int q4.1), hp q4.2)) (e_X10_qKind (d := d - 1) (by omega) s3 _ hq4) (by omega) wm_X10_qKind wi_X10_qKind wv_X10_qKind km_10_757 (kc rfl rfl) (Nat.le_of_ble_eq_true rfl) rfl rfl rfl (Nat.le_of_ble_eq_true rfl) ⟨Nat.le_of_ble_eq_true rfl, Nat.le_of_ble_eq_true rfl⟩ (by decide +kernel) ?_
    show Ev l d mi_X10_ask 78 [some (.ref 65), none, none] [.int q4.1] (hp q4.2) 0 0 _
    refine Ev.blk (pc' := 83) [(.istore_n 1, 0, 0, 0), (.aload_n 0, 0, 0, 0), (.getfield 278, 0, 10, 5)] (by decide +kernel) ⟨kf_10_278, trivial⟩ rfl (And.intro (Nat.le_of_ble_eq_true rfl) (And.intro (kc rfl rfl) (?_)))
    show Ev l d mi_X10_ask 83 [some (.ref 65), some (.int q4.1), none] [.int (q4.2.1 65 5)] (hp q4.2) 0 0 _
    refine Ev.if_ne (off := 15) (tgt := 98) (by decide +kernel) (by decide) (fun b5 => ?_) (fun b5 => ?_)
    · have hf := (if_neg b5).symm.trans hf
      exact (e_X10_ask_j98 hd) q4.1 q4.2 _ hf
    · have hf := (if_pos b5).symm.trans hf
      refine Ev.blk (pc' := 88) [(.iload_n 1, 0, 0, 0), (.iconst 3, 0, 0, 0)] (by decide +kernel) trivial rfl (?_)
      show Ev l d mi_X10_ask 88 [some (.ref 65), some (.int q4.1), none] [.int (Int32.ofInt 3), .int q4.1] (hp q4.2) 0 0 _
      refine Ev.icmp_ge (off := 10) (tgt := 98) (by decide +kernel) (by decide) (fun b6 => ?_) (fun b6 => ?_)
      · have hf := (if_pos b6).symm.trans hf
        exact (e_X10_ask_j98 hd) q4.1 q4.2 _ hf
      · have hf := (if_neg b6).symm.trans hf
        refine Ev.blk (pc' := 92) [(.aload_n 0, 0, 0, 0)] (by decide +kernel) trivial rfl (?_)
        show Ev l d mi_X10_ask 92 [some (.ref 65), some (.int q4.1), none] [.ref 65] (hp q4.2) 0 0 _
        obtain ⟨q7, hq7, hf⟩ := bd_some hf
        refine Ev.callV (o := 65) (M' := mi_X10_qTest) (d' := d - 1) (As := []) (rest := []) (r' := (none, hp q7)) (e_X10_qTest (d := d - 1) (by omega) q4.2 _ hq7) (by omega) wm_X10_qTest wi_X10_qTest wv_X10_qTest km_10_760 (kc rfl rfl) (Nat.le_of_ble_eq_true rfl) rfl rfl rfl (Nat.le_of_ble_eq_true rfl) ⟨Nat.le_of_ble_eq_true rfl, Nat.le_of_ble_eq_true rfl⟩ (by decide +kernel) ?_
        show Ev l d mi_X10_ask 95 [some (.ref 65), some (.int q4.1), none] [] (hp q7) 0 0 _
        refine Ev.goto (off := 14) (tgt := 109) (by decide +kernel) (by decide) ?_
        exact (e_X10_ask_j109 hd) q4.1 q7 _ hf
  · have hf := (if_pos b1).symm.trans hf
    obtain ⟨s8, hs8, hf⟩ := lt_some hf
    refine Ev.blk (pc' := 15) [(.aload_n 0, 0, 0, 0), (.iconst 0, 0, 0, 0), (.putfield 275, 0, 10, 1), (.ldc2_w 610, (-1000000000000000), 0, 0)] (by decide +kernel) ⟨⟨kf_10_275, Or.inl rfl⟩, ⟨kl_10_610, trivial⟩⟩ rfl (And.intro (kc rfl rfl) (?_))
    show Ev l d mi_X10_ask 15 [some (.ref 65), none, none] [.long (Int64.ofInt (-1000000000000000))] (hp (uI s 65 1 (Int32.ofInt 0))) 0 0 _
    rw [← hs8]
    cases hf
    exact Ev.lret rfl (by decide +kernel) (Nat.le_refl _) (Nat.le_refl _)
def f_X10_checked_L5 : Nat → Nat → Int32 → Int32 → Int32 → ST → Option (Int32 × ST)
  | 0, _, _, _, _, _ => none
  | n + 1, x0, x1, x2, x3, s => (if x1 ≤ x3 then some (x2, s) else gd (kk x0 13) (gd (ib x3 (K0 x0).2) (lt ((((Int32.ofInt 3) * x2) + (s.1 x0 x3.toNatClampNeg)) - (((Int32.ofInt 3) * x2) + (s.1 x0 x3.toNatClampNeg)) / ((Int16.ofInt 251).toInt32) * ((Int16.ofInt 251).toInt32)) (fun v4 => (f_X10_checked_L5 n) x0 x1 v4 (x3 + Int32.ofInt 1) s))))
set_option maxHeartbeats 2000000 in
set_option maxRecDepth 20000 in
theorem e_X10_checked_L5 {l : Launch} {d : Nat} (hd : 1 ≤ d) : ∀ (n : Nat) (x0 : Nat) (x1 : Int32) (x2 : Int32) (x3 : Int32) (s : ST) (r : Int32 × ST), f_X10_checked_L5 n x0 x1 x2 x3 s = some r → Ev l d mi_X10_checked 5 [some (.ref x0), some (.int x1), some (.int x2), some (.int x3)] [] (hp s) 0 0 (some (.int r.1), hp r.2) := by
  intro n
  induction n with
  | zero =>
    intro x0 x1 x2 x3 s r hf
    cases hf
  | succ n ih =>
    intro x0 x1 x2 x3 s r hf
    unfold f_X10_checked_L5 at hf
    refine Ev.blk (pc' := 7) [(.iload_n 3, 0, 0, 0), (.iload_n 1, 0, 0, 0)] (by decide +kernel) trivial rfl (?_)
    show Ev l d mi_X10_checked 7 [some (.ref x0), some (.int x1), some (.int x2), some (.int x3)] [.int x1, .int x3] (hp s) 0 0 _
    refine Ev.icmp_ge (off := 21) (tgt := 28) (by decide +kernel) (by decide) (fun b1 => ?_) (fun b1 => ?_)
    · have hf := (if_pos b1).symm.trans hf
      refine Ev.blk (pc' := 29) [(.iload_n 2, 0, 0, 0)] (by decide +kernel) trivial rfl (?_)
      show Ev l d mi_X10_checked 29 [some (.ref x0), some (.int x1), some (.int x2), some (.int x3)] [.int x2] (hp s) 0 0 _
      cases hf
      exact Ev.iret .int rfl rfl (by decide +kernel) (Nat.le_refl _) (Nat.le_refl _)
    · have hf := (if_neg b1).symm.trans hf
      obtain ⟨c2, hf⟩ := gd_some hf
      obtain ⟨c3, hf⟩ := gd_some hf
      obtain ⟨v4, hv4, hf⟩ := lt_some hf
      refine Ev.blk (pc' := 25) [(.iconst 3, 0, 0, 0), (.iload_n 2, 0, 0, 0), (.imul, 0, 0, 0), (.aload_n 0, 0, 0, 0), (.iload_n 3, 0, 0, 0), (.iaload, 0, 0, 0), (.iadd, 0, 0, 0), (.sipush 251, 0, 0, 0), (.irem, 0, 0, 0), (.istore_n 2, 0, 0, 0), (.iinc 3 1, 0, 0, 0)] (by decide +kernel) trivial rfl (And.intro (kk_ok c2) (And.intro (ib_ok c3) (And.intro (by decide) (And.intro (Nat.le_of_ble_eq_true rfl) (And.intro (Nat.le_of_ble_eq_true rfl) (?_))))))
      show Ev l d mi_X10_checked 25 [some (.ref x0), some (.int x1), some (.int ((((Int32.ofInt 3) * x2) + (s.1 x0 x3.toNatClampNeg)) - (((Int32.ofInt 3) * x2) + (s.1 x0 x3.toNatClampNeg)) / ((Int16.ofInt 251).toInt32) * ((Int16.ofInt 251).toInt32))), some (.int (x3 + Int32.ofInt 1))] [] (hp s) 0 0 _
      rw [← hv4]
      refine Ev.goto (off := -20) (tgt := 5) (by decide +kernel) (by decide) ?_
      exact ih x0 x1 v4 (x3 + Int32.ofInt 1) s _ hf
def f_X10_checked (p0 : Nat) (p1 : Int32) (s : ST) : Option (Int32 × ST) := (f_X10_checked_L5 fuel) p0 p1 ((Int8.ofInt 59).toInt32) (Int32.ofInt 0) s
set_option maxHeartbeats 2000000 in
set_option maxRecDepth 20000 in
theorem e_X10_checked {l : Launch} {d : Nat} (hd : 1 ≤ d) (p0 : Nat) (p1 : Int32) (s : ST) (r : Int32 × ST) (hf : f_X10_checked p0 p1 s = some r) : Cl l d mi_X10_checked [.ref p0, .int p1] (hp s) (some (.int r.1), hp r.2) := by
  refine Ev.entry (by decide +kernel) rfl rfl ?_
  show Ev l d mi_X10_checked 0 [some (.ref p0), some (.int p1), none, none] [] (hp s) 0 0 _
  unfold f_X10_checked at hf
  refine Ev.blk (pc' := 5) [(.bipush 59, 0, 0, 0), (.istore_n 2, 0, 0, 0), (.iconst 0, 0, 0, 0), (.istore_n 3, 0, 0, 0)] (by decide +kernel) trivial rfl (And.intro (Nat.le_of_ble_eq_true rfl) (And.intro (Nat.le_of_ble_eq_true rfl) (?_)))
  show Ev l d mi_X10_checked 5 [some (.ref p0), some (.int p1), some (.int ((Int8.ofInt 59).toInt32)), some (.int (Int32.ofInt 0))] [] (hp s) 0 0 _
  exact (e_X10_checked_L5 hd fuel) p0 p1 ((Int8.ofInt 59).toInt32) (Int32.ofInt 0) s _ hf
def f_X10_writes (p0 : Int32) (s : ST) : Option (ST) := gd (ib (s.1 65 121) 32) (lt (uI (uI s 149 (s.1 65 121).toNatClampNeg p0) 65 121 (((uI s 149 (s.1 65 121).toNatClampNeg p0).1 65 121) + (Int32.ofInt 1))) (fun s2 => some s2))
set_option maxHeartbeats 2000000 in
set_option maxRecDepth 20000 in
theorem e_X10_writes {l : Launch} {d : Nat} (hd : 1 ≤ d) (p0 : Int32) (s : ST) (r : ST) (hf : f_X10_writes p0 s = some r) : Cl l d mi_X10_writes [.ref 65, .int p0] (hp s) (none, hp r) := by
  refine Ev.entry (by decide +kernel) rfl rfl ?_
  show Ev l d mi_X10_writes 0 [some (.ref 65), some (.int p0)] [] (hp s) 0 0 _
  unfold f_X10_writes at hf
  obtain ⟨c1, hf⟩ := gd_some hf
  obtain ⟨s2, hs2, hf⟩ := lt_some hf
  refine Ev.blk (pc' := 20) [(.aload_n 0, 0, 0, 0), (.getfield 272, 0, 10, 120), (.aload_n 0, 0, 0, 0), (.getfield 771, 0, 10, 121), (.iload_n 1, 0, 0, 0), (.iastore, 0, 0, 0), (.aload_n 0, 0, 0, 0), (.dup, 0, 0, 0), (.getfield 771, 0, 10, 121), (.iconst 1, 0, 0, 0), (.iadd, 0, 0, 0), (.putfield 771, 0, 10, 121)] (by decide +kernel) ⟨kf_10_272, ⟨kf_10_771, ⟨kf_10_771, ⟨⟨kf_10_771, Or.inl rfl⟩, trivial⟩⟩⟩⟩ rfl (And.intro (kc rfl rfl) (Exists.intro 149 (And.intro rfl (And.intro (kc rfl rfl) (And.intro (kc rfl rfl) (And.intro (ib_ok c1) (And.intro rfl (And.intro (kc rfl rfl) (And.intro (kc rfl rfl) (?_))))))))))
  show Ev l d mi_X10_writes 20 [some (.ref 65), some (.int p0)] [] (hp (uI (uI s 149 (s.1 65 121).toNatClampNeg p0) 65 121 (((uI s 149 (s.1 65 121).toNatClampNeg p0).1 65 121) + (Int32.ofInt 1)))) 0 0 _
  rw [← hs2]
  cases hf
  exact Ev.vret rfl (by decide +kernel) (Nat.le_refl _) (Nat.le_refl _)
def f_X10_image_j82 (k45 : Int32 → ST → Option (Int32 × ST)) (x1 : Int32) (y1 : Int32) (s : ST) : Option (Int32 × ST) := (f_X10_writes y1 s).bind (fun q15 => k45 (x1 + Int32.ofInt 1) q15)
set_option maxHeartbeats 2000000 in
set_option maxRecDepth 20000 in
theorem e_X10_image_j82 {l : Launch} {d : Nat} (hd : 2 ≤ d) (k45 : Int32 → ST → Option (Int32 × ST)) (hk45 : ∀ (x1 : Int32) (s : ST) (r : Int32 × ST), k45 x1 s = some r → Ev l d mi_X10_image 45 [some (.ref 65), some (.int x1)] [] (hp s) 0 0 (some (.int r.1), hp r.2)) (x1 : Int32) (y1 : Int32) (s : ST) (r : Int32 × ST) (hf : f_X10_image_j82 k45 x1 y1 s = some r) : Ev l d mi_X10_image 82 [some (.ref 65), some (.int x1)] [.int y1, .ref 65] (hp s) 0 0 (some (.int r.1), hp r.2) := by
  unfold f_X10_image_j82 at hf
  obtain ⟨q15, hq15, hf⟩ := bd_some hf
  refine Ev.callV (o := 65) (M' := mi_X10_writes) (d' := d - 1) (As := [.int y1]) (rest := []) (r' := (none, hp q15)) (e_X10_writes (d := d - 1) (by omega) y1 s _ hq15) (by omega) wm_X10_writes wi_X10_writes wv_X10_writes km_10_774 (kc rfl rfl) (Nat.le_of_ble_eq_true rfl) rfl rfl rfl (Nat.le_of_ble_eq_true rfl) ⟨Nat.le_of_ble_eq_true rfl, Nat.le_of_ble_eq_true rfl⟩ (by decide +kernel) ?_
  show Ev l d mi_X10_image 85 [some (.ref 65), some (.int x1)] [] (hp q15) 0 0 _
  refine Ev.blk (pc' := 88) [(.iinc 1 1, 0, 0, 0)] (by decide +kernel) trivial rfl (And.intro (Nat.le_of_ble_eq_true rfl) (?_))
  show Ev l d mi_X10_image 88 [some (.ref 65), some (.int (x1 + Int32.ofInt 1))] [] (hp q15) 0 0 _
  refine Ev.goto (off := -43) (tgt := 45) (by decide +kernel) (by decide) ?_
  exact hk45 (x1 + Int32.ofInt 1) q15 _ hf
def f_X10_image_L45 (k91 : ST → Option (Int32 × ST)) : Nat → Int32 → ST → Option (Int32 × ST)
  | 0, _, _ => none
  | n + 1, x1, s => (f_X10_manMany s).bind (fun q10 => (if ((Int32.ofInt 2) * q10.1) ≤ x1 then k91 q10.2 else gd (ib ((Int32.ofInt 2) + x1) 225) ((if (q10.2.1 112 ((Int32.ofInt 2) + x1).toNatClampNeg) = (Int32.ofInt (-1)) then (f_X10_image_j82 (f_X10_image_L45 k91 n)) x1 ((Int16.ofInt 255).toInt32) q10.2 else gd (ib ((Int32.ofInt 2) + x1) 225) ((f_X10_image_j82 (f_X10_image_L45 k91 n)) x1 (q10.2.1 112 ((Int32.ofInt 2) + x1).toNatClampNeg) q10.2)))))
set_option maxHeartbeats 2000000 in
set_option maxRecDepth 20000 in
theorem e_X10_image_L45 {l : Launch} {d : Nat} (hd : 2 ≤ d) (k91 : ST → Option (Int32 × ST)) (hk91 : ∀ (s : ST) (r : Int32 × ST), k91 s = some r → Ev l d mi_X10_image 91 [some (.ref 65), none] [] (hp s) 0 0 (some (.int r.1), hp r.2)) : ∀ (n : Nat) (x1 : Int32) (s : ST) (r : Int32 × ST), f_X10_image_L45 k91 n x1 s = some r → Ev l d mi_X10_image 45 [some (.ref 65), some (.int x1)] [] (hp s) 0 0 (some (.int r.1), hp r.2) := by
  intro n
  induction n with
  | zero =>
    intro x1 s r hf
    cases hf
  | succ n ih =>
    intro x1 s r hf
    unfold f_X10_image_L45 at hf
    refine Ev.blk (pc' := 48) [(.iload_n 1, 0, 0, 0), (.iconst 2, 0, 0, 0), (.aload_n 0, 0, 0, 0)] (by decide +kernel) trivial rfl (?_)
    show Ev l d mi_X10_image 48 [some (.ref 65), some (.int x1)] [.ref 65, .int (Int32.ofInt 2), .int x1] (hp s) 0 0 _
    obtain ⟨q10, hq10, hf⟩ := bd_some hf
    refine Ev.callV (o := 65) (M' := mi_X10_manMany) (d' := d - 1) (As := []) (rest := [.int (Int32.ofInt 2), .int x1]) (r' := (some (.int q10.1), hp q10.2)) (e_X10_manMany (d := d - 1) (by omega) s _ hq10) (by omega) wm_X10_manMany wi_X10_manMany wv_X10_manMany km_10_433 (kc rfl rfl) (Nat.le_of_ble_eq_true rfl) rfl rfl rfl (Nat.le_of_ble_eq_true rfl) ⟨Nat.le_of_ble_eq_true rfl, Nat.le_of_ble_eq_true rfl⟩ (by decide +kernel) ?_
    show Ev l d mi_X10_image 51 [some (.ref 65), some (.int x1)] [.int q10.1, .int (Int32.ofInt 2), .int x1] (hp q10.2) 0 0 _
    refine Ev.blk (pc' := 52) [(.imul, 0, 0, 0)] (by decide +kernel) trivial rfl (?_)
    show Ev l d mi_X10_image 52 [some (.ref 65), some (.int x1)] [.int ((Int32.ofInt 2) * q10.1), .int x1] (hp q10.2) 0 0 _
    refine Ev.icmp_ge (off := 39) (tgt := 91) (by decide +kernel) (by decide) (fun b11 => ?_) (fun b11 => ?_)
    · have hf := (if_pos b11).symm.trans hf
      exact Ev.wk (hk91 q10.2 _ hf) (And.intro (Or.inr rfl) (And.intro (Or.inl rfl) (trivial)))
    · have hf := (if_neg b11).symm.trans hf
      obtain ⟨c12, hf⟩ := gd_some hf
      refine Ev.blk (pc' := 65) [(.aload_n 0, 0, 0, 0), (.aload_n 0, 0, 0, 0), (.getfield 154, 0, 10, 62), (.iconst 2, 0, 0, 0), (.iload_n 1, 0, 0, 0), (.iadd, 0, 0, 0), (.iaload, 0, 0, 0), (.iconst (-1), 0, 0, 0)] (by decide +kernel) ⟨kf_10_154, trivial⟩ rfl (And.intro (kc rfl rfl) (Exists.intro 112 (And.intro rfl (And.intro (kc rfl rfl) (And.intro (ib_ok c12) (?_))))))
      show Ev l d mi_X10_image 65 [some (.ref 65), some (.int x1)] [.int (Int32.ofInt (-1)), .int (q10.2.1 112 ((Int32.ofInt 2) + x1).toNatClampNeg), .ref 65] (hp q10.2) 0 0 _
      refine Ev.icmp_ne (off := 9) (tgt := 74) (by decide +kernel) (by decide) (fun b13 => ?_) (fun b13 => ?_)
      · have hf := (if_neg b13).symm.trans hf
        obtain ⟨c14, hf⟩ := gd_some hf
        refine Ev.blk (pc' := 82) [(.aload_n 0, 0, 0, 0), (.getfield 154, 0, 10, 62), (.iconst 2, 0, 0, 0), (.iload_n 1, 0, 0, 0), (.iadd, 0, 0, 0), (.iaload, 0, 0, 0)] (by decide +kernel) ⟨kf_10_154, trivial⟩ rfl (And.intro (kc rfl rfl) (Exists.intro 112 (And.intro rfl (And.intro (kc rfl rfl) (And.intro (ib_ok c14) (?_))))))
        show Ev l d mi_X10_image 82 [some (.ref 65), some (.int x1)] [.int (q10.2.1 112 ((Int32.ofInt 2) + x1).toNatClampNeg), .ref 65] (hp q10.2) 0 0 _
        exact (e_X10_image_j82 hd (f_X10_image_L45 k91 n) ih) x1 (q10.2.1 112 ((Int32.ofInt 2) + x1).toNatClampNeg) q10.2 _ hf
      · have hf := (if_pos b13).symm.trans hf
        refine Ev.blk (pc' := 71) [(.sipush 255, 0, 0, 0)] (by decide +kernel) trivial rfl (?_)
        show Ev l d mi_X10_image 71 [some (.ref 65), some (.int x1)] [.int ((Int16.ofInt 255).toInt32), .ref 65] (hp q10.2) 0 0 _
        refine Ev.goto (off := 11) (tgt := 82) (by decide +kernel) (by decide) ?_
        exact (e_X10_image_j82 hd (f_X10_image_L45 k91 n) ih) x1 ((Int16.ofInt 255).toInt32) q10.2 _ hf
def f_X10_image_L93 (k141 : ST → Option (Int32 × ST)) : Nat → Int32 → ST → Option (Int32 × ST)
  | 0, _, _ => none
  | n + 1, x1, s => (f_X10_fieldMany s).bind (fun q16 => (if q16.1 ≤ x1 then k141 q16.2 else gd (ib (((Int8.ofInt 18).toInt32) + x1) 225) (lt ((q16.2.1 112 (((Int8.ofInt 18).toInt32) + x1).toNatClampNeg) / ((Int16.ofInt 256).toInt32)) (fun v19 => (f_X10_writes v19 q16.2).bind (fun q20 => gd (ib (((Int8.ofInt 18).toInt32) + x1) 225) (lt ((q20.1 112 (((Int8.ofInt 18).toInt32) + x1).toNatClampNeg) - (q20.1 112 (((Int8.ofInt 18).toInt32) + x1).toNatClampNeg) / ((Int16.ofInt 256).toInt32) * ((Int16.ofInt 256).toInt32)) (fun v22 => (f_X10_writes v22 q20).bind (fun q23 => (f_X10_image_L93 k141 n) (x1 + Int32.ofInt 1) q23))))))))
set_option maxHeartbeats 2000000 in
set_option maxRecDepth 20000 in
theorem e_X10_image_L93 {l : Launch} {d : Nat} (hd : 2 ≤ d) (k141 : ST → Option (Int32 × ST)) (hk141 : ∀ (s : ST) (r : Int32 × ST), k141 s = some r → Ev l d mi_X10_image 141 [some (.ref 65), none] [] (hp s) 0 0 (some (.int r.1), hp r.2)) : ∀ (n : Nat) (x1 : Int32) (s : ST) (r : Int32 × ST), f_X10_image_L93 k141 n x1 s = some r → Ev l d mi_X10_image 93 [some (.ref 65), some (.int x1)] [] (hp s) 0 0 (some (.int r.1), hp r.2) := by
  intro n
  induction n with
  | zero =>
    intro x1 s r hf
    cases hf
  | succ n ih =>
    intro x1 s r hf
    unfold f_X10_image_L93 at hf
    refine Ev.blk (pc' := 95) [(.iload_n 1, 0, 0, 0), (.aload_n 0, 0, 0, 0)] (by decide +kernel) trivial rfl (?_)
    show Ev l d mi_X10_image 95 [some (.ref 65), some (.int x1)] [.ref 65, .int x1] (hp s) 0 0 _
    obtain ⟨q16, hq16, hf⟩ := bd_some hf
    refine Ev.callV (o := 65) (M' := mi_X10_fieldMany) (d' := d - 1) (As := []) (rest := [.int x1]) (r' := (some (.int q16.1), hp q16.2)) (e_X10_fieldMany (d := d - 1) (by omega) s _ hq16) (by omega) wm_X10_fieldMany wi_X10_fieldMany wv_X10_fieldMany km_10_436 (kc rfl rfl) (Nat.le_of_ble_eq_true rfl) rfl rfl rfl (Nat.le_of_ble_eq_true rfl) ⟨Nat.le_of_ble_eq_true rfl, Nat.le_of_ble_eq_true rfl⟩ (by decide +kernel) ?_
    show Ev l d mi_X10_image 98 [some (.ref 65), some (.int x1)] [.int q16.1, .int x1] (hp q16.2) 0 0 _
    refine Ev.icmp_ge (off := 43) (tgt := 141) (by decide +kernel) (by decide) (fun b17 => ?_) (fun b17 => ?_)
    · have hf := (if_pos b17).symm.trans hf
      exact Ev.wk (hk141 q16.2 _ hf) (And.intro (Or.inr rfl) (And.intro (Or.inl rfl) (trivial)))
    · have hf := (if_neg b17).symm.trans hf
      obtain ⟨c18, hf⟩ := gd_some hf
      obtain ⟨v19, hv19, hf⟩ := lt_some hf
      refine Ev.blk (pc' := 115) [(.aload_n 0, 0, 0, 0), (.aload_n 0, 0, 0, 0), (.getfield 154, 0, 10, 62), (.bipush 18, 0, 0, 0), (.iload_n 1, 0, 0, 0), (.iadd, 0, 0, 0), (.iaload, 0, 0, 0), (.sipush 256, 0, 0, 0), (.idiv, 0, 0, 0)] (by decide +kernel) ⟨kf_10_154, trivial⟩ rfl (And.intro (kc rfl rfl) (Exists.intro 112 (And.intro rfl (And.intro (kc rfl rfl) (And.intro (ib_ok c18) (And.intro (by decide) (?_)))))))
      show Ev l d mi_X10_image 115 [some (.ref 65), some (.int x1)] [.int ((q16.2.1 112 (((Int8.ofInt 18).toInt32) + x1).toNatClampNeg) / ((Int16.ofInt 256).toInt32)), .ref 65] (hp q16.2) 0 0 _
      rw [← hv19]
      obtain ⟨q20, hq20, hf⟩ := bd_some hf
      refine Ev.callV (o := 65) (M' := mi_X10_writes) (d' := d - 1) (As := [.int v19]) (rest := []) (r' := (none, hp q20)) (e_X10_writes (d := d - 1) (by omega) v19 q16.2 _ hq20) (by omega) wm_X10_writes wi_X10_writes wv_X10_writes km_10_774 (kc rfl rfl) (Nat.le_of_ble_eq_true rfl) rfl rfl rfl (Nat.le_of_ble_eq_true rfl) ⟨Nat.le_of_ble_eq_true rfl, Nat.le_of_ble_eq_true rfl⟩ (by decide +kernel) ?_
      show Ev l d mi_X10_image 118 [some (.ref 65), some (.int x1)] [] (hp q20) 0 0 _
      obtain ⟨c21, hf⟩ := gd_some hf
      obtain ⟨v22, hv22, hf⟩ := lt_some hf
      refine Ev.blk (pc' := 132) [(.aload_n 0, 0, 0, 0), (.aload_n 0, 0, 0, 0), (.getfield 154, 0, 10, 62), (.bipush 18, 0, 0, 0), (.iload_n 1, 0, 0, 0), (.iadd, 0, 0, 0), (.iaload, 0, 0, 0), (.sipush 256, 0, 0, 0), (.irem, 0, 0, 0)] (by decide +kernel) ⟨kf_10_154, trivial⟩ rfl (And.intro (kc rfl rfl) (Exists.intro 112 (And.intro rfl (And.intro (kc rfl rfl) (And.intro (ib_ok c21) (And.intro (by decide) (?_)))))))
      show Ev l d mi_X10_image 132 [some (.ref 65), some (.int x1)] [.int ((q20.1 112 (((Int8.ofInt 18).toInt32) + x1).toNatClampNeg) - (q20.1 112 (((Int8.ofInt 18).toInt32) + x1).toNatClampNeg) / ((Int16.ofInt 256).toInt32) * ((Int16.ofInt 256).toInt32)), .ref 65] (hp q20) 0 0 _
      rw [← hv22]
      obtain ⟨q23, hq23, hf⟩ := bd_some hf
      refine Ev.callV (o := 65) (M' := mi_X10_writes) (d' := d - 1) (As := [.int v22]) (rest := []) (r' := (none, hp q23)) (e_X10_writes (d := d - 1) (by omega) v22 q20 _ hq23) (by omega) wm_X10_writes wi_X10_writes wv_X10_writes km_10_774 (kc rfl rfl) (Nat.le_of_ble_eq_true rfl) rfl rfl rfl (Nat.le_of_ble_eq_true rfl) ⟨Nat.le_of_ble_eq_true rfl, Nat.le_of_ble_eq_true rfl⟩ (by decide +kernel) ?_
      show Ev l d mi_X10_image 135 [some (.ref 65), some (.int x1)] [] (hp q23) 0 0 _
      refine Ev.blk (pc' := 138) [(.iinc 1 1, 0, 0, 0)] (by decide +kernel) trivial rfl (And.intro (Nat.le_of_ble_eq_true rfl) (?_))
      show Ev l d mi_X10_image 138 [some (.ref 65), some (.int (x1 + Int32.ofInt 1))] [] (hp q23) 0 0 _
      refine Ev.goto (off := -45) (tgt := 93) (by decide +kernel) (by decide) ?_
      exact ih (x1 + Int32.ofInt 1) q23 _ hf
def f_X10_image_j141 (s : ST) : Option (Int32 × ST) := (f_X10_checked 149 (s.1 65 121) s).bind (fun q24 => (f_X10_writes q24.1 q24.2).bind (fun q25 => some ((q25.1 65 121), q25)))
set_option maxHeartbeats 2000000 in
set_option maxRecDepth 20000 in
theorem e_X10_image_j141 {l : Launch} {d : Nat} (hd : 2 ≤ d) (s : ST) (r : Int32 × ST) (hf : f_X10_image_j141 s = some r) : Ev l d mi_X10_image 141 [some (.ref 65), none] [] (hp s) 0 0 (some (.int r.1), hp r.2) := by
  unfold f_X10_image_j141 at hf
  refine Ev.blk (pc' := 150) [(.aload_n 0, 0, 0, 0), (.aload_n 0, 0, 0, 0), (.getfield 272, 0, 10, 120), (.aload_n 0, 0, 0, 0), (.getfield 771, 0, 10, 121)] (by decide +kernel) ⟨kf_10_272, ⟨kf_10_771, trivial⟩⟩ rfl (And.intro (kc rfl rfl) (Exists.intro 149 (And.intro rfl (And.intro (kc rfl rfl) (?_)))))
  show Ev l d mi_X10_image 150 [some (.ref 65), none] [.int (s.1 65 121), .ref 149, .ref 65] (hp s) 0 0 _
  obtain ⟨q24, hq24, hf⟩ := bd_some hf
  refine Ev.callS (M' := mi_X10_checked) (d' := d - 1) (As := [.ref 149, .int (s.1 65 121)]) (rest := [.ref 65]) (r' := (some (.int q24.1), hp q24.2)) (e_X10_checked (d := d - 1) (by omega) 149 (s.1 65 121) s _ hq24) (by omega) wm_X10_checked wt_X10_checked km_10_777 rfl rfl rfl (Nat.le_of_ble_eq_true rfl) ⟨Nat.le_of_ble_eq_true rfl, Nat.le_of_ble_eq_true rfl⟩ (by decide +kernel) ?_
  show Ev l d mi_X10_image 153 [some (.ref 65), none] [.int q24.1, .ref 65] (hp q24.2) 0 0 _
  obtain ⟨q25, hq25, hf⟩ := bd_some hf
  refine Ev.callV (o := 65) (M' := mi_X10_writes) (d' := d - 1) (As := [.int q24.1]) (rest := []) (r' := (none, hp q25)) (e_X10_writes (d := d - 1) (by omega) q24.1 q24.2 _ hq25) (by omega) wm_X10_writes wi_X10_writes wv_X10_writes km_10_774 (kc rfl rfl) (Nat.le_of_ble_eq_true rfl) rfl rfl rfl (Nat.le_of_ble_eq_true rfl) ⟨Nat.le_of_ble_eq_true rfl, Nat.le_of_ble_eq_true rfl⟩ (by decide +kernel) ?_
  show Ev l d mi_X10_image 156 [some (.ref 65), none] [] (hp q25) 0 0 _
  refine Ev.blk (pc' := 160) [(.aload_n 0, 0, 0, 0), (.getfield 771, 0, 10, 121)] (by decide +kernel) ⟨kf_10_771, trivial⟩ rfl (And.intro (kc rfl rfl) (?_))
  show Ev l d mi_X10_image 160 [some (.ref 65), none] [.int (q25.1 65 121)] (hp q25) 0 0 _
  cases hf
  exact Ev.iret .int rfl rfl (by decide +kernel) (Nat.le_refl _) (Nat.le_refl _)
def f_X10_image_j91 (s : ST) : Option (Int32 × ST) := (f_X10_image_L93 f_X10_image_j141 fuel) (Int32.ofInt 0) s
set_option maxHeartbeats 2000000 in
set_option maxRecDepth 20000 in
theorem e_X10_image_j91 {l : Launch} {d : Nat} (hd : 2 ≤ d) (s : ST) (r : Int32 × ST) (hf : f_X10_image_j91 s = some r) : Ev l d mi_X10_image 91 [some (.ref 65), none] [] (hp s) 0 0 (some (.int r.1), hp r.2) := by
  unfold f_X10_image_j91 at hf
  refine Ev.blk (pc' := 93) [(.iconst 0, 0, 0, 0), (.istore_n 1, 0, 0, 0)] (by decide +kernel) trivial rfl (And.intro (Nat.le_of_ble_eq_true rfl) (?_))
  show Ev l d mi_X10_image 93 [some (.ref 65), some (.int (Int32.ofInt 0))] [] (hp s) 0 0 _
  exact (e_X10_image_L93 hd f_X10_image_j141 (e_X10_image_j141 hd) fuel) (Int32.ofInt 0) s _ hf
def f_X10_image (s : ST) : Option (Int32 × ST) := gd (ib (Int32.ofInt 0) 225) (lt (uI s 65 121 (Int32.ofInt 0)) (fun s2 => lt ((s2.1 112 (Int32.ofInt 0).toNatClampNeg) / ((Int16.ofInt 256).toInt32)) (fun v3 => (f_X10_writes v3 s2).bind (fun q4 => gd (ib (Int32.ofInt 0) 225) (lt ((q4.1 112 (Int32.ofInt 0).toNatClampNeg) - (q4.1 112 (Int32.ofInt 0).toNatClampNeg) / ((Int16.ofInt 256).toInt32) * ((Int16.ofInt 256).toInt32)) (fun v6 => (f_X10_writes v6 q4).bind (fun q7 => gd (ib (Int32.ofInt 1) 225) ((f_X10_writes (q7.1 112 (Int32.ofInt 1).toNatClampNeg) q7).bind (fun q9 => (f_X10_image_L45 f_X10_image_j91 fuel) (Int32.ofInt 0) q9)))))))))
set_option maxHeartbeats 2000000 in
set_option maxRecDepth 20000 in
theorem e_X10_image {l : Launch} {d : Nat} (hd : 2 ≤ d) (s : ST) (r : Int32 × ST) (hf : f_X10_image s = some r) : Cl l d mi_X10_image [.ref 65] (hp s) (some (.int r.1), hp r.2) := by
  refine Ev.entry (by decide +kernel) rfl rfl ?_
  show Ev l d mi_X10_image 0 [some (.ref 65), none] [] (hp s) 0 0 _
  unfold f_X10_image at hf
  obtain ⟨c1, hf⟩ := gd_some hf
  obtain ⟨s2, hs2, hf⟩ := lt_some hf
  obtain ⟨v3, hv3, hf⟩ := lt_some hf
  refine Ev.blk (pc' := 16) [(.aload_n 0, 0, 0, 0), (.iconst 0, 0, 0, 0), (.putfield 771, 0, 10, 121), (.aload_n 0, 0, 0, 0), (.aload_n 0, 0, 0, 0), (.getfield 154, 0, 10, 62), (.iconst 0, 0, 0, 0), (.iaload, 0, 0, 0), (.sipush 256, 0, 0, 0), (.idiv, 0, 0, 0)] (by decide +kernel) ⟨⟨kf_10_771, Or.inl rfl⟩, ⟨kf_10_154, trivial⟩⟩ rfl (And.intro (kc rfl rfl) (And.intro (kc rfl rfl) (Exists.intro 112 (And.intro rfl (And.intro (kc rfl rfl) (And.intro (ib_ok c1) (And.intro (by decide) (?_))))))))
  show Ev l d mi_X10_image 16 [some (.ref 65), none] [.int (((uI s 65 121 (Int32.ofInt 0)).1 112 (Int32.ofInt 0).toNatClampNeg) / ((Int16.ofInt 256).toInt32)), .ref 65] (hp (uI s 65 121 (Int32.ofInt 0))) 0 0 _
  rw [← hs2, ← hv3]
  obtain ⟨q4, hq4, hf⟩ := bd_some hf
  refine Ev.callV (o := 65) (M' := mi_X10_writes) (d' := d - 1) (As := [.int v3]) (rest := []) (r' := (none, hp q4)) (e_X10_writes (d := d - 1) (by omega) v3 s2 _ hq4) (by omega) wm_X10_writes wi_X10_writes wv_X10_writes km_10_774 (kc rfl rfl) (Nat.le_of_ble_eq_true rfl) rfl rfl rfl (Nat.le_of_ble_eq_true rfl) ⟨Nat.le_of_ble_eq_true rfl, Nat.le_of_ble_eq_true rfl⟩ (by decide +kernel) ?_
  show Ev l d mi_X10_image 19 [some (.ref 65), none] [] (hp q4) 0 0 _
  obtain ⟨c5, hf⟩ := gd_some hf
  obtain ⟨v6, hv6, hf⟩ := lt_some hf
  refine Ev.blk (pc' := 30) [(.aload_n 0, 0, 0, 0), (.aload_n 0, 0, 0, 0), (.getfield 154, 0, 10, 62), (.iconst 0, 0, 0, 0), (.iaload, 0, 0, 0), (.sipush 256, 0, 0, 0), (.irem, 0, 0, 0)] (by decide +kernel) ⟨kf_10_154, trivial⟩ rfl (And.intro (kc rfl rfl) (Exists.intro 112 (And.intro rfl (And.intro (kc rfl rfl) (And.intro (ib_ok c5) (And.intro (by decide) (?_)))))))
  show Ev l d mi_X10_image 30 [some (.ref 65), none] [.int ((q4.1 112 (Int32.ofInt 0).toNatClampNeg) - (q4.1 112 (Int32.ofInt 0).toNatClampNeg) / ((Int16.ofInt 256).toInt32) * ((Int16.ofInt 256).toInt32)), .ref 65] (hp q4) 0 0 _
  rw [← hv6]
  obtain ⟨q7, hq7, hf⟩ := bd_some hf
  refine Ev.callV (o := 65) (M' := mi_X10_writes) (d' := d - 1) (As := [.int v6]) (rest := []) (r' := (none, hp q7)) (e_X10_writes (d := d - 1) (by omega) v6 q4 _ hq7) (by omega) wm_X10_writes wi_X10_writes wv_X10_writes km_10_774 (kc rfl rfl) (Nat.le_of_ble_eq_true rfl) rfl rfl rfl (Nat.le_of_ble_eq_true rfl) ⟨Nat.le_of_ble_eq_true rfl, Nat.le_of_ble_eq_true rfl⟩ (by decide +kernel) ?_
  show Ev l d mi_X10_image 33 [some (.ref 65), none] [] (hp q7) 0 0 _
  obtain ⟨c8, hf⟩ := gd_some hf
  refine Ev.blk (pc' := 40) [(.aload_n 0, 0, 0, 0), (.aload_n 0, 0, 0, 0), (.getfield 154, 0, 10, 62), (.iconst 1, 0, 0, 0), (.iaload, 0, 0, 0)] (by decide +kernel) ⟨kf_10_154, trivial⟩ rfl (And.intro (kc rfl rfl) (Exists.intro 112 (And.intro rfl (And.intro (kc rfl rfl) (And.intro (ib_ok c8) (?_))))))
  show Ev l d mi_X10_image 40 [some (.ref 65), none] [.int (q7.1 112 (Int32.ofInt 1).toNatClampNeg), .ref 65] (hp q7) 0 0 _
  obtain ⟨q9, hq9, hf⟩ := bd_some hf
  refine Ev.callV (o := 65) (M' := mi_X10_writes) (d' := d - 1) (As := [.int (q7.1 112 (Int32.ofInt 1).toNatClampNeg)]) (rest := []) (r' := (none, hp q9)) (e_X10_writes (d := d - 1) (by omega) (q7.1 112 (Int32.ofInt 1).toNatClampNeg) q7 _ hq9) (by omega) wm_X10_writes wi_X10_writes wv_X10_writes km_10_774 (kc rfl rfl) (Nat.le_of_ble_eq_true rfl) rfl rfl rfl (Nat.le_of_ble_eq_true rfl) ⟨Nat.le_of_ble_eq_true rfl, Nat.le_of_ble_eq_true rfl⟩ (by decide +kernel) ?_
  show Ev l d mi_X10_image 43 [some (.ref 65), none] [] (hp q9) 0 0 _
  refine Ev.blk (pc' := 45) [(.iconst 0, 0, 0, 0), (.istore_n 1, 0, 0, 0)] (by decide +kernel) trivial rfl (And.intro (Nat.le_of_ble_eq_true rfl) (?_))
  show Ev l d mi_X10_image 45 [some (.ref 65), some (.int (Int32.ofInt 0))] [] (hp q9) 0 0 _
  exact (e_X10_image_L45 hd f_X10_image_j91 (e_X10_image_j91 hd) fuel) (Int32.ofInt 0) q9 _ hf
def f_X10_octet (p0 : Int32) (s : ST) : Option (Int32 × ST) := (if p0 < 0 then some ((Int32.ofInt (-1)), s) else (if (s.1 65 121) ≤ p0 then some ((Int32.ofInt (-1)), s) else gd (ib p0 32) (some ((s.1 149 p0.toNatClampNeg), s))))
set_option maxHeartbeats 2000000 in
set_option maxRecDepth 20000 in
theorem e_X10_octet {l : Launch} {d : Nat} (hd : 1 ≤ d) (p0 : Int32) (s : ST) (r : Int32 × ST) (hf : f_X10_octet p0 s = some r) : Cl l d mi_X10_octet [.ref 65, .int p0] (hp s) (some (.int r.1), hp r.2) := by
  refine Ev.entry (by decide +kernel) rfl rfl ?_
  show Ev l d mi_X10_octet 0 [some (.ref 65), some (.int p0)] [] (hp s) 0 0 _
  unfold f_X10_octet at hf
  refine Ev.blk (pc' := 1) [(.iload_n 1, 0, 0, 0)] (by decide +kernel) trivial rfl (?_)
  show Ev l d mi_X10_octet 1 [some (.ref 65), some (.int p0)] [.int p0] (hp s) 0 0 _
  refine Ev.if_lt (off := 20) (tgt := 21) (by decide +kernel) (by decide) (fun b1 => ?_) (fun b1 => ?_)
  · have hf := (if_pos b1).symm.trans hf
    refine Ev.blk (pc' := 22) [(.iconst (-1), 0, 0, 0)] (by decide +kernel) trivial rfl (?_)
    show Ev l d mi_X10_octet 22 [some (.ref 65), some (.int p0)] [.int (Int32.ofInt (-1))] (hp s) 0 0 _
    cases hf
    exact Ev.iret .int rfl rfl (by decide +kernel) (Nat.le_refl _) (Nat.le_refl _)
  · have hf := (if_neg b1).symm.trans hf
    refine Ev.blk (pc' := 9) [(.iload_n 1, 0, 0, 0), (.aload_n 0, 0, 0, 0), (.getfield 771, 0, 10, 121)] (by decide +kernel) ⟨kf_10_771, trivial⟩ rfl (And.intro (kc rfl rfl) (?_))
    show Ev l d mi_X10_octet 9 [some (.ref 65), some (.int p0)] [.int (s.1 65 121), .int p0] (hp s) 0 0 _
    refine Ev.icmp_ge (off := 12) (tgt := 21) (by decide +kernel) (by decide) (fun b2 => ?_) (fun b2 => ?_)
    · have hf := (if_pos b2).symm.trans hf
      refine Ev.blk (pc' := 22) [(.iconst (-1), 0, 0, 0)] (by decide +kernel) trivial rfl (?_)
      show Ev l d mi_X10_octet 22 [some (.ref 65), some (.int p0)] [.int (Int32.ofInt (-1))] (hp s) 0 0 _
      cases hf
      exact Ev.iret .int rfl rfl (by decide +kernel) (Nat.le_refl _) (Nat.le_refl _)
    · have hf := (if_neg b2).symm.trans hf
      obtain ⟨c3, hf⟩ := gd_some hf
      refine Ev.blk (pc' := 18) [(.aload_n 0, 0, 0, 0), (.getfield 272, 0, 10, 120), (.iload_n 1, 0, 0, 0), (.iaload, 0, 0, 0)] (by decide +kernel) ⟨kf_10_272, trivial⟩ rfl (And.intro (kc rfl rfl) (Exists.intro 149 (And.intro rfl (And.intro (kc rfl rfl) (And.intro (ib_ok c3) (?_))))))
      show Ev l d mi_X10_octet 18 [some (.ref 65), some (.int p0)] [.int (s.1 149 p0.toNatClampNeg)] (hp s) 0 0 _
      refine Ev.goto (off := 4) (tgt := 22) (by decide +kernel) (by decide) ?_
      cases hf
      exact Ev.iret .int rfl rfl (by decide +kernel) (Nat.le_refl _) (Nat.le_refl _)
def f_X10_isImage_L96 : Nat → Int32 → Int32 → ST → Option (Int32 × ST)
  | 0, _, _, _ => none
  | n + 1, x2, x3, s => (f_X10_fieldMany s).bind (fun q17 => (if q17.1 ≤ x3 then some ((Int32.ofInt 1), q17.2) else gd (ib (x2 + ((Int32.ofInt 2) * x3)) 1600) (gd (ib ((x2 + ((Int32.ofInt 2) * x3)) + (Int32.ofInt 1)) 1600) (lt ((((Int16.ofInt 256).toInt32) * (q17.2.1 66 (x2 + ((Int32.ofInt 2) * x3)).toNatClampNeg)) + (q17.2.1 66 ((x2 + ((Int32.ofInt 2) * x3)) + (Int32.ofInt 1)).toNatClampNeg)) (fun v21 => (if v21 ≤ ((Int16.ofInt 999).toInt32) then (f_X10_isImage_L96 n) x2 (x3 + Int32.ofInt 1) q17.2 else some ((Int32.ofInt 0), q17.2)))))))
set_option maxHeartbeats 2000000 in
set_option maxRecDepth 20000 in
theorem e_X10_isImage_L96 {l : Launch} {d : Nat} (hd : 3 ≤ d) : ∀ (n : Nat) (x2 : Int32) (x3 : Int32) (s : ST) (r : Int32 × ST), f_X10_isImage_L96 n x2 x3 s = some r → Ev l d mi_X10_isImage 96 [some (.ref 65), none, some (.int x2), some (.int x3)] [] (hp s) 0 0 (some (.int r.1), hp r.2) := by
  intro n
  induction n with
  | zero =>
    intro x2 x3 s r hf
    cases hf
  | succ n ih =>
    intro x2 x3 s r hf
    unfold f_X10_isImage_L96 at hf
    refine Ev.blk (pc' := 98) [(.iload_n 3, 0, 0, 0), (.aload_n 0, 0, 0, 0)] (by decide +kernel) trivial rfl (?_)
    show Ev l d mi_X10_isImage 98 [some (.ref 65), none, some (.int x2), some (.int x3)] [.ref 65, .int x3] (hp s) 0 0 _
    obtain ⟨q17, hq17, hf⟩ := bd_some hf
    refine Ev.callV (o := 65) (M' := mi_X10_fieldMany) (d' := d - 1) (As := []) (rest := [.int x3]) (r' := (some (.int q17.1), hp q17.2)) (e_X10_fieldMany (d := d - 1) (by omega) s _ hq17) (by omega) wm_X10_fieldMany wi_X10_fieldMany wv_X10_fieldMany km_10_436 (kc rfl rfl) (Nat.le_of_ble_eq_true rfl) rfl rfl rfl (Nat.le_of_ble_eq_true rfl) ⟨Nat.le_of_ble_eq_true rfl, Nat.le_of_ble_eq_true rfl⟩ (by decide +kernel) ?_
    show Ev l d mi_X10_isImage 101 [some (.ref 65), none, some (.int x2), some (.int x3)] [.int q17.1, .int x3] (hp q17.2) 0 0 _
    refine Ev.icmp_ge (off := 44) (tgt := 145) (by decide +kernel) (by decide) (fun b18 => ?_) (fun b18 => ?_)
    · have hf := (if_pos b18).symm.trans hf
      refine Ev.blk (pc' := 146) [(.iconst 1, 0, 0, 0)] (by decide +kernel) trivial rfl (?_)
      show Ev l d mi_X10_isImage 146 [some (.ref 65), none, some (.int x2), some (.int x3)] [.int (Int32.ofInt 1)] (hp q17.2) 0 0 _
      cases hf
      exact Ev.iret .boolean rfl rfl (by decide +kernel) (Nat.le_refl _) (Nat.le_refl _)
    · have hf := (if_neg b18).symm.trans hf
      obtain ⟨c19, hf⟩ := gd_some hf
      obtain ⟨c20, hf⟩ := gd_some hf
      obtain ⟨v21, hv21, hf⟩ := lt_some hf
      refine Ev.blk (pc' := 134) [(.sipush 256, 0, 0, 0), (.aload_n 0, 0, 0, 0), (.getfield 7, 0, 10, 0), (.iload_n 2, 0, 0, 0), (.iconst 2, 0, 0, 0), (.iload_n 3, 0, 0, 0), (.imul, 0, 0, 0), (.iadd, 0, 0, 0), (.iaload, 0, 0, 0), (.imul, 0, 0, 0), (.aload_n 0, 0, 0, 0), (.getfield 7, 0, 10, 0), (.iload_n 2, 0, 0, 0), (.iconst 2, 0, 0, 0), (.iload_n 3, 0, 0, 0), (.imul, 0, 0, 0), (.iadd, 0, 0, 0), (.iconst 1, 0, 0, 0), (.iadd, 0, 0, 0), (.iaload, 0, 0, 0), (.iadd, 0, 0, 0), (.sipush 999, 0, 0, 0)] (by decide +kernel) ⟨kf_10_7, ⟨kf_10_7, trivial⟩⟩ rfl (And.intro (kc rfl rfl) (Exists.intro 66 (And.intro rfl (And.intro (kc rfl rfl) (And.intro (ib_ok c19) (And.intro (kc rfl rfl) (Exists.intro 66 (And.intro rfl (And.intro (kc rfl rfl) (And.intro (ib_ok c20) (?_)))))))))))
      show Ev l d mi_X10_isImage 134 [some (.ref 65), none, some (.int x2), some (.int x3)] [.int ((Int16.ofInt 999).toInt32), .int ((((Int16.ofInt 256).toInt32) * (q17.2.1 66 (x2 + ((Int32.ofInt 2) * x3)).toNatClampNeg)) + (q17.2.1 66 ((x2 + ((Int32.ofInt 2) * x3)) + (Int32.ofInt 1)).toNatClampNeg))] (hp q17.2) 0 0 _
      rw [← hv21]
      refine Ev.icmp_le (off := 5) (tgt := 139) (by decide +kernel) (by decide) (fun b22 => ?_) (fun b22 => ?_)
      · have hf := (if_pos b22).symm.trans hf
        refine Ev.blk (pc' := 142) [(.iinc 3 1, 0, 0, 0)] (by decide +kernel) trivial rfl (And.intro (Nat.le_of_ble_eq_true rfl) (?_))
        show Ev l d mi_X10_isImage 142 [some (.ref 65), none, some (.int x2), some (.int (x3 + Int32.ofInt 1))] [] (hp q17.2) 0 0 _
        refine Ev.goto (off := -46) (tgt := 96) (by decide +kernel) (by decide) ?_
        exact ih x2 (x3 + Int32.ofInt 1) q17.2 _ hf
      · have hf := (if_neg b22).symm.trans hf
        refine Ev.blk (pc' := 138) [(.iconst 0, 0, 0, 0)] (by decide +kernel) trivial rfl (?_)
        show Ev l d mi_X10_isImage 138 [some (.ref 65), none, some (.int x2), some (.int x3)] [.int (Int32.ofInt 0)] (hp q17.2) 0 0 _
        cases hf
        exact Ev.iret .boolean rfl rfl (by decide +kernel) (Nat.le_refl _) (Nat.le_refl _)
def f_X10_isImage (p0 : Int32) (s : ST) : Option (Int32 × ST) := (f_X10_manMany s).bind (fun q1 => (if (q1.2.1 65 58) = 0 then some ((Int32.ofInt 0), q1.2) else (f_X10_fieldMany q1.2).bind (fun q3 => lt ((((Int32.ofInt 3) + ((Int32.ofInt 2) * q1.1)) + ((Int32.ofInt 2) * q3.1)) + (Int32.ofInt 1)) (fun v4 => (if p0 = v4 then gd (ib (p0 - (Int32.ofInt 1)) 1600) ((f_X10_checked 66 (p0 - (Int32.ofInt 1)) q3.2).bind (fun q7 => (if (q3.2.1 66 (p0 - (Int32.ofInt 1)).toNatClampNeg) = q7.1 then gd (ib (Int32.ofInt 0) 1600) (gd (ib (Int32.ofInt 1) 1600) (lt ((((Int16.ofInt 256).toInt32) * (q7.2.1 66 (Int32.ofInt 0).toNatClampNeg)) + (q7.2.1 66 (Int32.ofInt 1).toNatClampNeg)) (fun v11 => (if ((Int16.ofInt 999).toInt32) < v11 then some ((Int32.ofInt 0), q7.2) else gd (ib (Int32.ofInt 2) 1600) ((if (Int32.ofInt 1) < (q7.2.1 66 (Int32.ofInt 2).toNatClampNeg) then some ((Int32.ofInt 0), q7.2) else (f_X10_areMen (Int32.ofInt 3) q7.2).bind (fun q15 => (if q15.1 = 0 then some ((Int32.ofInt 0), q15.2) else (f_X10_isImage_L96 fuel) ((Int32.ofInt 3) + ((Int32.ofInt 2) * q1.1)) (Int32.ofInt 0) q15.2)))))))) else some ((Int32.ofInt 0), q7.2)))) else some ((Int32.ofInt 0), q3.2))))))
set_option maxHeartbeats 2000000 in
set_option maxRecDepth 20000 in
theorem e_X10_isImage {l : Launch} {d : Nat} (hd : 3 ≤ d) (p0 : Int32) (s : ST) (r : Int32 × ST) (hf : f_X10_isImage p0 s = some r) : Cl l d mi_X10_isImage [.ref 65, .int p0] (hp s) (some (.int r.1), hp r.2) := by
  refine Ev.entry (by decide +kernel) rfl rfl ?_
  show Ev l d mi_X10_isImage 0 [some (.ref 65), some (.int p0), none, none] [] (hp s) 0 0 _
  unfold f_X10_isImage at hf
  refine Ev.blk (pc' := 3) [(.iconst 3, 0, 0, 0), (.iconst 2, 0, 0, 0), (.aload_n 0, 0, 0, 0)] (by decide +kernel) trivial rfl (?_)
  show Ev l d mi_X10_isImage 3 [some (.ref 65), some (.int p0), none, none] [.ref 65, .int (Int32.ofInt 2), .int (Int32.ofInt 3)] (hp s) 0 0 _
  obtain ⟨q1, hq1, hf⟩ := bd_some hf
  refine Ev.callV (o := 65) (M' := mi_X10_manMany) (d' := d - 1) (As := []) (rest := [.int (Int32.ofInt 2), .int (Int32.ofInt 3)]) (r' := (some (.int q1.1), hp q1.2)) (e_X10_manMany (d := d - 1) (by omega) s _ hq1) (by omega) wm_X10_manMany wi_X10_manMany wv_X10_manMany km_10_433 (kc rfl rfl) (Nat.le_of_ble_eq_true rfl) rfl rfl rfl (Nat.le_of_ble_eq_true rfl) ⟨Nat.le_of_ble_eq_true rfl, Nat.le_of_ble_eq_true rfl⟩ (by decide +kernel) ?_
  show Ev l d mi_X10_isImage 6 [some (.ref 65), some (.int p0), none, none] [.int q1.1, .int (Int32.ofInt 2), .int (Int32.ofInt 3)] (hp q1.2) 0 0 _
  refine Ev.blk (pc' := 13) [(.imul, 0, 0, 0), (.iadd, 0, 0, 0), (.istore_n 2, 0, 0, 0), (.aload_n 0, 0, 0, 0), (.getfield 424, 0, 10, 58)] (by decide +kernel) ⟨kf_10_424, trivial⟩ rfl (And.intro (Nat.le_of_ble_eq_true rfl) (And.intro (kc rfl rfl) (?_)))
  show Ev l d mi_X10_isImage 13 [some (.ref 65), some (.int p0), some (.int ((Int32.ofInt 3) + ((Int32.ofInt 2) * q1.1))), none] [.int (q1.2.1 65 58)] (hp q1.2) 0 0 _
  refine Ev.if_eq (off := 79) (tgt := 92) (by decide +kernel) (by decide) (fun b2 => ?_) (fun b2 => ?_)
  · have hf := (if_pos b2).symm.trans hf
    refine Ev.blk (pc' := 93) [(.iconst 0, 0, 0, 0)] (by decide +kernel) trivial rfl (?_)
    show Ev l d mi_X10_isImage 93 [some (.ref 65), some (.int p0), some (.int ((Int32.ofInt 3) + ((Int32.ofInt 2) * q1.1))), none] [.int (Int32.ofInt 0)] (hp q1.2) 0 0 _
    cases hf
    exact Ev.iret .boolean rfl rfl (by decide +kernel) (Nat.le_refl _) (Nat.le_refl _)
  · have hf := (if_neg b2).symm.trans hf
    refine Ev.blk (pc' := 20) [(.iload_n 1, 0, 0, 0), (.iload_n 2, 0, 0, 0), (.iconst 2, 0, 0, 0), (.aload_n 0, 0, 0, 0)] (by decide +kernel) trivial rfl (?_)
    show Ev l d mi_X10_isImage 20 [some (.ref 65), some (.int p0), some (.int ((Int32.ofInt 3) + ((Int32.ofInt 2) * q1.1))), none] [.ref 65, .int (Int32.ofInt 2), .int ((Int32.ofInt 3) + ((Int32.ofInt 2) * q1.1)), .int p0] (hp q1.2) 0 0 _
    obtain ⟨q3, hq3, hf⟩ := bd_some hf
    refine Ev.callV (o := 65) (M' := mi_X10_fieldMany) (d' := d - 1) (As := []) (rest := [.int (Int32.ofInt 2), .int ((Int32.ofInt 3) + ((Int32.ofInt 2) * q1.1)), .int p0]) (r' := (some (.int q3.1), hp q3.2)) (e_X10_fieldMany (d := d - 1) (by omega) q1.2 _ hq3) (by omega) wm_X10_fieldMany wi_X10_fieldMany wv_X10_fieldMany km_10_436 (kc rfl rfl) (Nat.le_of_ble_eq_true rfl) rfl rfl rfl (Nat.le_of_ble_eq_true rfl) ⟨Nat.le_of_ble_eq_true rfl, Nat.le_of_ble_eq_true rfl⟩ (by decide +kernel) ?_
    show Ev l d mi_X10_isImage 23 [some (.ref 65), some (.int p0), some (.int ((Int32.ofInt 3) + ((Int32.ofInt 2) * q1.1))), none] [.int q3.1, .int (Int32.ofInt 2), .int ((Int32.ofInt 3) + ((Int32.ofInt 2) * q1.1)), .int p0] (hp q3.2) 0 0 _
    obtain ⟨v4, hv4, hf⟩ := lt_some hf
    refine Ev.blk (pc' := 27) [(.imul, 0, 0, 0), (.iadd, 0, 0, 0), (.iconst 1, 0, 0, 0), (.iadd, 0, 0, 0)] (by decide +kernel) trivial rfl (?_)
    show Ev l d mi_X10_isImage 27 [some (.ref 65), some (.int p0), some (.int ((Int32.ofInt 3) + ((Int32.ofInt 2) * q1.1))), none] [.int ((((Int32.ofInt 3) + ((Int32.ofInt 2) * q1.1)) + ((Int32.ofInt 2) * q3.1)) + (Int32.ofInt 1)), .int p0] (hp q3.2) 0 0 _
    rw [← hv4]
    refine Ev.icmp_ne (off := 65) (tgt := 92) (by decide +kernel) (by decide) (fun b5 => ?_) (fun b5 => ?_)
    · have hf := (if_neg b5).symm.trans hf
      refine Ev.blk (pc' := 93) [(.iconst 0, 0, 0, 0)] (by decide +kernel) trivial rfl (?_)
      show Ev l d mi_X10_isImage 93 [some (.ref 65), some (.int p0), some (.int ((Int32.ofInt 3) + ((Int32.ofInt 2) * q1.1))), none] [.int (Int32.ofInt 0)] (hp q3.2) 0 0 _
      cases hf
      exact Ev.iret .boolean rfl rfl (by decide +kernel) (Nat.le_refl _) (Nat.le_refl _)
    · have hf := (if_pos b5).symm.trans hf
      obtain ⟨c6, hf⟩ := gd_some hf
      refine Ev.blk (pc' := 45) [(.aload_n 0, 0, 0, 0), (.getfield 7, 0, 10, 0), (.iload_n 1, 0, 0, 0), (.iconst 1, 0, 0, 0), (.isub, 0, 0, 0), (.iaload, 0, 0, 0), (.aload_n 0, 0, 0, 0), (.getfield 7, 0, 10, 0), (.iload_n 1, 0, 0, 0), (.iconst 1, 0, 0, 0), (.isub, 0, 0, 0)] (by decide +kernel) ⟨kf_10_7, ⟨kf_10_7, trivial⟩⟩ rfl (And.intro (kc rfl rfl) (Exists.intro 66 (And.intro rfl (And.intro (kc rfl rfl) (And.intro (ib_ok c6) (And.intro (kc rfl rfl) (Exists.intro 66 (And.intro rfl (?_)))))))))
      show Ev l d mi_X10_isImage 45 [some (.ref 65), some (.int p0), some (.int ((Int32.ofInt 3) + ((Int32.ofInt 2) * q1.1))), none] [.int (p0 - (Int32.ofInt 1)), .ref 66, .int (q3.2.1 66 (p0 - (Int32.ofInt 1)).toNatClampNeg)] (hp q3.2) 0 0 _
      obtain ⟨q7, hq7, hf⟩ := bd_some hf
      refine Ev.callS (M' := mi_X10_checked) (d' := d - 1) (As := [.ref 66, .int (p0 - (Int32.ofInt 1))]) (rest := [.int (q3.2.1 66 (p0 - (Int32.ofInt 1)).toNatClampNeg)]) (r' := (some (.int q7.1), hp q7.2)) (e_X10_checked (d := d - 1) (by omega) 66 (p0 - (Int32.ofInt 1)) q3.2 _ hq7) (by omega) wm_X10_checked wt_X10_checked km_10_777 rfl rfl rfl (Nat.le_of_ble_eq_true rfl) ⟨Nat.le_of_ble_eq_true rfl, Nat.le_of_ble_eq_true rfl⟩ (by decide +kernel) ?_
      show Ev l d mi_X10_isImage 48 [some (.ref 65), some (.int p0), some (.int ((Int32.ofInt 3) + ((Int32.ofInt 2) * q1.1))), none] [.int q7.1, .int (q3.2.1 66 (p0 - (Int32.ofInt 1)).toNatClampNeg)] (hp q7.2) 0 0 _
      refine Ev.icmp_ne (off := 44) (tgt := 92) (by decide +kernel) (by decide) (fun b8 => ?_) (fun b8 => ?_)
      · have hf := (if_neg b8).symm.trans hf
        refine Ev.blk (pc' := 93) [(.iconst 0, 0, 0, 0)] (by decide +kernel) trivial rfl (?_)
        show Ev l d mi_X10_isImage 93 [some (.ref 65), some (.int p0), some (.int ((Int32.ofInt 3) + ((Int32.ofInt 2) * q1.1))), none] [.int (Int32.ofInt 0)] (hp q7.2) 0 0 _
        cases hf
        exact Ev.iret .boolean rfl rfl (by decide +kernel) (Nat.le_refl _) (Nat.le_refl _)
      · have hf := (if_pos b8).symm.trans hf
        obtain ⟨c9, hf⟩ := gd_some hf
        obtain ⟨c10, hf⟩ := gd_some hf
        obtain ⟨v11, hv11, hf⟩ := lt_some hf
        refine Ev.blk (pc' := 71) [(.sipush 256, 0, 0, 0), (.aload_n 0, 0, 0, 0), (.getfield 7, 0, 10, 0), (.iconst 0, 0, 0, 0), (.iaload, 0, 0, 0), (.imul, 0, 0, 0), (.aload_n 0, 0, 0, 0), (.getfield 7, 0, 10, 0), (.iconst 1, 0, 0, 0), (.iaload, 0, 0, 0), (.iadd, 0, 0, 0), (.sipush 999, 0, 0, 0)] (by decide +kernel) ⟨kf_10_7, ⟨kf_10_7, trivial⟩⟩ rfl (And.intro (kc rfl rfl) (Exists.intro 66 (And.intro rfl (And.intro (kc rfl rfl) (And.intro (ib_ok c9) (And.intro (kc rfl rfl) (Exists.intro 66 (And.intro rfl (And.intro (kc rfl rfl) (And.intro (ib_ok c10) (?_)))))))))))
        show Ev l d mi_X10_isImage 71 [some (.ref 65), some (.int p0), some (.int ((Int32.ofInt 3) + ((Int32.ofInt 2) * q1.1))), none] [.int ((Int16.ofInt 999).toInt32), .int ((((Int16.ofInt 256).toInt32) * (q7.2.1 66 (Int32.ofInt 0).toNatClampNeg)) + (q7.2.1 66 (Int32.ofInt 1).toNatClampNeg))] (hp q7.2) 0 0 _
        rw [← hv11]
        refine Ev.icmp_gt (off := 21) (tgt := 92) (by decide +kernel) (by decide) (fun b12 => ?_) (fun b12 => ?_)
        · have hf := (if_pos b12).symm.trans hf
          refine Ev.blk (pc' := 93) [(.iconst 0, 0, 0, 0)] (by decide +kernel) trivial rfl (?_)
          show Ev l d mi_X10_isImage 93 [some (.ref 65), some (.int p0), some (.int ((Int32.ofInt 3) + ((Int32.ofInt 2) * q1.1))), none] [.int (Int32.ofInt 0)] (hp q7.2) 0 0 _
          cases hf
          exact Ev.iret .boolean rfl rfl (by decide +kernel) (Nat.le_refl _) (Nat.le_refl _)
        · have hf := (if_neg b12).symm.trans hf
          obtain ⟨c13, hf⟩ := gd_some hf
          refine Ev.blk (pc' := 81) [(.aload_n 0, 0, 0, 0), (.getfield 7, 0, 10, 0), (.iconst 2, 0, 0, 0), (.iaload, 0, 0, 0), (.iconst 1, 0, 0, 0)] (by decide +kernel) ⟨kf_10_7, trivial⟩ rfl (And.intro (kc rfl rfl) (Exists.intro 66 (And.intro rfl (And.intro (kc rfl rfl) (And.intro (ib_ok c13) (?_))))))
          show Ev l d mi_X10_isImage 81 [some (.ref 65), some (.int p0), some (.int ((Int32.ofInt 3) + ((Int32.ofInt 2) * q1.1))), none] [.int (Int32.ofInt 1), .int (q7.2.1 66 (Int32.ofInt 2).toNatClampNeg)] (hp q7.2) 0 0 _
          refine Ev.icmp_gt (off := 11) (tgt := 92) (by decide +kernel) (by decide) (fun b14 => ?_) (fun b14 => ?_)
          · have hf := (if_pos b14).symm.trans hf
            refine Ev.blk (pc' := 93) [(.iconst 0, 0, 0, 0)] (by decide +kernel) trivial rfl (?_)
            show Ev l d mi_X10_isImage 93 [some (.ref 65), some (.int p0), some (.int ((Int32.ofInt 3) + ((Int32.ofInt 2) * q1.1))), none] [.int (Int32.ofInt 0)] (hp q7.2) 0 0 _
            cases hf
            exact Ev.iret .boolean rfl rfl (by decide +kernel) (Nat.le_refl _) (Nat.le_refl _)
          · have hf := (if_neg b14).symm.trans hf
            refine Ev.blk (pc' := 86) [(.aload_n 0, 0, 0, 0), (.iconst 3, 0, 0, 0)] (by decide +kernel) trivial rfl (?_)
            show Ev l d mi_X10_isImage 86 [some (.ref 65), some (.int p0), some (.int ((Int32.ofInt 3) + ((Int32.ofInt 2) * q1.1))), none] [.int (Int32.ofInt 3), .ref 65] (hp q7.2) 0 0 _
            obtain ⟨q15, hq15, hf⟩ := bd_some hf
            refine Ev.callV (o := 65) (M' := mi_X10_areMen) (d' := d - 1) (As := [.int (Int32.ofInt 3)]) (rest := []) (r' := (some (.int q15.1), hp q15.2)) (e_X10_areMen (d := d - 1) (by omega) (Int32.ofInt 3) q7.2 _ hq15) (by omega) wm_X10_areMen wi_X10_areMen wv_X10_areMen km_10_654 (kc rfl rfl) (Nat.le_of_ble_eq_true rfl) rfl rfl rfl (Nat.le_of_ble_eq_true rfl) ⟨Nat.le_of_ble_eq_true rfl, Nat.le_of_ble_eq_true rfl⟩ (by decide +kernel) ?_
            show Ev l d mi_X10_isImage 89 [some (.ref 65), some (.int p0), some (.int ((Int32.ofInt 3) + ((Int32.ofInt 2) * q1.1))), none] [.int q15.1] (hp q15.2) 0 0 _
            refine Ev.if_ne (off := 5) (tgt := 94) (by decide +kernel) (by decide) (fun b16 => ?_) (fun b16 => ?_)
            · have hf := (if_neg b16).symm.trans hf
              refine Ev.blk (pc' := 96) [(.iconst 0, 0, 0, 0), (.istore_n 3, 0, 0, 0)] (by decide +kernel) trivial rfl (And.intro (Nat.le_of_ble_eq_true rfl) (?_))
              show Ev l d mi_X10_isImage 96 [some (.ref 65), some (.int p0), some (.int ((Int32.ofInt 3) + ((Int32.ofInt 2) * q1.1))), some (.int (Int32.ofInt 0))] [] (hp q15.2) 0 0 _
              exact Ev.wk ((e_X10_isImage_L96 hd fuel) ((Int32.ofInt 3) + ((Int32.ofInt 2) * q1.1)) (Int32.ofInt 0) q15.2 _ hf) (And.intro (Or.inr rfl) (And.intro (Or.inl rfl) (And.intro (Or.inr rfl) (And.intro (Or.inr rfl) (trivial)))))
            · have hf := (if_pos b16).symm.trans hf
              refine Ev.blk (pc' := 93) [(.iconst 0, 0, 0, 0)] (by decide +kernel) trivial rfl (?_)
              show Ev l d mi_X10_isImage 93 [some (.ref 65), some (.int p0), some (.int ((Int32.ofInt 3) + ((Int32.ofInt 2) * q1.1))), none] [.int (Int32.ofInt 0)] (hp q15.2) 0 0 _
              cases hf
              exact Ev.iret .boolean rfl rfl (by decide +kernel) (Nat.le_refl _) (Nat.le_refl _)
def f_X10_on_j110 (k67 : Int32 → ST → Option (Int32 × ST)) (x2 : Int32) (y1 : Int32) (y2 : Int32) (s : ST) : Option (Int32 × ST) := gd (ib y1 225) (lt (uI s 112 y1.toNatClampNeg y2) (fun s19 => k67 (x2 + Int32.ofInt 1) s19))
set_option maxHeartbeats 2000000 in
set_option maxRecDepth 20000 in
theorem e_X10_on_j110 {l : Launch} {d : Nat} (hd : 4 ≤ d) (k67 : Int32 → ST → Option (Int32 × ST)) (hk67 : ∀ (x2 : Int32) (s : ST) (r : Int32 × ST), k67 x2 s = some r → Ev l d mi_X10_on 67 [some (.ref 65), none, some (.int x2), none] [] (hp s) 0 0 (some (.int r.1), hp r.2)) (x2 : Int32) (y1 : Int32) (y2 : Int32) (s : ST) (r : Int32 × ST) (hf : f_X10_on_j110 k67 x2 y1 y2 s = some r) : Ev l d mi_X10_on 110 [some (.ref 65), none, some (.int x2), none] [.int y2, .int y1, .ref 112] (hp s) 0 0 (some (.int r.1), hp r.2) := by
  unfold f_X10_on_j110 at hf
  obtain ⟨c18, hf⟩ := gd_some hf
  obtain ⟨s19, hs19, hf⟩ := lt_some hf
  refine Ev.blk (pc' := 114) [(.iastore, 0, 0, 0), (.iinc 2 1, 0, 0, 0)] (by decide +kernel) trivial rfl (And.intro (kc rfl rfl) (And.intro (ib_ok c18) (And.intro (Nat.le_of_ble_eq_true rfl) (?_))))
  show Ev l d mi_X10_on 114 [some (.ref 65), none, some (.int (x2 + Int32.ofInt 1)), none] [] (hp (uI s 112 y1.toNatClampNeg y2)) 0 0 _
  rw [← hs19]
  refine Ev.goto (off := -47) (tgt := 67) (by decide +kernel) (by decide) ?_
  exact hk67 (x2 + Int32.ofInt 1) s19 _ hf
def f_X10_on_L67 (k117 : ST → Option (Int32 × ST)) : Nat → Int32 → ST → Option (Int32 × ST)
  | 0, _, _ => none
  | n + 1, x2, s => (f_X10_manMany s).bind (fun q13 => (if ((Int32.ofInt 2) * q13.1) ≤ x2 then k117 q13.2 else gd (ib ((Int32.ofInt 3) + x2) 1600) ((if (q13.2.1 66 ((Int32.ofInt 3) + x2).toNatClampNeg) = ((Int16.ofInt 255).toInt32) then (f_X10_on_j110 (f_X10_on_L67 k117 n)) x2 ((Int32.ofInt 2) + x2) (Int32.ofInt (-1)) q13.2 else gd (ib ((Int32.ofInt 3) + x2) 1600) ((f_X10_on_j110 (f_X10_on_L67 k117 n)) x2 ((Int32.ofInt 2) + x2) (q13.2.1 66 ((Int32.ofInt 3) + x2).toNatClampNeg) q13.2)))))
set_option maxHeartbeats 2000000 in
set_option maxRecDepth 20000 in
theorem e_X10_on_L67 {l : Launch} {d : Nat} (hd : 4 ≤ d) (k117 : ST → Option (Int32 × ST)) (hk117 : ∀ (s : ST) (r : Int32 × ST), k117 s = some r → Ev l d mi_X10_on 117 [some (.ref 65), none, none, none] [] (hp s) 0 0 (some (.int r.1), hp r.2)) : ∀ (n : Nat) (x2 : Int32) (s : ST) (r : Int32 × ST), f_X10_on_L67 k117 n x2 s = some r → Ev l d mi_X10_on 67 [some (.ref 65), none, some (.int x2), none] [] (hp s) 0 0 (some (.int r.1), hp r.2) := by
  intro n
  induction n with
  | zero =>
    intro x2 s r hf
    cases hf
  | succ n ih =>
    intro x2 s r hf
    unfold f_X10_on_L67 at hf
    refine Ev.blk (pc' := 70) [(.iload_n 2, 0, 0, 0), (.iconst 2, 0, 0, 0), (.aload_n 0, 0, 0, 0)] (by decide +kernel) trivial rfl (?_)
    show Ev l d mi_X10_on 70 [some (.ref 65), none, some (.int x2), none] [.ref 65, .int (Int32.ofInt 2), .int x2] (hp s) 0 0 _
    obtain ⟨q13, hq13, hf⟩ := bd_some hf
    refine Ev.callV (o := 65) (M' := mi_X10_manMany) (d' := d - 1) (As := []) (rest := [.int (Int32.ofInt 2), .int x2]) (r' := (some (.int q13.1), hp q13.2)) (e_X10_manMany (d := d - 1) (by omega) s _ hq13) (by omega) wm_X10_manMany wi_X10_manMany wv_X10_manMany km_10_433 (kc rfl rfl) (Nat.le_of_ble_eq_true rfl) rfl rfl rfl (Nat.le_of_ble_eq_true rfl) ⟨Nat.le_of_ble_eq_true rfl, Nat.le_of_ble_eq_true rfl⟩ (by decide +kernel) ?_
    show Ev l d mi_X10_on 73 [some (.ref 65), none, some (.int x2), none] [.int q13.1, .int (Int32.ofInt 2), .int x2] (hp q13.2) 0 0 _
    refine Ev.blk (pc' := 74) [(.imul, 0, 0, 0)] (by decide +kernel) trivial rfl (?_)
    show Ev l d mi_X10_on 74 [some (.ref 65), none, some (.int x2), none] [.int ((Int32.ofInt 2) * q13.1), .int x2] (hp q13.2) 0 0 _
    refine Ev.icmp_ge (off := 43) (tgt := 117) (by decide +kernel) (by decide) (fun b14 => ?_) (fun b14 => ?_)
    · have hf := (if_pos b14).symm.trans hf
      exact Ev.wk (hk117 q13.2 _ hf) (And.intro (Or.inr rfl) (And.intro (Or.inr rfl) (And.intro (Or.inl rfl) (And.intro (Or.inr rfl) (trivial)))))
    · have hf := (if_neg b14).symm.trans hf
      obtain ⟨c15, hf⟩ := gd_some hf
      refine Ev.blk (pc' := 95) [(.aload_n 0, 0, 0, 0), (.getfield 154, 0, 10, 62), (.iconst 2, 0, 0, 0), (.iload_n 2, 0, 0, 0), (.iadd, 0, 0, 0), (.aload_n 0, 0, 0, 0), (.getfield 7, 0, 10, 0), (.iconst 3, 0, 0, 0), (.iload_n 2, 0, 0, 0), (.iadd, 0, 0, 0), (.iaload, 0, 0, 0), (.sipush 255, 0, 0, 0)] (by decide +kernel) ⟨kf_10_154, ⟨kf_10_7, trivial⟩⟩ rfl (And.intro (kc rfl rfl) (Exists.intro 112 (And.intro rfl (And.intro (kc rfl rfl) (Exists.intro 66 (And.intro rfl (And.intro (kc rfl rfl) (And.intro (ib_ok c15) (?_)))))))))
      show Ev l d mi_X10_on 95 [some (.ref 65), none, some (.int x2), none] [.int ((Int16.ofInt 255).toInt32), .int (q13.2.1 66 ((Int32.ofInt 3) + x2).toNatClampNeg), .int ((Int32.ofInt 2) + x2), .ref 112] (hp q13.2) 0 0 _
      refine Ev.icmp_ne (off := 7) (tgt := 102) (by decide +kernel) (by decide) (fun b16 => ?_) (fun b16 => ?_)
      · have hf := (if_neg b16).symm.trans hf
        obtain ⟨c17, hf⟩ := gd_some hf
        refine Ev.blk (pc' := 110) [(.aload_n 0, 0, 0, 0), (.getfield 7, 0, 10, 0), (.iconst 3, 0, 0, 0), (.iload_n 2, 0, 0, 0), (.iadd, 0, 0, 0), (.iaload, 0, 0, 0)] (by decide +kernel) ⟨kf_10_7, trivial⟩ rfl (And.intro (kc rfl rfl) (Exists.intro 66 (And.intro rfl (And.intro (kc rfl rfl) (And.intro (ib_ok c17) (?_))))))
        show Ev l d mi_X10_on 110 [some (.ref 65), none, some (.int x2), none] [.int (q13.2.1 66 ((Int32.ofInt 3) + x2).toNatClampNeg), .int ((Int32.ofInt 2) + x2), .ref 112] (hp q13.2) 0 0 _
        exact (e_X10_on_j110 hd (f_X10_on_L67 k117 n) ih) x2 ((Int32.ofInt 2) + x2) (q13.2.1 66 ((Int32.ofInt 3) + x2).toNatClampNeg) q13.2 _ hf
      · have hf := (if_pos b16).symm.trans hf
        refine Ev.blk (pc' := 99) [(.iconst (-1), 0, 0, 0)] (by decide +kernel) trivial rfl (?_)
        show Ev l d mi_X10_on 99 [some (.ref 65), none, some (.int x2), none] [.int (Int32.ofInt (-1)), .int ((Int32.ofInt 2) + x2), .ref 112] (hp q13.2) 0 0 _
        refine Ev.goto (off := 11) (tgt := 110) (by decide +kernel) (by decide) ?_
        exact (e_X10_on_j110 hd (f_X10_on_L67 k117 n) ih) x2 ((Int32.ofInt 2) + x2) (Int32.ofInt (-1)) q13.2 _ hf
def f_X10_on_L128 (k178 : ST → Option (Int32 × ST)) : Nat → Int32 → Int32 → ST → Option (Int32 × ST)
  | 0, _, _, _ => none
  | n + 1, x2, x3, s => (f_X10_fieldMany s).bind (fun q21 => (if q21.1 ≤ x3 then k178 q21.2 else gd (ib (x2 + ((Int32.ofInt 2) * x3)) 1600) (gd (ib ((x2 + ((Int32.ofInt 2) * x3)) + (Int32.ofInt 1)) 1600) (gd (ib (((Int8.ofInt 18).toInt32) + x3) 225) (lt (uI q21.2 112 (((Int8.ofInt 18).toInt32) + x3).toNatClampNeg ((((Int16.ofInt 256).toInt32) * (q21.2.1 66 (x2 + ((Int32.ofInt 2) * x3)).toNatClampNeg)) + (q21.2.1 66 ((x2 + ((Int32.ofInt 2) * x3)) + (Int32.ofInt 1)).toNatClampNeg))) (fun s26 => (f_X10_on_L128 k178 n) x2 (x3 + Int32.ofInt 1) s26))))))
set_option maxHeartbeats 2000000 in
set_option maxRecDepth 20000 in
theorem e_X10_on_L128 {l : Launch} {d : Nat} (hd : 4 ≤ d) (k178 : ST → Option (Int32 × ST)) (hk178 : ∀ (s : ST) (r : Int32 × ST), k178 s = some r → Ev l d mi_X10_on 178 [some (.ref 65), none, none, none] [] (hp s) 0 0 (some (.int r.1), hp r.2)) : ∀ (n : Nat) (x2 : Int32) (x3 : Int32) (s : ST) (r : Int32 × ST), f_X10_on_L128 k178 n x2 x3 s = some r → Ev l d mi_X10_on 128 [some (.ref 65), none, some (.int x2), some (.int x3)] [] (hp s) 0 0 (some (.int r.1), hp r.2) := by
  intro n
  induction n with
  | zero =>
    intro x2 x3 s r hf
    cases hf
  | succ n ih =>
    intro x2 x3 s r hf
    unfold f_X10_on_L128 at hf
    refine Ev.blk (pc' := 130) [(.iload_n 3, 0, 0, 0), (.aload_n 0, 0, 0, 0)] (by decide +kernel) trivial rfl (?_)
    show Ev l d mi_X10_on 130 [some (.ref 65), none, some (.int x2), some (.int x3)] [.ref 65, .int x3] (hp s) 0 0 _
    obtain ⟨q21, hq21, hf⟩ := bd_some hf
    refine Ev.callV (o := 65) (M' := mi_X10_fieldMany) (d' := d - 1) (As := []) (rest := [.int x3]) (r' := (some (.int q21.1), hp q21.2)) (e_X10_fieldMany (d := d - 1) (by omega) s _ hq21) (by omega) wm_X10_fieldMany wi_X10_fieldMany wv_X10_fieldMany km_10_436 (kc rfl rfl) (Nat.le_of_ble_eq_true rfl) rfl rfl rfl (Nat.le_of_ble_eq_true rfl) ⟨Nat.le_of_ble_eq_true rfl, Nat.le_of_ble_eq_true rfl⟩ (by decide +kernel) ?_
    show Ev l d mi_X10_on 133 [some (.ref 65), none, some (.int x2), some (.int x3)] [.int q21.1, .int x3] (hp q21.2) 0 0 _
    refine Ev.icmp_ge (off := 45) (tgt := 178) (by decide +kernel) (by decide) (fun b22 => ?_) (fun b22 => ?_)
    · have hf := (if_pos b22).symm.trans hf
      exact Ev.wk (hk178 q21.2 _ hf) (And.intro (Or.inr rfl) (And.intro (Or.inr rfl) (And.intro (Or.inl rfl) (And.intro (Or.inl rfl) (trivial)))))
    · have hf := (if_neg b22).symm.trans hf
      obtain ⟨c23, hf⟩ := gd_some hf
      obtain ⟨c24, hf⟩ := gd_some hf
      obtain ⟨c25, hf⟩ := gd_some hf
      obtain ⟨s26, hs26, hf⟩ := lt_some hf
      refine Ev.blk (pc' := 175) [(.aload_n 0, 0, 0, 0), (.getfield 154, 0, 10, 62), (.bipush 18, 0, 0, 0), (.iload_n 3, 0, 0, 0), (.iadd, 0, 0, 0), (.sipush 256, 0, 0, 0), (.aload_n 0, 0, 0, 0), (.getfield 7, 0, 10, 0), (.iload_n 2, 0, 0, 0), (.iconst 2, 0, 0, 0), (.iload_n 3, 0, 0, 0), (.imul, 0, 0, 0), (.iadd, 0, 0, 0), (.iaload, 0, 0, 0), (.imul, 0, 0, 0), (.aload_n 0, 0, 0, 0), (.getfield 7, 0, 10, 0), (.iload_n 2, 0, 0, 0), (.iconst 2, 0, 0, 0), (.iload_n 3, 0, 0, 0), (.imul, 0, 0, 0), (.iadd, 0, 0, 0), (.iconst 1, 0, 0, 0), (.iadd, 0, 0, 0), (.iaload, 0, 0, 0), (.iadd, 0, 0, 0), (.iastore, 0, 0, 0), (.iinc 3 1, 0, 0, 0)] (by decide +kernel) ⟨kf_10_154, ⟨kf_10_7, ⟨kf_10_7, trivial⟩⟩⟩ rfl (And.intro (kc rfl rfl) (Exists.intro 112 (And.intro rfl (And.intro (kc rfl rfl) (Exists.intro 66 (And.intro rfl (And.intro (kc rfl rfl) (And.intro (ib_ok c23) (And.intro (kc rfl rfl) (Exists.intro 66 (And.intro rfl (And.intro (kc rfl rfl) (And.intro (ib_ok c24) (And.intro (kc rfl rfl) (And.intro (ib_ok c25) (And.intro (Nat.le_of_ble_eq_true rfl) (?_)))))))))))))))))
      show Ev l d mi_X10_on 175 [some (.ref 65), none, some (.int x2), some (.int (x3 + Int32.ofInt 1))] [] (hp (uI q21.2 112 (((Int8.ofInt 18).toInt32) + x3).toNatClampNeg ((((Int16.ofInt 256).toInt32) * (q21.2.1 66 (x2 + ((Int32.ofInt 2) * x3)).toNatClampNeg)) + (q21.2.1 66 ((x2 + ((Int32.ofInt 2) * x3)) + (Int32.ofInt 1)).toNatClampNeg)))) 0 0 _
      rw [← hs26]
      refine Ev.goto (off := -47) (tgt := 128) (by decide +kernel) (by decide) ?_
      exact ih x2 (x3 + Int32.ofInt 1) s26 _ hf
def f_X10_on_j178 (s : ST) : Option (Int32 × ST) := gd (ib ((Int8.ofInt 24).toInt32) 225) (lt (uI (uI s 112 ((Int8.ofInt 24).toInt32).toNatClampNeg (Int32.ofInt 0)) 65 84 (Int32.ofInt 0)) (fun s28 => some ((Int32.ofInt 1), s28)))
set_option maxHeartbeats 2000000 in
set_option maxRecDepth 20000 in
theorem e_X10_on_j178 {l : Launch} {d : Nat} (hd : 4 ≤ d) (s : ST) (r : Int32 × ST) (hf : f_X10_on_j178 s = some r) : Ev l d mi_X10_on 178 [some (.ref 65), none, none, none] [] (hp s) 0 0 (some (.int r.1), hp r.2) := by
  unfold f_X10_on_j178 at hf
  obtain ⟨c27, hf⟩ := gd_some hf
  obtain ⟨s28, hs28, hf⟩ := lt_some hf
  refine Ev.blk (pc' := 192) [(.aload_n 0, 0, 0, 0), (.getfield 154, 0, 10, 62), (.bipush 24, 0, 0, 0), (.iconst 0, 0, 0, 0), (.iastore, 0, 0, 0), (.aload_n 0, 0, 0, 0), (.iconst 0, 0, 0, 0), (.putfield 427, 0, 10, 84), (.iconst 1, 0, 0, 0)] (by decide +kernel) ⟨kf_10_154, ⟨⟨kf_10_427, Or.inl rfl⟩, trivial⟩⟩ rfl (And.intro (kc rfl rfl) (Exists.intro 112 (And.intro rfl (And.intro (kc rfl rfl) (And.intro (ib_ok c27) (And.intro (kc rfl rfl) (?_)))))))
  show Ev l d mi_X10_on 192 [some (.ref 65), none, none, none] [.int (Int32.ofInt 1)] (hp (uI (uI s 112 ((Int8.ofInt 24).toInt32).toNatClampNeg (Int32.ofInt 0)) 65 84 (Int32.ofInt 0))) 0 0 _
  rw [← hs28]
  cases hf
  exact Ev.iret .boolean rfl rfl (by decide +kernel) (Nat.le_refl _) (Nat.le_refl _)
def f_X10_on_j117 (s : ST) : Option (Int32 × ST) := (f_X10_manMany s).bind (fun q20 => (f_X10_on_L128 f_X10_on_j178 fuel) ((Int32.ofInt 3) + ((Int32.ofInt 2) * q20.1)) (Int32.ofInt 0) q20.2)
set_option maxHeartbeats 2000000 in
set_option maxRecDepth 20000 in
theorem e_X10_on_j117 {l : Launch} {d : Nat} (hd : 4 ≤ d) (s : ST) (r : Int32 × ST) (hf : f_X10_on_j117 s = some r) : Ev l d mi_X10_on 117 [some (.ref 65), none, none, none] [] (hp s) 0 0 (some (.int r.1), hp r.2) := by
  unfold f_X10_on_j117 at hf
  refine Ev.blk (pc' := 120) [(.iconst 3, 0, 0, 0), (.iconst 2, 0, 0, 0), (.aload_n 0, 0, 0, 0)] (by decide +kernel) trivial rfl (?_)
  show Ev l d mi_X10_on 120 [some (.ref 65), none, none, none] [.ref 65, .int (Int32.ofInt 2), .int (Int32.ofInt 3)] (hp s) 0 0 _
  obtain ⟨q20, hq20, hf⟩ := bd_some hf
  refine Ev.callV (o := 65) (M' := mi_X10_manMany) (d' := d - 1) (As := []) (rest := [.int (Int32.ofInt 2), .int (Int32.ofInt 3)]) (r' := (some (.int q20.1), hp q20.2)) (e_X10_manMany (d := d - 1) (by omega) s _ hq20) (by omega) wm_X10_manMany wi_X10_manMany wv_X10_manMany km_10_433 (kc rfl rfl) (Nat.le_of_ble_eq_true rfl) rfl rfl rfl (Nat.le_of_ble_eq_true rfl) ⟨Nat.le_of_ble_eq_true rfl, Nat.le_of_ble_eq_true rfl⟩ (by decide +kernel) ?_
  show Ev l d mi_X10_on 123 [some (.ref 65), none, none, none] [.int q20.1, .int (Int32.ofInt 2), .int (Int32.ofInt 3)] (hp q20.2) 0 0 _
  refine Ev.blk (pc' := 128) [(.imul, 0, 0, 0), (.iadd, 0, 0, 0), (.istore_n 2, 0, 0, 0), (.iconst 0, 0, 0, 0), (.istore_n 3, 0, 0, 0)] (by decide +kernel) trivial rfl (And.intro (Nat.le_of_ble_eq_true rfl) (And.intro (Nat.le_of_ble_eq_true rfl) (?_)))
  show Ev l d mi_X10_on 128 [some (.ref 65), none, some (.int ((Int32.ofInt 3) + ((Int32.ofInt 2) * q20.1))), some (.int (Int32.ofInt 0))] [] (hp q20.2) 0 0 _
  exact (e_X10_on_L128 hd f_X10_on_j178 (e_X10_on_j178 hd) fuel) ((Int32.ofInt 3) + ((Int32.ofInt 2) * q20.1)) (Int32.ofInt 0) q20.2 _ hf
def f_X10_on (s : ST) : Option (Int32 × ST) := lt (uI s 65 1 (Int32.ofInt 0)) (fun s1 => (f_X10_isImage (s.1 65 1) s1).bind (fun q2 => (if q2.1 = 0 then gd (ib (Int32.ofInt 5) 6) (gd (ib (Int32.ofInt 5) 6) (lt (uI q2.2 67 (Int32.ofInt 5).toNatClampNeg ((q2.2.1 67 (Int32.ofInt 5).toNatClampNeg) + (Int32.ofInt 1))) (fun s12 => some ((Int32.ofInt 0), s12)))) else gd (ib (Int32.ofInt 0) 1600) (gd (ib (Int32.ofInt 1) 1600) (gd (ib (Int32.ofInt 0) 225) (gd (ib (Int32.ofInt 2) 1600) (gd (ib (Int32.ofInt 1) 225) (lt (uI (uI q2.2 112 (Int32.ofInt 0).toNatClampNeg ((((Int16.ofInt 256).toInt32) * (q2.2.1 66 (Int32.ofInt 0).toNatClampNeg)) + (q2.2.1 66 (Int32.ofInt 1).toNatClampNeg))) 112 (Int32.ofInt 1).toNatClampNeg ((uI q2.2 112 (Int32.ofInt 0).toNatClampNeg ((((Int16.ofInt 256).toInt32) * (q2.2.1 66 (Int32.ofInt 0).toNatClampNeg)) + (q2.2.1 66 (Int32.ofInt 1).toNatClampNeg))).1 66 (Int32.ofInt 2).toNatClampNeg)) (fun s9 => (f_X10_on_L67 f_X10_on_j117 fuel) (Int32.ofInt 0) s9)))))))))
set_option maxHeartbeats 2000000 in
set_option maxRecDepth 20000 in
theorem e_X10_on {l : Launch} {d : Nat} (hd : 4 ≤ d) (s : ST) (r : Int32 × ST) (hf : f_X10_on s = some r) : Cl l d mi_X10_on [.ref 65] (hp s) (some (.int r.1), hp r.2) := by
  refine Ev.entry (by decide +kernel) rfl rfl ?_
  show Ev l d mi_X10_on 0 [some (.ref 65), none, none, none] [] (hp s) 0 0 _
  unfold f_X10_on at hf
  obtain ⟨s1, hs1, hf⟩ := lt_some hf
  refine Ev.blk (pc' := 12) [(.aload_n 0, 0, 0, 0), (.getfield 275, 0, 10, 1), (.istore_n 1, 0, 0, 0), (.aload_n 0, 0, 0, 0), (.iconst 0, 0, 0, 0), (.putfield 275, 0, 10, 1), (.aload_n 0, 0, 0, 0), (.iload_n 1, 0, 0, 0)] (by decide +kernel) ⟨kf_10_275, ⟨⟨kf_10_275, Or.inl rfl⟩, trivial⟩⟩ rfl (And.intro (kc rfl rfl) (And.intro (Nat.le_of_ble_eq_true rfl) (And.intro (kc rfl rfl) (?_))))
  show Ev l d mi_X10_on 12 [some (.ref 65), some (.int (s.1 65 1)), none, none] [.int (s.1 65 1), .ref 65] (hp (uI s 65 1 (Int32.ofInt 0))) 0 0 _
  rw [← hs1]
  obtain ⟨q2, hq2, hf⟩ := bd_some hf
  refine Ev.callV (o := 65) (M' := mi_X10_isImage) (d' := d - 1) (As := [.int (s.1 65 1)]) (rest := []) (r' := (some (.int q2.1), hp q2.2)) (e_X10_isImage (d := d - 1) (by omega) (s.1 65 1) s1 _ hq2) (by omega) wm_X10_isImage wi_X10_isImage wv_X10_isImage km_10_781 (kc rfl rfl) (Nat.le_of_ble_eq_true rfl) rfl rfl rfl (Nat.le_of_ble_eq_true rfl) ⟨Nat.le_of_ble_eq_true rfl, Nat.le_of_ble_eq_true rfl⟩ (by decide +kernel) ?_
  show Ev l d mi_X10_on 15 [some (.ref 65), some (.int (s.1 65 1)), none, none] [.int q2.1] (hp q2.2) 0 0 _
  refine Ev.if_ne (off := 15) (tgt := 30) (by decide +kernel) (by decide) (fun b3 => ?_) (fun b3 => ?_)
  · have hf := (if_neg b3).symm.trans hf
    obtain ⟨c4, hf⟩ := gd_some hf
    obtain ⟨c5, hf⟩ := gd_some hf
    obtain ⟨c6, hf⟩ := gd_some hf
    obtain ⟨c7, hf⟩ := gd_some hf
    obtain ⟨c8, hf⟩ := gd_some hf
    obtain ⟨s9, hs9, hf⟩ := lt_some hf
    refine Ev.blk (pc' := 67) [(.aload_n 0, 0, 0, 0), (.getfield 154, 0, 10, 62), (.iconst 0, 0, 0, 0), (.sipush 256, 0, 0, 0), (.aload_n 0, 0, 0, 0), (.getfield 7, 0, 10, 0), (.iconst 0, 0, 0, 0), (.iaload, 0, 0, 0), (.imul, 0, 0, 0), (.aload_n 0, 0, 0, 0), (.getfield 7, 0, 10, 0), (.iconst 1, 0, 0, 0), (.iaload, 0, 0, 0), (.iadd, 0, 0, 0), (.iastore, 0, 0, 0), (.aload_n 0, 0, 0, 0), (.getfield 154, 0, 10, 62), (.iconst 1, 0, 0, 0), (.aload_n 0, 0, 0, 0), (.getfield 7, 0, 10, 0), (.iconst 2, 0, 0, 0), (.iaload, 0, 0, 0), (.iastore, 0, 0, 0), (.iconst 0, 0, 0, 0), (.istore_n 2, 0, 0, 0)] (by decide +kernel) ⟨kf_10_154, ⟨kf_10_7, ⟨kf_10_7, ⟨kf_10_154, ⟨kf_10_7, trivial⟩⟩⟩⟩⟩ rfl (And.intro (kc rfl rfl) (Exists.intro 112 (And.intro rfl (And.intro (kc rfl rfl) (Exists.intro 66 (And.intro rfl (And.intro (kc rfl rfl) (And.intro (ib_ok c4) (And.intro (kc rfl rfl) (Exists.intro 66 (And.intro rfl (And.intro (kc rfl rfl) (And.intro (ib_ok c5) (And.intro (kc rfl rfl) (And.intro (ib_ok c6) (And.intro (kc rfl rfl) (Exists.intro 112 (And.intro rfl (And.intro (kc rfl rfl) (Exists.intro 66 (And.intro rfl (And.intro (kc rfl rfl) (And.intro (ib_ok c7) (And.intro (kc rfl rfl) (And.intro (ib_ok c8) (And.intro (Nat.le_of_ble_eq_true rfl) (?_)))))))))))))))))))))))))))
    show Ev l d mi_X10_on 67 [some (.ref 65), some (.int (s.1 65 1)), some (.int (Int32.ofInt 0)), none] [] (hp (uI (uI q2.2 112 (Int32.ofInt 0).toNatClampNeg ((((Int16.ofInt 256).toInt32) * (q2.2.1 66 (Int32.ofInt 0).toNatClampNeg)) + (q2.2.1 66 (Int32.ofInt 1).toNatClampNeg))) 112 (Int32.ofInt 1).toNatClampNeg ((uI q2.2 112 (Int32.ofInt 0).toNatClampNeg ((((Int16.ofInt 256).toInt32) * (q2.2.1 66 (Int32.ofInt 0).toNatClampNeg)) + (q2.2.1 66 (Int32.ofInt 1).toNatClampNeg))).1 66 (Int32.ofInt 2).toNatClampNeg))) 0 0 _
    rw [← hs9]
    exact Ev.wk ((e_X10_on_L67 hd f_X10_on_j117 (e_X10_on_j117 hd) fuel) (Int32.ofInt 0) s9 _ hf) (And.intro (Or.inr rfl) (And.intro (Or.inl rfl) (And.intro (Or.inr rfl) (And.intro (Or.inr rfl) (trivial)))))
  · have hf := (if_pos b3).symm.trans hf
    obtain ⟨c10, hf⟩ := gd_some hf
    obtain ⟨c11, hf⟩ := gd_some hf
    obtain ⟨s12, hs12, hf⟩ := lt_some hf
    refine Ev.blk (pc' := 29) [(.aload_n 0, 0, 0, 0), (.getfield 17, 0, 10, 9), (.iconst 5, 0, 0, 0), (.dup2, 0, 0, 0), (.iaload, 0, 0, 0), (.iconst 1, 0, 0, 0), (.iadd, 0, 0, 0), (.iastore, 0, 0, 0), (.iconst 0, 0, 0, 0)] (by decide +kernel) ⟨kf_10_17, trivial⟩ rfl (And.intro (kc rfl rfl) (Exists.intro 67 (And.intro rfl (And.intro (And.intro rfl rfl) (And.intro (kc rfl rfl) (And.intro (ib_ok c10) (And.intro (kc rfl rfl) (And.intro (ib_ok c11) (?_)))))))))
    show Ev l d mi_X10_on 29 [some (.ref 65), some (.int (s.1 65 1)), none, none] [.int (Int32.ofInt 0)] (hp (uI q2.2 67 (Int32.ofInt 5).toNatClampNeg ((q2.2.1 67 (Int32.ofInt 5).toNatClampNeg) + (Int32.ofInt 1)))) 0 0 _
    rw [← hs12]
    cases hf
    exact Ev.iret .boolean rfl rfl (by decide +kernel) (Nat.le_refl _) (Nat.le_refl _)
def f_X10_status (p0 : Int32) (s : ST) : Option (Int32 × ST) := (f_X10_isIn ((p0).toInt64) (Int64.ofNat ((0 : Fin 2) : Nat)) (Int64.ofInt 5) s).bind (fun q1 => (if q1.1 = 0 then some ((Int32.ofInt (-1)), q1.2) else gd (ib p0 6) (some ((q1.2.1 67 p0.toNatClampNeg), q1.2))))
set_option maxHeartbeats 2000000 in
set_option maxRecDepth 20000 in
theorem e_X10_status {l : Launch} {d : Nat} (hd : 2 ≤ d) (p0 : Int32) (s : ST) (r : Int32 × ST) (hf : f_X10_status p0 s = some r) : Cl l d mi_X10_status [.ref 65, .int p0] (hp s) (some (.int r.1), hp r.2) := by
  refine Ev.entry (by decide +kernel) rfl rfl ?_
  show Ev l d mi_X10_status 0 [some (.ref 65), some (.int p0)] [] (hp s) 0 0 _
  unfold f_X10_status at hf
  refine Ev.blk (pc' := 6) [(.iload_n 1, 0, 0, 0), (.i2l, 0, 0, 0), (.lconst 0, 0, 0, 0), (.ldc2_w 595, 5, 0, 0)] (by decide +kernel) ⟨kl_10_595, trivial⟩ rfl (?_)
  show Ev l d mi_X10_status 6 [some (.ref 65), some (.int p0)] [.long (Int64.ofInt 5), .long (Int64.ofNat ((0 : Fin 2) : Nat)), .long (p0).toInt64] (hp s) 0 0 _
  obtain ⟨q1, hq1, hf⟩ := bd_some hf
  refine Ev.callS (M' := mi_X10_isIn) (d' := d - 1) (As := [.long (p0).toInt64, .long (Int64.ofNat ((0 : Fin 2) : Nat)), .long (Int64.ofInt 5)]) (rest := []) (r' := (some (.int q1.1), hp q1.2)) (e_X10_isIn (d := d - 1) (by omega) ((p0).toInt64) (Int64.ofNat ((0 : Fin 2) : Nat)) (Int64.ofInt 5) s _ hq1) (by omega) wm_X10_isIn wt_X10_isIn km_10_321 rfl rfl rfl (Nat.le_of_ble_eq_true rfl) ⟨Nat.le_of_ble_eq_true rfl, Nat.le_of_ble_eq_true rfl⟩ (by decide +kernel) ?_
  show Ev l d mi_X10_status 9 [some (.ref 65), some (.int p0)] [.int q1.1] (hp q1.2) 0 0 _
  refine Ev.if_eq (off := 12) (tgt := 21) (by decide +kernel) (by decide) (fun b2 => ?_) (fun b2 => ?_)
  · have hf := (if_pos b2).symm.trans hf
    refine Ev.blk (pc' := 22) [(.iconst (-1), 0, 0, 0)] (by decide +kernel) trivial rfl (?_)
    show Ev l d mi_X10_status 22 [some (.ref 65), some (.int p0)] [.int (Int32.ofInt (-1))] (hp q1.2) 0 0 _
    cases hf
    exact Ev.iret .int rfl rfl (by decide +kernel) (Nat.le_refl _) (Nat.le_refl _)
  · have hf := (if_neg b2).symm.trans hf
    obtain ⟨c3, hf⟩ := gd_some hf
    refine Ev.blk (pc' := 18) [(.aload_n 0, 0, 0, 0), (.getfield 17, 0, 10, 9), (.iload_n 1, 0, 0, 0), (.iaload, 0, 0, 0)] (by decide +kernel) ⟨kf_10_17, trivial⟩ rfl (And.intro (kc rfl rfl) (Exists.intro 67 (And.intro rfl (And.intro (kc rfl rfl) (And.intro (ib_ok c3) (?_))))))
    show Ev l d mi_X10_status 18 [some (.ref 65), some (.int p0)] [.int (q1.2.1 67 p0.toNatClampNeg)] (hp q1.2) 0 0 _
    refine Ev.goto (off := 4) (tgt := 22) (by decide +kernel) (by decide) ?_
    cases hf
    exact Ev.iret .int rfl rfl (by decide +kernel) (Nat.le_refl _) (Nat.le_refl _)
