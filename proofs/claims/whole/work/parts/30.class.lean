/-! THE LANDED CLASS: functions and proofs, by program (wip/gen_class.py): X0_forget X0_keep X0_told X9_manOfMove X9_placeOfMove X0_tell X0_remember J7_fill_53178 X3_leadOf X3_set X4_isCrown X3_settle X0_takeBack X1_start X2_put X1_put X5_fail X5_isBlank X5_numberOfWord X5_sortOf X7_byteAt X5_step X1_opens X5_failForm X5_isSign X5_takeSign X1_isFact X5_isWord X5_takeNumber X1_pair X1_part X1_product X1_sum X1_comparing X1_both X1_test X1_truth -/
def f_X0_forget (s : ST) : Option (ST) := lt (uI (uI s 56 1 (Int32.ofInt 0)) 56 3 (Int32.ofInt 0)) (fun s1 => some s1)
set_option maxHeartbeats 2000000 in
set_option maxRecDepth 20000 in
theorem e_X0_forget {l : Launch} {d : Nat} (hd : 1 ≤ d) (s : ST) (r : ST) (hf : f_X0_forget s = some r) : Cl l d mi_X0_forget [.ref 56] (hp s) (none, hp r) := by
  refine Ev.entry (by decide +kernel) rfl rfl ?_
  show Ev l d mi_X0_forget 0 [some (.ref 56)] [] (hp s) 0 0 _
  unfold f_X0_forget at hf
  obtain ⟨s1, hs1, hf⟩ := lt_some hf
  refine Ev.blk (pc' := 10) [(.aload_n 0, 0, 0, 0), (.iconst 0, 0, 0, 0), (.putfield 15, 0, 0, 1), (.aload_n 0, 0, 0, 0), (.iconst 0, 0, 0, 0), (.putfield 22, 0, 0, 3)] (by decide +kernel) ⟨⟨kf_0_15, Or.inl rfl⟩, ⟨⟨kf_0_22, Or.inl rfl⟩, trivial⟩⟩ rfl (And.intro (kc rfl rfl) (And.intro (kc rfl rfl) (?_)))
  show Ev l d mi_X0_forget 10 [some (.ref 56)] [] (hp (uI (uI s 56 1 (Int32.ofInt 0)) 56 3 (Int32.ofInt 0))) 0 0 _
  rw [← hs1]
  cases hf
  exact Ev.vret rfl (by decide +kernel) (Nat.le_refl _) (Nat.le_refl _)
def f_X0_keep (p0 : Int32) (p1 : Int32) (p2 : Int32) (s : ST) : Option (ST) := (if (Int32.ofNat 999) ≤ (s.1 56 1) then some s else gd (ib (s.1 56 1) 999) (lt (uI (uI s 57 (s.1 56 1).toNatClampNeg ((((p0 * ((Int16.ofInt 200).toInt32)) + p1) * ((Int16.ofInt 256).toInt32)) + p2)) 56 1 (((uI s 57 (s.1 56 1).toNatClampNeg ((((p0 * ((Int16.ofInt 200).toInt32)) + p1) * ((Int16.ofInt 256).toInt32)) + p2)).1 56 1) + (Int32.ofInt 1))) (fun s3 => some s3)))
set_option maxHeartbeats 2000000 in
set_option maxRecDepth 20000 in
theorem e_X0_keep {l : Launch} {d : Nat} (hd : 1 ≤ d) (p0 : Int32) (p1 : Int32) (p2 : Int32) (s : ST) (r : ST) (hf : f_X0_keep p0 p1 p2 s = some r) : Cl l d mi_X0_keep [.ref 56, .int p0, .int p1, .int p2] (hp s) (none, hp r) := by
  refine Ev.entry (by decide +kernel) rfl rfl ?_
  show Ev l d mi_X0_keep 0 [some (.ref 56), some (.int p0), some (.int p1), some (.int p2)] [] (hp s) 0 0 _
  unfold f_X0_keep at hf
  refine Ev.blk (pc' := 9) [(.aload_n 0, 0, 0, 0), (.getfield 15, 0, 0, 1), (.aload_n 0, 0, 0, 0), (.getfield 9, 0, 0, 0), (.arraylength, 0, 0, 0)] (by decide +kernel) ⟨kf_0_15, ⟨kf_0_9, trivial⟩⟩ rfl (And.intro (kc rfl rfl) (And.intro (kc rfl rfl) (Exists.intro 57 (And.intro rfl (And.intro (kl rfl rfl rfl) (?_))))))
  show Ev l d mi_X0_keep 9 [some (.ref 56), some (.int p0), some (.int p1), some (.int p2)] [.int (Int32.ofNat 999), .int (s.1 56 1)] (hp s) 0 0 _
  refine Ev.icmp_ge (off := 35) (tgt := 44) (by decide +kernel) (by decide) (fun b1 => ?_) (fun b1 => ?_)
  · have hf := (if_pos b1).symm.trans hf
    cases hf
    exact Ev.vret rfl (by decide +kernel) (Nat.le_refl _) (Nat.le_refl _)
  · have hf := (if_neg b1).symm.trans hf
    obtain ⟨c2, hf⟩ := gd_some hf
    obtain ⟨s3, hs3, hf⟩ := lt_some hf
    refine Ev.blk (pc' := 44) [(.aload_n 0, 0, 0, 0), (.getfield 9, 0, 0, 0), (.aload_n 0, 0, 0, 0), (.getfield 15, 0, 0, 1), (.iload_n 1, 0, 0, 0), (.sipush 200, 0, 0, 0), (.imul, 0, 0, 0), (.iload_n 2, 0, 0, 0), (.iadd, 0, 0, 0), (.sipush 256, 0, 0, 0), (.imul, 0, 0, 0), (.iload_n 3, 0, 0, 0), (.iadd, 0, 0, 0), (.iastore, 0, 0, 0), (.aload_n 0, 0, 0, 0), (.dup, 0, 0, 0), (.getfield 15, 0, 0, 1), (.iconst 1, 0, 0, 0), (.iadd, 0, 0, 0), (.putfield 15, 0, 0, 1)] (by decide +kernel) ⟨kf_0_9, ⟨kf_0_15, ⟨kf_0_15, ⟨⟨kf_0_15, Or.inl rfl⟩, trivial⟩⟩⟩⟩ rfl (And.intro (kc rfl rfl) (Exists.intro 57 (And.intro rfl (And.intro (kc rfl rfl) (And.intro (kc rfl rfl) (And.intro (ib_ok c2) (And.intro rfl (And.intro (kc rfl rfl) (And.intro (kc rfl rfl) (?_))))))))))
    show Ev l d mi_X0_keep 44 [some (.ref 56), some (.int p0), some (.int p1), some (.int p2)] [] (hp (uI (uI s 57 (s.1 56 1).toNatClampNeg ((((p0 * ((Int16.ofInt 200).toInt32)) + p1) * ((Int16.ofInt 256).toInt32)) + p2)) 56 1 (((uI s 57 (s.1 56 1).toNatClampNeg ((((p0 * ((Int16.ofInt 200).toInt32)) + p1) * ((Int16.ofInt 256).toInt32)) + p2)).1 56 1) + (Int32.ofInt 1)))) 0 0 _
    rw [← hs3]
    cases hf
    exact Ev.vret rfl (by decide +kernel) (Nat.le_refl _) (Nat.le_refl _)
def f_X0_told (s : ST) : Option (Int32 × ST) := some ((if ((Int8.ofInt 40).toInt32) < (s.1 56 1) then ((Int8.ofInt 40).toInt32) else (s.1 56 1)), s)
set_option maxHeartbeats 2000000 in
set_option maxRecDepth 20000 in
theorem e_X0_told {l : Launch} {d : Nat} (hd : 2 ≤ d) (s : ST) (r : Int32 × ST) (hf : f_X0_told s = some r) : Cl l d mi_X0_told [.ref 56] (hp s) (some (.int r.1), hp r.2) := by
  refine Ev.entry (by decide +kernel) rfl rfl ?_
  show Ev l d mi_X0_told 0 [some (.ref 56)] [] (hp s) 0 0 _
  unfold f_X0_told at hf
  refine Ev.blk (pc' := 6) [(.aload_n 0, 0, 0, 0), (.getfield 15, 0, 0, 1), (.bipush 40, 0, 0, 0)] (by decide +kernel) ⟨kf_0_15, trivial⟩ rfl (And.intro (kc rfl rfl) (?_))
  show Ev l d mi_X0_told 6 [some (.ref 56)] [.int ((Int8.ofInt 40).toInt32), .int (s.1 56 1)] (hp s) 0 0 _
  refine Ev.mmin km_0_25 wt_J9_min_7cf53 wini_12 wm_J9_min_7cf53.1 (by omega) (Nat.le_of_ble_eq_true rfl) ⟨Nat.le_refl _, Nat.le_refl _⟩ (by decide +kernel) ?_
  show Ev l d mi_X0_told 9 [some (.ref 56)] [.int (if ((Int8.ofInt 40).toInt32) < (s.1 56 1) then ((Int8.ofInt 40).toInt32) else (s.1 56 1))] (hp s) 0 0 _
  cases hf
  exact Ev.iret .int rfl rfl (by decide +kernel) (Nat.le_refl _) (Nat.le_refl _)
def f_X9_manOfMove (p0 : Int32) (s : ST) : Option (Int32 × ST) := some ((p0 / ((Int8.ofInt 25).toInt32)), s)
set_option maxHeartbeats 2000000 in
set_option maxRecDepth 20000 in
theorem e_X9_manOfMove {l : Launch} {d : Nat} (hd : 1 ≤ d) (p0 : Int32) (s : ST) (r : Int32 × ST) (hf : f_X9_manOfMove p0 s = some r) : Cl l d mi_X9_manOfMove [.int p0] (hp s) (some (.int r.1), hp r.2) := by
  refine Ev.entry (by decide +kernel) rfl rfl ?_
  show Ev l d mi_X9_manOfMove 0 [some (.int p0)] [] (hp s) 0 0 _
  unfold f_X9_manOfMove at hf
  refine Ev.blk (pc' := 4) [(.iload_n 0, 0, 0, 0), (.bipush 25, 0, 0, 0), (.idiv, 0, 0, 0)] (by decide +kernel) trivial rfl (And.intro (by decide) (?_))
  show Ev l d mi_X9_manOfMove 4 [some (.int p0)] [.int (p0 / ((Int8.ofInt 25).toInt32))] (hp s) 0 0 _
  cases hf
  exact Ev.iret .int rfl rfl (by decide +kernel) (Nat.le_refl _) (Nat.le_refl _)
def f_X9_placeOfMove (p0 : Int32) (s : ST) : Option (Int32 × ST) := lt (p0 - p0 / ((Int8.ofInt 25).toInt32) * ((Int8.ofInt 25).toInt32)) (fun v1 => some (v1, s))
set_option maxHeartbeats 2000000 in
set_option maxRecDepth 20000 in
theorem e_X9_placeOfMove {l : Launch} {d : Nat} (hd : 1 ≤ d) (p0 : Int32) (s : ST) (r : Int32 × ST) (hf : f_X9_placeOfMove p0 s = some r) : Cl l d mi_X9_placeOfMove [.int p0] (hp s) (some (.int r.1), hp r.2) := by
  refine Ev.entry (by decide +kernel) rfl rfl ?_
  show Ev l d mi_X9_placeOfMove 0 [some (.int p0)] [] (hp s) 0 0 _
  unfold f_X9_placeOfMove at hf
  obtain ⟨v1, hv1, hf⟩ := lt_some hf
  refine Ev.blk (pc' := 4) [(.iload_n 0, 0, 0, 0), (.bipush 25, 0, 0, 0), (.irem, 0, 0, 0)] (by decide +kernel) trivial rfl (And.intro (by decide) (?_))
  show Ev l d mi_X9_placeOfMove 4 [some (.int p0)] [.int (p0 - p0 / ((Int8.ofInt 25).toInt32) * ((Int8.ofInt 25).toInt32))] (hp s) 0 0 _
  rw [← hv1]
  cases hf
  exact Ev.iret .int rfl rfl (by decide +kernel) (Nat.le_refl _) (Nat.le_refl _)
def f_X0_tell (p0 : Int32) (p1 : Int32) (s : ST) : Option (Int32 × ST) := (f_X0_told s).bind (fun q1 => (if p0 < 0 then some ((Int32.ofInt (-1)), q1.2) else (if p0 < q1.1 then gd (ib (((q1.2.1 56 1) - q1.1) + p0) 999) (lt (((q1.2.1 57 (((q1.2.1 56 1) - q1.1) + p0).toNatClampNeg) / ((Int16.ofInt 256).toInt32)) - ((q1.2.1 57 (((q1.2.1 56 1) - q1.1) + p0).toNatClampNeg) / ((Int16.ofInt 256).toInt32)) / ((Int16.ofInt 200).toInt32) * ((Int16.ofInt 200).toInt32)) (fun v5 => (if p1 = 0 then lt (((q1.2.1 57 (((q1.2.1 56 1) - q1.1) + p0).toNatClampNeg) / ((Int16.ofInt 256).toInt32)) / ((Int16.ofInt 200).toInt32)) (fun v7 => some (v7, q1.2)) else (if p1 = 1 then (f_X9_manOfMove v5 q1.2).bind (fun q9 => some (q9.1, q9.2)) else (if p1 = 2 then (f_X9_placeOfMove v5 q1.2).bind (fun q11 => some ((q11.1 - q11.1 / (Int32.ofInt 5) * (Int32.ofInt 5)), q11.2)) else (if p1 = 3 then (f_X9_placeOfMove v5 q1.2).bind (fun q13 => some ((q13.1 / (Int32.ofInt 5)), q13.2)) else (if p1 = 4 then lt ((q1.2.1 57 (((q1.2.1 56 1) - q1.1) + p0).toNatClampNeg) - (q1.2.1 57 (((q1.2.1 56 1) - q1.1) + p0).toNatClampNeg) / ((Int16.ofInt 256).toInt32) * ((Int16.ofInt 256).toInt32)) (fun v15 => some (v15, q1.2)) else (some ((Int32.ofInt (-1)), q1.2))))))))) else some ((Int32.ofInt (-1)), q1.2))))
set_option maxHeartbeats 2000000 in
set_option maxRecDepth 20000 in
theorem e_X0_tell {l : Launch} {d : Nat} (hd : 3 ≤ d) (p0 : Int32) (p1 : Int32) (s : ST) (r : Int32 × ST) (hf : f_X0_tell p0 p1 s = some r) : Cl l d mi_X0_tell [.ref 56, .int p0, .int p1] (hp s) (some (.int r.1), hp r.2) := by
  refine Ev.entry (by decide +kernel) rfl rfl ?_
  show Ev l d mi_X0_tell 0 [some (.ref 56), some (.int p0), some (.int p1), none, none, none] [] (hp s) 0 0 _
  unfold f_X0_tell at hf
  refine Ev.blk (pc' := 1) [(.aload_n 0, 0, 0, 0)] (by decide +kernel) trivial rfl (?_)
  show Ev l d mi_X0_tell 1 [some (.ref 56), some (.int p0), some (.int p1), none, none, none] [.ref 56] (hp s) 0 0 _
  obtain ⟨q1, hq1, hf⟩ := bd_some hf
  refine Ev.callV (o := 56) (M' := mi_X0_told) (d' := d - 1) (As := []) (rest := []) (r' := (some (.int q1.1), hp q1.2)) (e_X0_told (d := d - 1) (by omega) s _ hq1) (by omega) wm_X0_told wi_X0_told wv_X0_told km_0_31 (kc rfl rfl) (Nat.le_of_ble_eq_true rfl) rfl rfl rfl (Nat.le_of_ble_eq_true rfl) ⟨Nat.le_of_ble_eq_true rfl, Nat.le_of_ble_eq_true rfl⟩ (by decide +kernel) ?_
  show Ev l d mi_X0_tell 4 [some (.ref 56), some (.int p0), some (.int p1), none, none, none] [.int q1.1] (hp q1.2) 0 0 _
  refine Ev.blk (pc' := 6) [(.istore_n 3, 0, 0, 0), (.iload_n 1, 0, 0, 0)] (by decide +kernel) trivial rfl (And.intro (Nat.le_of_ble_eq_true rfl) (?_))
  show Ev l d mi_X0_tell 6 [some (.ref 56), some (.int p0), some (.int p1), some (.int q1.1), none, none] [.int p0] (hp q1.2) 0 0 _
  refine Ev.if_lt (off := 8) (tgt := 14) (by decide +kernel) (by decide) (fun b2 => ?_) (fun b2 => ?_)
  · have hf := (if_pos b2).symm.trans hf
    refine Ev.blk (pc' := 15) [(.iconst (-1), 0, 0, 0)] (by decide +kernel) trivial rfl (?_)
    show Ev l d mi_X0_tell 15 [some (.ref 56), some (.int p0), some (.int p1), some (.int q1.1), none, none] [.int (Int32.ofInt (-1))] (hp q1.2) 0 0 _
    cases hf
    exact Ev.iret .int rfl rfl (by decide +kernel) (Nat.le_refl _) (Nat.le_refl _)
  · have hf := (if_neg b2).symm.trans hf
    refine Ev.blk (pc' := 11) [(.iload_n 1, 0, 0, 0), (.iload_n 3, 0, 0, 0)] (by decide +kernel) trivial rfl (?_)
    show Ev l d mi_X0_tell 11 [some (.ref 56), some (.int p0), some (.int p1), some (.int q1.1), none, none] [.int q1.1, .int p0] (hp q1.2) 0 0 _
    refine Ev.icmp_lt (off := 5) (tgt := 16) (by decide +kernel) (by decide) (fun b3 => ?_) (fun b3 => ?_)
    · have hf := (if_pos b3).symm.trans hf
      obtain ⟨c4, hf⟩ := gd_some hf
      obtain ⟨v5, hv5, hf⟩ := lt_some hf
      refine Ev.blk (pc' := 44) [(.aload_n 0, 0, 0, 0), (.getfield 9, 0, 0, 0), (.aload_n 0, 0, 0, 0), (.getfield 15, 0, 0, 1), (.iload_n 3, 0, 0, 0), (.isub, 0, 0, 0), (.iload_n 1, 0, 0, 0), (.iadd, 0, 0, 0), (.iaload, 0, 0, 0), (.istore 4, 0, 0, 0), (.iload 4, 0, 0, 0), (.sipush 256, 0, 0, 0), (.idiv, 0, 0, 0), (.sipush 200, 0, 0, 0), (.irem, 0, 0, 0), (.istore 5, 0, 0, 0), (.iload_n 2, 0, 0, 0)] (by decide +kernel) ⟨kf_0_9, ⟨kf_0_15, trivial⟩⟩ rfl (And.intro (kc rfl rfl) (Exists.intro 57 (And.intro rfl (And.intro (kc rfl rfl) (And.intro (kc rfl rfl) (And.intro (ib_ok c4) (And.intro (Nat.le_of_ble_eq_true rfl) (And.intro (by decide) (And.intro (by decide) (And.intro (Nat.le_of_ble_eq_true rfl) (?_)))))))))))
      show Ev l d mi_X0_tell 44 [some (.ref 56), some (.int p0), some (.int p1), some (.int q1.1), some (.int (q1.2.1 57 (((q1.2.1 56 1) - q1.1) + p0).toNatClampNeg)), some (.int (((q1.2.1 57 (((q1.2.1 56 1) - q1.1) + p0).toNatClampNeg) / ((Int16.ofInt 256).toInt32)) - ((q1.2.1 57 (((q1.2.1 56 1) - q1.1) + p0).toNatClampNeg) / ((Int16.ofInt 256).toInt32)) / ((Int16.ofInt 200).toInt32) * ((Int16.ofInt 200).toInt32)))] [.int p1] (hp q1.2) 0 0 _
      rw [← hv5]
      by_cases b6 : p1 = 0
      · have hf := (if_pos b6).symm.trans hf
        refine Ev.tswitch (dflt := 76) (lo := 0) (hi := 4) (offs := #[36, 47, 53, 61, 69]) (len := 36) (tgt := 80) (by decide +kernel) (by rw [b6]; decide) (by decide) ?_
        obtain ⟨v7, hv7, hf⟩ := lt_some hf
        refine Ev.blk (pc' := 90) [(.iload 4, 0, 0, 0), (.sipush 256, 0, 0, 0), (.idiv, 0, 0, 0), (.sipush 200, 0, 0, 0), (.idiv, 0, 0, 0)] (by decide +kernel) trivial rfl (And.intro (by decide) (And.intro (by decide) (?_)))
        show Ev l d mi_X0_tell 90 [some (.ref 56), some (.int p0), some (.int p1), some (.int q1.1), some (.int (q1.2.1 57 (((q1.2.1 56 1) - q1.1) + p0).toNatClampNeg)), some (.int v5)] [.int (((q1.2.1 57 (((q1.2.1 56 1) - q1.1) + p0).toNatClampNeg) / ((Int16.ofInt 256).toInt32)) / ((Int16.ofInt 200).toInt32))] (hp q1.2) 0 0 _
        rw [← hv7]
        cases hf
        exact Ev.iret .int rfl rfl (by decide +kernel) (Nat.le_refl _) (Nat.le_refl _)
      · have hf := (if_neg b6).symm.trans hf
        by_cases b8 : p1 = 1
        · have hf := (if_pos b8).symm.trans hf
          refine Ev.tswitch (dflt := 76) (lo := 0) (hi := 4) (offs := #[36, 47, 53, 61, 69]) (len := 36) (tgt := 91) (by decide +kernel) (by rw [b8]; decide) (by decide) ?_
          refine Ev.blk (pc' := 93) [(.iload 5, 0, 0, 0)] (by decide +kernel) trivial rfl (?_)
          show Ev l d mi_X0_tell 93 [some (.ref 56), some (.int p0), some (.int p1), some (.int q1.1), some (.int (q1.2.1 57 (((q1.2.1 56 1) - q1.1) + p0).toNatClampNeg)), some (.int v5)] [.int v5] (hp q1.2) 0 0 _
          obtain ⟨q9, hq9, hf⟩ := bd_some hf
          refine Ev.callSN (M' := mi_X9_manOfMove) (d' := d - 1) (As := [.int v5]) (rest := []) (r' := (some (.int q9.1), hp q9.2)) (e_X9_manOfMove (d := d - 1) (by omega) v5 q1.2 _ hq9) (by omega) wm_X9_manOfMove wt_X9_manOfMove kn_0_35 rfl rfl rfl (Nat.le_of_ble_eq_true rfl) ⟨Nat.le_of_ble_eq_true rfl, Nat.le_of_ble_eq_true rfl⟩ (by decide +kernel) ?_
          show Ev l d mi_X0_tell 96 [some (.ref 56), some (.int p0), some (.int p1), some (.int q1.1), some (.int (q1.2.1 57 (((q1.2.1 56 1) - q1.1) + p0).toNatClampNeg)), some (.int v5)] [.int q9.1] (hp q9.2) 0 0 _
          cases hf
          exact Ev.iret .int rfl rfl (by decide +kernel) (Nat.le_refl _) (Nat.le_refl _)
        · have hf := (if_neg b8).symm.trans hf
          by_cases b10 : p1 = 2
          · have hf := (if_pos b10).symm.trans hf
            refine Ev.tswitch (dflt := 76) (lo := 0) (hi := 4) (offs := #[36, 47, 53, 61, 69]) (len := 36) (tgt := 97) (by decide +kernel) (by rw [b10]; decide) (by decide) ?_
            refine Ev.blk (pc' := 99) [(.iload 5, 0, 0, 0)] (by decide +kernel) trivial rfl (?_)
            show Ev l d mi_X0_tell 99 [some (.ref 56), some (.int p0), some (.int p1), some (.int q1.1), some (.int (q1.2.1 57 (((q1.2.1 56 1) - q1.1) + p0).toNatClampNeg)), some (.int v5)] [.int v5] (hp q1.2) 0 0 _
            obtain ⟨q11, hq11, hf⟩ := bd_some hf
            refine Ev.callSN (M' := mi_X9_placeOfMove) (d' := d - 1) (As := [.int v5]) (rest := []) (r' := (some (.int q11.1), hp q11.2)) (e_X9_placeOfMove (d := d - 1) (by omega) v5 q1.2 _ hq11) (by omega) wm_X9_placeOfMove wt_X9_placeOfMove kn_0_39 rfl rfl rfl (Nat.le_of_ble_eq_true rfl) ⟨Nat.le_of_ble_eq_true rfl, Nat.le_of_ble_eq_true rfl⟩ (by decide +kernel) ?_
            show Ev l d mi_X0_tell 102 [some (.ref 56), some (.int p0), some (.int p1), some (.int q1.1), some (.int (q1.2.1 57 (((q1.2.1 56 1) - q1.1) + p0).toNatClampNeg)), some (.int v5)] [.int q11.1] (hp q11.2) 0 0 _
            refine Ev.blk (pc' := 104) [(.iconst 5, 0, 0, 0), (.irem, 0, 0, 0)] (by decide +kernel) trivial rfl (And.intro (by decide) (?_))
            show Ev l d mi_X0_tell 104 [some (.ref 56), some (.int p0), some (.int p1), some (.int q1.1), some (.int (q1.2.1 57 (((q1.2.1 56 1) - q1.1) + p0).toNatClampNeg)), some (.int v5)] [.int (q11.1 - q11.1 / (Int32.ofInt 5) * (Int32.ofInt 5))] (hp q11.2) 0 0 _
            cases hf
            exact Ev.iret .int rfl rfl (by decide +kernel) (Nat.le_refl _) (Nat.le_refl _)
          · have hf := (if_neg b10).symm.trans hf
            by_cases b12 : p1 = 3
            · have hf := (if_pos b12).symm.trans hf
              refine Ev.tswitch (dflt := 76) (lo := 0) (hi := 4) (offs := #[36, 47, 53, 61, 69]) (len := 36) (tgt := 105) (by decide +kernel) (by rw [b12]; decide) (by decide) ?_
              refine Ev.blk (pc' := 107) [(.iload 5, 0, 0, 0)] (by decide +kernel) trivial rfl (?_)
              show Ev l d mi_X0_tell 107 [some (.ref 56), some (.int p0), some (.int p1), some (.int q1.1), some (.int (q1.2.1 57 (((q1.2.1 56 1) - q1.1) + p0).toNatClampNeg)), some (.int v5)] [.int v5] (hp q1.2) 0 0 _
              obtain ⟨q13, hq13, hf⟩ := bd_some hf
              refine Ev.callSN (M' := mi_X9_placeOfMove) (d' := d - 1) (As := [.int v5]) (rest := []) (r' := (some (.int q13.1), hp q13.2)) (e_X9_placeOfMove (d := d - 1) (by omega) v5 q1.2 _ hq13) (by omega) wm_X9_placeOfMove wt_X9_placeOfMove kn_0_39 rfl rfl rfl (Nat.le_of_ble_eq_true rfl) ⟨Nat.le_of_ble_eq_true rfl, Nat.le_of_ble_eq_true rfl⟩ (by decide +kernel) ?_
              show Ev l d mi_X0_tell 110 [some (.ref 56), some (.int p0), some (.int p1), some (.int q1.1), some (.int (q1.2.1 57 (((q1.2.1 56 1) - q1.1) + p0).toNatClampNeg)), some (.int v5)] [.int q13.1] (hp q13.2) 0 0 _
              refine Ev.blk (pc' := 112) [(.iconst 5, 0, 0, 0), (.idiv, 0, 0, 0)] (by decide +kernel) trivial rfl (And.intro (by decide) (?_))
              show Ev l d mi_X0_tell 112 [some (.ref 56), some (.int p0), some (.int p1), some (.int q1.1), some (.int (q1.2.1 57 (((q1.2.1 56 1) - q1.1) + p0).toNatClampNeg)), some (.int v5)] [.int (q13.1 / (Int32.ofInt 5))] (hp q13.2) 0 0 _
              cases hf
              exact Ev.iret .int rfl rfl (by decide +kernel) (Nat.le_refl _) (Nat.le_refl _)
            · have hf := (if_neg b12).symm.trans hf
              by_cases b14 : p1 = 4
              · have hf := (if_pos b14).symm.trans hf
                refine Ev.tswitch (dflt := 76) (lo := 0) (hi := 4) (offs := #[36, 47, 53, 61, 69]) (len := 36) (tgt := 113) (by decide +kernel) (by rw [b14]; decide) (by decide) ?_
                obtain ⟨v15, hv15, hf⟩ := lt_some hf
                refine Ev.blk (pc' := 119) [(.iload 4, 0, 0, 0), (.sipush 256, 0, 0, 0), (.irem, 0, 0, 0)] (by decide +kernel) trivial rfl (And.intro (by decide) (?_))
                show Ev l d mi_X0_tell 119 [some (.ref 56), some (.int p0), some (.int p1), some (.int q1.1), some (.int (q1.2.1 57 (((q1.2.1 56 1) - q1.1) + p0).toNatClampNeg)), some (.int v5)] [.int ((q1.2.1 57 (((q1.2.1 56 1) - q1.1) + p0).toNatClampNeg) - (q1.2.1 57 (((q1.2.1 56 1) - q1.1) + p0).toNatClampNeg) / ((Int16.ofInt 256).toInt32) * ((Int16.ofInt 256).toInt32))] (hp q1.2) 0 0 _
                rw [← hv15]
                cases hf
                exact Ev.iret .int rfl rfl (by decide +kernel) (Nat.le_refl _) (Nat.le_refl _)
              · have hf := (if_neg b14).symm.trans hf
                refine Ev.tswitch (dflt := 76) (lo := 0) (hi := 4) (offs := #[36, 47, 53, 61, 69]) (len := 36) (tgt := 120) (by decide +kernel) (by have e0 := sw_ne b6 (c := (0)) (by decide); have e1 := sw_ne b8 (c := (1)) (by decide); have e2 := sw_ne b10 (c := (2)) (by decide); have e3 := sw_ne b12 (c := (3)) (by decide); have e4 := sw_ne b14 (c := (4)) (by decide); rw [if_pos (by omega)]; decide) (by decide) ?_
                refine Ev.blk (pc' := 121) [(.iconst (-1), 0, 0, 0)] (by decide +kernel) trivial rfl (?_)
                show Ev l d mi_X0_tell 121 [some (.ref 56), some (.int p0), some (.int p1), some (.int q1.1), some (.int (q1.2.1 57 (((q1.2.1 56 1) - q1.1) + p0).toNatClampNeg)), some (.int v5)] [.int (Int32.ofInt (-1))] (hp q1.2) 0 0 _
                cases hf
                exact Ev.iret .int rfl rfl (by decide +kernel) (Nat.le_refl _) (Nat.le_refl _)
    · have hf := (if_neg b3).symm.trans hf
      refine Ev.blk (pc' := 15) [(.iconst (-1), 0, 0, 0)] (by decide +kernel) trivial rfl (?_)
      show Ev l d mi_X0_tell 15 [some (.ref 56), some (.int p0), some (.int p1), some (.int q1.1), none, none] [.int (Int32.ofInt (-1))] (hp q1.2) 0 0 _
      cases hf
      exact Ev.iret .int rfl rfl (by decide +kernel) (Nat.le_refl _) (Nat.le_refl _)
def f_X0_remember_j32 (x1 : Nat) (s : ST) : Option (ST) := gd (kk x1 3) (gd (ib ((s.1 56 3) * ((Int8.ofInt 17).toInt32)) 340) (gd (ib (((s.1 56 3) * ((Int8.ofInt 17).toInt32)) + (Int32.ofInt 1)) 340) (gd (ib (((s.1 56 3) * ((Int8.ofInt 17).toInt32)) + (Int32.ofInt 2)) 340) ((RR (uI (uI (uI s 58 ((s.1 56 3) * ((Int8.ofInt 17).toInt32)).toNatClampNeg (s.1 x1 1)) 58 (((s.1 56 3) * ((Int8.ofInt 17).toInt32)) + (Int32.ofInt 1)).toNatClampNeg ((uI s 58 ((s.1 56 3) * ((Int8.ofInt 17).toInt32)).toNatClampNeg (s.1 x1 1)).1 x1 2)) 58 (((s.1 56 3) * ((Int8.ofInt 17).toInt32)) + (Int32.ofInt 2)).toNatClampNeg ((uI (uI s 58 ((s.1 56 3) * ((Int8.ofInt 17).toInt32)).toNatClampNeg (s.1 x1 1)) 58 (((s.1 56 3) * ((Int8.ofInt 17).toInt32)) + (Int32.ofInt 1)).toNatClampNeg ((uI s 58 ((s.1 56 3) * ((Int8.ofInt 17).toInt32)).toNatClampNeg (s.1 x1 1)).1 x1 2)).1 56 1)).2.2 x1 4).bind (fun a8 => lt (uI (uI (uI s 58 ((s.1 56 3) * ((Int8.ofInt 17).toInt32)).toNatClampNeg (s.1 x1 1)) 58 (((s.1 56 3) * ((Int8.ofInt 17).toInt32)) + (Int32.ofInt 1)).toNatClampNeg ((uI s 58 ((s.1 56 3) * ((Int8.ofInt 17).toInt32)).toNatClampNeg (s.1 x1 1)).1 x1 2)) 58 (((s.1 56 3) * ((Int8.ofInt 17).toInt32)) + (Int32.ofInt 2)).toNatClampNeg ((uI (uI s 58 ((s.1 56 3) * ((Int8.ofInt 17).toInt32)).toNatClampNeg (s.1 x1 1)) 58 (((s.1 56 3) * ((Int8.ofInt 17).toInt32)) + (Int32.ofInt 1)).toNatClampNeg ((uI s 58 ((s.1 56 3) * ((Int8.ofInt 17).toInt32)).toNatClampNeg (s.1 x1 1)).1 x1 2)).1 56 1)) (fun s9 => gd (kk a8 13) (gd (cpk (Int32.ofInt 0) (((s.1 56 3) * ((Int8.ofInt 17).toInt32)) + (Int32.ofInt 3)) ((Int8.ofInt 8).toInt32) (K0 a8).2 340) ((RR (cp s9 a8 58 (Int32.ofInt 0).toNatClampNeg (((s.1 56 3) * ((Int8.ofInt 17).toInt32)) + (Int32.ofInt 3)).toNatClampNeg ((Int8.ofInt 8).toInt32).toNatClampNeg).2.2 x1 5).bind (fun a12 => lt (cp s9 a8 58 (Int32.ofInt 0).toNatClampNeg (((s.1 56 3) * ((Int8.ofInt 17).toInt32)) + (Int32.ofInt 3)).toNatClampNeg ((Int8.ofInt 8).toInt32).toNatClampNeg) (fun s13 => lt ((((s.1 56 3) * ((Int8.ofInt 17).toInt32)) + (Int32.ofInt 3)) + ((Int8.ofInt 8).toInt32)) (fun v14 => gd (kk a12 13) (gd (cpk (Int32.ofInt 0) v14 ((Int8.ofInt 6).toInt32) (K0 a12).2 340) (lt (uI (cp s13 a12 58 (Int32.ofInt 0).toNatClampNeg v14.toNatClampNeg ((Int8.ofInt 6).toInt32).toNatClampNeg) 56 3 (((cp s13 a12 58 (Int32.ofInt 0).toNatClampNeg v14.toNatClampNeg ((Int8.ofInt 6).toInt32).toNatClampNeg).1 56 3) + (Int32.ofInt 1))) (fun s17 => some s17))))))))))))))
set_option maxHeartbeats 2000000 in
set_option maxRecDepth 20000 in
theorem e_X0_remember_j32 {l : Launch} {d : Nat} (hd : 1 ≤ d) (x1 : Nat) (s : ST) (r : ST) (hf : f_X0_remember_j32 x1 s = some r) : Ev l d mi_X0_remember 32 [some (.ref 56), some (.ref x1), none] [] (hp s) 0 0 (none, hp r) := by
  unfold f_X0_remember_j32 at hf
  obtain ⟨c4, hf⟩ := gd_some hf
  obtain ⟨c5, hf⟩ := gd_some hf
  obtain ⟨c6, hf⟩ := gd_some hf
  obtain ⟨c7, hf⟩ := gd_some hf
  obtain ⟨a8, ha8, hf⟩ := bd_some hf
  obtain ⟨s9, hs9, hf⟩ := lt_some hf
  refine Ev.blk (pc' := 79) [(.aload_n 0, 0, 0, 0), (.getfield 22, 0, 0, 3), (.bipush 17, 0, 0, 0), (.imul, 0, 0, 0), (.istore_n 2, 0, 0, 0), (.aload_n 0, 0, 0, 0), (.getfield 19, 0, 0, 2), (.iload_n 2, 0, 0, 0), (.aload_n 1, 0, 0, 0), (.getfield 48, 0, 3, 1), (.iastore, 0, 0, 0), (.aload_n 0, 0, 0, 0), (.getfield 19, 0, 0, 2), (.iload_n 2, 0, 0, 0), (.iconst 1, 0, 0, 0), (.iadd, 0, 0, 0), (.aload_n 1, 0, 0, 0), (.getfield 53, 0, 3, 2), (.iastore, 0, 0, 0), (.aload_n 0, 0, 0, 0), (.getfield 19, 0, 0, 2), (.iload_n 2, 0, 0, 0), (.iconst 2, 0, 0, 0), (.iadd, 0, 0, 0), (.aload_n 0, 0, 0, 0), (.getfield 15, 0, 0, 1), (.iastore, 0, 0, 0), (.aload_n 1, 0, 0, 0), (.getfield 56, 0, 3, 4), (.iconst 0, 0, 0, 0)] (by decide +kernel) ⟨kf_0_22, ⟨kf_0_19, ⟨kf_0_48, ⟨kf_0_19, ⟨kf_0_53, ⟨kf_0_19, ⟨kf_0_15, ⟨kf_0_56, trivial⟩⟩⟩⟩⟩⟩⟩⟩ rfl (And.intro (kc rfl rfl) (And.intro (Nat.le_of_ble_eq_true rfl) (And.intro (kc rfl rfl) (Exists.intro 58 (And.intro rfl (And.intro (kk_ok c4) (And.intro (kc rfl rfl) (And.intro (ib_ok c5) (And.intro (kc rfl rfl) (Exists.intro 58 (And.intro rfl (And.intro (kk_ok c4) (And.intro (kc rfl rfl) (And.intro (ib_ok c6) (And.intro (kc rfl rfl) (Exists.intro 58 (And.intro rfl (And.intro (kc rfl rfl) (And.intro (kc rfl rfl) (And.intro (ib_ok c7) (And.intro (kk_ok c4) (Exists.intro a8 (And.intro ha8 (?_))))))))))))))))))))))))
  show Ev l d mi_X0_remember 79 [some (.ref 56), some (.ref x1), some (.int ((s.1 56 3) * ((Int8.ofInt 17).toInt32)))] [.int (Int32.ofInt 0), .ref a8] (hp (uI (uI (uI s 58 ((s.1 56 3) * ((Int8.ofInt 17).toInt32)).toNatClampNeg (s.1 x1 1)) 58 (((s.1 56 3) * ((Int8.ofInt 17).toInt32)) + (Int32.ofInt 1)).toNatClampNeg ((uI s 58 ((s.1 56 3) * ((Int8.ofInt 17).toInt32)).toNatClampNeg (s.1 x1 1)).1 x1 2)) 58 (((s.1 56 3) * ((Int8.ofInt 17).toInt32)) + (Int32.ofInt 2)).toNatClampNeg ((uI (uI s 58 ((s.1 56 3) * ((Int8.ofInt 17).toInt32)).toNatClampNeg (s.1 x1 1)) 58 (((s.1 56 3) * ((Int8.ofInt 17).toInt32)) + (Int32.ofInt 1)).toNatClampNeg ((uI s 58 ((s.1 56 3) * ((Int8.ofInt 17).toInt32)).toNatClampNeg (s.1 x1 1)).1 x1 2)).1 56 1))) 0 0 _
  rw [← hs9]
  refine Ev.blk (pc' := 88) [(.aload_n 0, 0, 0, 0), (.getfield 19, 0, 0, 2), (.iload_n 2, 0, 0, 0), (.iconst 3, 0, 0, 0), (.iadd, 0, 0, 0), (.bipush 8, 0, 0, 0)] (by decide +kernel) ⟨kf_0_19, trivial⟩ rfl (And.intro (kc rfl rfl) (Exists.intro 58 (And.intro rfl (?_))))
  show Ev l d mi_X0_remember 88 [some (.ref 56), some (.ref x1), some (.int ((s.1 56 3) * ((Int8.ofInt 17).toInt32)))] [.int ((Int8.ofInt 8).toInt32), .int (((s.1 56 3) * ((Int8.ofInt 17).toInt32)) + (Int32.ofInt 3)), .ref 58, .int (Int32.ofInt 0), .ref a8] (hp s9) 0 0 _
  obtain ⟨c10, hf⟩ := gd_some hf
  obtain ⟨c11, hf⟩ := gd_some hf
  refine Ev.arraycopy ky_0_42 wac1 wac2 wac3 (kk_ok c10) (kc rfl rfl) (cp_1 c11) (cp_2 c11) (cp_3 c11) (cp_4 c11) (cp_5 c11) (by omega) (Nat.le_of_ble_eq_true rfl) (by decide +kernel) ?_
  show Ev l d mi_X0_remember 91 [some (.ref 56), some (.ref x1), some (.int ((s.1 56 3) * ((Int8.ofInt 17).toInt32)))] [] (hp (cp s9 a8 58 (Int32.ofInt 0).toNatClampNeg (((s.1 56 3) * ((Int8.ofInt 17).toInt32)) + (Int32.ofInt 3)).toNatClampNeg ((Int8.ofInt 8).toInt32).toNatClampNeg)) 0 0 _
  obtain ⟨a12, ha12, hf⟩ := bd_some hf
  obtain ⟨s13, hs13, hf⟩ := lt_some hf
  obtain ⟨v14, hv14, hf⟩ := lt_some hf
  refine Ev.blk (pc' := 108) [(.aload_n 1, 0, 0, 0), (.getfield 59, 0, 3, 5), (.iconst 0, 0, 0, 0), (.aload_n 0, 0, 0, 0), (.getfield 19, 0, 0, 2), (.iload_n 2, 0, 0, 0), (.iconst 3, 0, 0, 0), (.iadd, 0, 0, 0), (.bipush 8, 0, 0, 0), (.iadd, 0, 0, 0), (.bipush 6, 0, 0, 0)] (by decide +kernel) ⟨kf_0_59, ⟨kf_0_19, trivial⟩⟩ rfl (And.intro (kk_ok c4) (Exists.intro a12 (And.intro ha12 (And.intro (kc rfl rfl) (Exists.intro 58 (And.intro rfl (?_)))))))
  show Ev l d mi_X0_remember 108 [some (.ref 56), some (.ref x1), some (.int ((s.1 56 3) * ((Int8.ofInt 17).toInt32)))] [.int ((Int8.ofInt 6).toInt32), .int ((((s.1 56 3) * ((Int8.ofInt 17).toInt32)) + (Int32.ofInt 3)) + ((Int8.ofInt 8).toInt32)), .ref 58, .int (Int32.ofInt 0), .ref a12] (hp (cp s9 a8 58 (Int32.ofInt 0).toNatClampNeg (((s.1 56 3) * ((Int8.ofInt 17).toInt32)) + (Int32.ofInt 3)).toNatClampNeg ((Int8.ofInt 8).toInt32).toNatClampNeg)) 0 0 _
  rw [← hs13, ← hv14]
  obtain ⟨c15, hf⟩ := gd_some hf
  obtain ⟨c16, hf⟩ := gd_some hf
  refine Ev.arraycopy ky_0_42 wac1 wac2 wac3 (kk_ok c15) (kc rfl rfl) (cp_1 c16) (cp_2 c16) (cp_3 c16) (cp_4 c16) (cp_5 c16) (by omega) (Nat.le_of_ble_eq_true rfl) (by decide +kernel) ?_
  show Ev l d mi_X0_remember 111 [some (.ref 56), some (.ref x1), some (.int ((s.1 56 3) * ((Int8.ofInt 17).toInt32)))] [] (hp (cp s13 a12 58 (Int32.ofInt 0).toNatClampNeg v14.toNatClampNeg ((Int8.ofInt 6).toInt32).toNatClampNeg)) 0 0 _
  obtain ⟨s17, hs17, hf⟩ := lt_some hf
  refine Ev.blk (pc' := 121) [(.aload_n 0, 0, 0, 0), (.dup, 0, 0, 0), (.getfield 22, 0, 0, 3), (.iconst 1, 0, 0, 0), (.iadd, 0, 0, 0), (.putfield 22, 0, 0, 3)] (by decide +kernel) ⟨kf_0_22, ⟨⟨kf_0_22, Or.inl rfl⟩, trivial⟩⟩ rfl (And.intro rfl (And.intro (kc rfl rfl) (And.intro (kc rfl rfl) (?_))))
  show Ev l d mi_X0_remember 121 [some (.ref 56), some (.ref x1), some (.int ((s.1 56 3) * ((Int8.ofInt 17).toInt32)))] [] (hp (uI (cp s13 a12 58 (Int32.ofInt 0).toNatClampNeg v14.toNatClampNeg ((Int8.ofInt 6).toInt32).toNatClampNeg) 56 3 (((cp s13 a12 58 (Int32.ofInt 0).toNatClampNeg v14.toNatClampNeg ((Int8.ofInt 6).toInt32).toNatClampNeg).1 56 3) + (Int32.ofInt 1)))) 0 0 _
  rw [← hs17]
  cases hf
  exact Ev.vret rfl (by decide +kernel) (Nat.le_refl _) (Nat.le_refl _)
def f_X0_remember (p0 : Nat) (s : ST) : Option (ST) := (if (s.1 56 3) < ((Int8.ofInt 20).toInt32) then f_X0_remember_j32 p0 s else gd (cpk ((Int8.ofInt 17).toInt32) (Int32.ofInt 0) ((Int16.ofInt 323).toInt32) 340 340) (lt (uI (cp s 58 58 ((Int8.ofInt 17).toInt32).toNatClampNeg (Int32.ofInt 0).toNatClampNeg ((Int16.ofInt 323).toInt32).toNatClampNeg) 56 3 ((Int8.ofInt 19).toInt32)) (fun s3 => f_X0_remember_j32 p0 s3)))
set_option maxHeartbeats 2000000 in
set_option maxRecDepth 20000 in
theorem e_X0_remember {l : Launch} {d : Nat} (hd : 1 ≤ d) (p0 : Nat) (s : ST) (r : ST) (hf : f_X0_remember p0 s = some r) : Cl l d mi_X0_remember [.ref 56, .ref p0] (hp s) (none, hp r) := by
  refine Ev.entry (by decide +kernel) rfl rfl ?_
  show Ev l d mi_X0_remember 0 [some (.ref 56), some (.ref p0), none] [] (hp s) 0 0 _
  unfold f_X0_remember at hf
  refine Ev.blk (pc' := 6) [(.aload_n 0, 0, 0, 0), (.getfield 22, 0, 0, 3), (.bipush 20, 0, 0, 0)] (by decide +kernel) ⟨kf_0_22, trivial⟩ rfl (And.intro (kc rfl rfl) (?_))
  show Ev l d mi_X0_remember 6 [some (.ref 56), some (.ref p0), none] [.int ((Int8.ofInt 20).toInt32), .int (s.1 56 3)] (hp s) 0 0 _
  refine Ev.icmp_lt (off := 26) (tgt := 32) (by decide +kernel) (by decide) (fun b1 => ?_) (fun b1 => ?_)
  · have hf := (if_pos b1).symm.trans hf
    exact (e_X0_remember_j32 hd) p0 s _ hf
  · have hf := (if_neg b1).symm.trans hf
    refine Ev.blk (pc' := 23) [(.aload_n 0, 0, 0, 0), (.getfield 19, 0, 0, 2), (.bipush 17, 0, 0, 0), (.aload_n 0, 0, 0, 0), (.getfield 19, 0, 0, 2), (.iconst 0, 0, 0, 0), (.sipush 323, 0, 0, 0)] (by decide +kernel) ⟨kf_0_19, ⟨kf_0_19, trivial⟩⟩ rfl (And.intro (kc rfl rfl) (Exists.intro 58 (And.intro rfl (And.intro (kc rfl rfl) (Exists.intro 58 (And.intro rfl (?_)))))))
    show Ev l d mi_X0_remember 23 [some (.ref 56), some (.ref p0), none] [.int ((Int16.ofInt 323).toInt32), .int (Int32.ofInt 0), .ref 58, .int ((Int8.ofInt 17).toInt32), .ref 58] (hp s) 0 0 _
    obtain ⟨c2, hf⟩ := gd_some hf
    refine Ev.arraycopy ky_0_42 wac1 wac2 wac3 (kc rfl rfl) (kc rfl rfl) (cp_1 c2) (cp_2 c2) (cp_3 c2) (cp_4 c2) (cp_5 c2) (by omega) (Nat.le_of_ble_eq_true rfl) (by decide +kernel) ?_
    show Ev l d mi_X0_remember 26 [some (.ref 56), some (.ref p0), none] [] (hp (cp s 58 58 ((Int8.ofInt 17).toInt32).toNatClampNeg (Int32.ofInt 0).toNatClampNeg ((Int16.ofInt 323).toInt32).toNatClampNeg)) 0 0 _
    obtain ⟨s3, hs3, hf⟩ := lt_some hf
    refine Ev.blk (pc' := 32) [(.aload_n 0, 0, 0, 0), (.bipush 19, 0, 0, 0), (.putfield 22, 0, 0, 3)] (by decide +kernel) ⟨⟨kf_0_22, Or.inl rfl⟩, trivial⟩ rfl (And.intro (kc rfl rfl) (?_))
    show Ev l d mi_X0_remember 32 [some (.ref 56), some (.ref p0), none] [] (hp (uI (cp s 58 58 ((Int8.ofInt 17).toInt32).toNatClampNeg (Int32.ofInt 0).toNatClampNeg ((Int16.ofInt 323).toInt32).toNatClampNeg) 56 3 ((Int8.ofInt 19).toInt32))) 0 0 _
    rw [← hs3]
    exact (e_X0_remember_j32 hd) p0 s3 _ hf
def f_J7_fill_53178_L5 : Nat → Nat → Int32 → Int32 → Int32 → ST → Option (ST)
  | 0, _, _, _, _, _ => none
  | n + 1, x0, x1, x2, x3, s => (if x3 ≤ x2 then some s else gd (kk x0 13) (gd (ib x2 (K0 x0).2) (lt (uI s x0 x2.toNatClampNeg x1) (fun s5 => (f_J7_fill_53178_L5 n) x0 x1 (x2 + Int32.ofInt 1) x3 s5))))
set_option maxHeartbeats 2000000 in
set_option maxRecDepth 20000 in
theorem e_J7_fill_53178_L5 {l : Launch} {d : Nat} (hd : 1 ≤ d) : ∀ (n : Nat) (x0 : Nat) (x1 : Int32) (x2 : Int32) (x3 : Int32) (s : ST) (r : ST), f_J7_fill_53178_L5 n x0 x1 x2 x3 s = some r → Ev l d mi_J7_fill_53178 5 [some (.ref x0), some (.int x1), some (.int x2), some (.int x3)] [] (hp s) 0 0 (none, hp r) := by
  intro n
  induction n with
  | zero =>
    intro x0 x1 x2 x3 s r hf
    cases hf
  | succ n ih =>
    intro x0 x1 x2 x3 s r hf
    unfold f_J7_fill_53178_L5 at hf
    refine Ev.blk (pc' := 7) [(.iload_n 2, 0, 0, 0), (.iload_n 3, 0, 0, 0)] (by decide +kernel) trivial rfl (?_)
    show Ev l d mi_J7_fill_53178 7 [some (.ref x0), some (.int x1), some (.int x2), some (.int x3)] [.int x3, .int x2] (hp s) 0 0 _
    refine Ev.icmp_ge (off := 13) (tgt := 20) (by decide +kernel) (by decide) (fun b2 => ?_) (fun b2 => ?_)
    · have hf := (if_pos b2).symm.trans hf
      cases hf
      exact Ev.vret rfl (by decide +kernel) (Nat.le_refl _) (Nat.le_refl _)
    · have hf := (if_neg b2).symm.trans hf
      obtain ⟨c3, hf⟩ := gd_some hf
      obtain ⟨c4, hf⟩ := gd_some hf
      obtain ⟨s5, hs5, hf⟩ := lt_some hf
      refine Ev.blk (pc' := 17) [(.aload_n 0, 0, 0, 0), (.iload_n 2, 0, 0, 0), (.iload_n 1, 0, 0, 0), (.iastore, 0, 0, 0), (.iinc 2 1, 0, 0, 0)] (by decide +kernel) trivial rfl (And.intro (kk_ok c3) (And.intro (ib_ok c4) (And.intro (Nat.le_of_ble_eq_true rfl) (?_))))
      show Ev l d mi_J7_fill_53178 17 [some (.ref x0), some (.int x1), some (.int (x2 + Int32.ofInt 1)), some (.int x3)] [] (hp (uI s x0 x2.toNatClampNeg x1)) 0 0 _
      rw [← hs5]
      refine Ev.goto (off := -12) (tgt := 5) (by decide +kernel) (by decide) ?_
      exact ih x0 x1 (x2 + Int32.ofInt 1) x3 s5 _ hf
def f_J7_fill_53178 (p0 : Nat) (p1 : Int32) (s : ST) : Option (ST) := gd (kr p0) ((f_J7_fill_53178_L5 fuel) p0 p1 (Int32.ofInt 0) (Int32.ofNat (K0 p0).2) s)
set_option maxHeartbeats 2000000 in
set_option maxRecDepth 20000 in
theorem e_J7_fill_53178 {l : Launch} {d : Nat} (hd : 1 ≤ d) (p0 : Nat) (p1 : Int32) (s : ST) (r : ST) (hf : f_J7_fill_53178 p0 p1 s = some r) : Cl l d mi_J7_fill_53178 [.ref p0, .int p1] (hp s) (none, hp r) := by
  refine Ev.entry (by decide +kernel) rfl rfl ?_
  show Ev l d mi_J7_fill_53178 0 [some (.ref p0), some (.int p1), none, none] [] (hp s) 0 0 _
  unfold f_J7_fill_53178 at hf
  obtain ⟨c1, hf⟩ := gd_some hf
  refine Ev.blk (pc' := 5) [(.iconst 0, 0, 0, 0), (.istore_n 2, 0, 0, 0), (.aload_n 0, 0, 0, 0), (.arraylength, 0, 0, 0), (.istore_n 3, 0, 0, 0)] (by decide +kernel) trivial rfl (And.intro (Nat.le_of_ble_eq_true rfl) (And.intro (kr_ok c1) (And.intro (Nat.le_of_ble_eq_true rfl) (?_))))
  show Ev l d mi_J7_fill_53178 5 [some (.ref p0), some (.int p1), some (.int (Int32.ofInt 0)), some (.int (Int32.ofNat (K0 p0).2))] [] (hp s) 0 0 _
  exact (e_J7_fill_53178_L5 hd fuel) p0 p1 (Int32.ofInt 0) (Int32.ofNat (K0 p0).2) s _ hf
def f_X3_leadOf (o : Nat) (p0 : Int32) (s : ST) : Option (Int32 × ST) := gd (kk o 3) ((RR s.2.2 o 0).bind (fun a2 => gd (kk a2 4) ((RR s.2.2 a2 6).bind (fun a4 => (RR s.2.2 o 0).bind (fun a5 => gd (kk a5 4) ((RR s.2.2 a5 9).bind (fun a7 => gd (kk a7 13) (gd (ib p0 (K0 a7).2) (gd (kk a4 13) (gd (ib (s.1 a7 p0.toNatClampNeg) (K0 a4).2) ((RR s.2.2 o 0).bind (fun a12 => gd (kk a12 4) ((RR s.2.2 a12 10).bind (fun a14 => gd (kk a14 13) (gd (ib p0 (K0 a14).2) ((if (s.1 a14 p0.toNatClampNeg) = 0 then some ((s.1 a4 (s.1 a7 p0.toNatClampNeg).toNatClampNeg), s) else some ((-(s.1 a4 (s.1 a7 p0.toNatClampNeg).toNatClampNeg)), s))))))))))))))))))
set_option maxHeartbeats 2000000 in
set_option maxRecDepth 20000 in
theorem e_X3_leadOf {l : Launch} {d : Nat} (hd : 1 ≤ d) (o : Nat) (p0 : Int32) (s : ST) (r : Int32 × ST) (hf : f_X3_leadOf o p0 s = some r) : Cl l d mi_X3_leadOf [.ref o, .int p0] (hp s) (some (.int r.1), hp r.2) := by
  refine Ev.entry (by decide +kernel) rfl rfl ?_
  show Ev l d mi_X3_leadOf 0 [some (.ref o), some (.int p0), none] [] (hp s) 0 0 _
  unfold f_X3_leadOf at hf
  obtain ⟨c1, hf⟩ := gd_some hf
  obtain ⟨a2, ha2, hf⟩ := bd_some hf
  obtain ⟨c3, hf⟩ := gd_some hf
  obtain ⟨a4, ha4, hf⟩ := bd_some hf
  obtain ⟨a5, ha5, hf⟩ := bd_some hf
  obtain ⟨c6, hf⟩ := gd_some hf
  obtain ⟨a7, ha7, hf⟩ := bd_some hf
  obtain ⟨c8, hf⟩ := gd_some hf
  obtain ⟨c9, hf⟩ := gd_some hf
  obtain ⟨c10, hf⟩ := gd_some hf
  obtain ⟨c11, hf⟩ := gd_some hf
  obtain ⟨a12, ha12, hf⟩ := bd_some hf
  obtain ⟨c13, hf⟩ := gd_some hf
  obtain ⟨a14, ha14, hf⟩ := bd_some hf
  obtain ⟨c15, hf⟩ := gd_some hf
  obtain ⟨c16, hf⟩ := gd_some hf
  refine Ev.blk (pc' := 27) [(.aload_n 0, 0, 0, 0), (.getfield 56, 0, 3, 0), (.getfield 109, 0, 4, 6), (.aload_n 0, 0, 0, 0), (.getfield 56, 0, 3, 0), (.getfield 112, 0, 4, 9), (.iload_n 1, 0, 0, 0), (.iaload, 0, 0, 0), (.iaload, 0, 0, 0), (.istore_n 2, 0, 0, 0), (.aload_n 0, 0, 0, 0), (.getfield 56, 0, 3, 0), (.getfield 106, 0, 4, 10), (.iload_n 1, 0, 0, 0), (.iaload, 0, 0, 0)] (by decide +kernel) ⟨kf_3_56, ⟨kf_3_109, ⟨kf_3_56, ⟨kf_3_112, ⟨kf_3_56, ⟨kf_3_106, trivial⟩⟩⟩⟩⟩⟩ rfl (And.intro (kk_ok c1) (Exists.intro a2 (And.intro ha2 (And.intro (kk_ok c3) (Exists.intro a4 (And.intro ha4 (And.intro (kk_ok c1) (Exists.intro a5 (And.intro ha5 (And.intro (kk_ok c6) (Exists.intro a7 (And.intro ha7 (And.intro (kk_ok c8) (And.intro (ib_ok c9) (And.intro (kk_ok c10) (And.intro (ib_ok c11) (And.intro (Nat.le_of_ble_eq_true rfl) (And.intro (kk_ok c1) (Exists.intro a12 (And.intro ha12 (And.intro (kk_ok c13) (Exists.intro a14 (And.intro ha14 (And.intro (kk_ok c15) (And.intro (ib_ok c16) (?_))))))))))))))))))))))))))
  show Ev l d mi_X3_leadOf 27 [some (.ref o), some (.int p0), some (.int (s.1 a4 (s.1 a7 p0.toNatClampNeg).toNatClampNeg))] [.int (s.1 a14 p0.toNatClampNeg)] (hp s) 0 0 _
  refine Ev.if_ne (off := 7) (tgt := 34) (by decide +kernel) (by decide) (fun b17 => ?_) (fun b17 => ?_)
  · have hf := (if_neg b17).symm.trans hf
    refine Ev.blk (pc' := 36) [(.iload_n 2, 0, 0, 0), (.ineg, 0, 0, 0)] (by decide +kernel) trivial rfl (?_)
    show Ev l d mi_X3_leadOf 36 [some (.ref o), some (.int p0), some (.int (s.1 a4 (s.1 a7 p0.toNatClampNeg).toNatClampNeg))] [.int (-(s.1 a4 (s.1 a7 p0.toNatClampNeg).toNatClampNeg))] (hp s) 0 0 _
    cases hf
    exact Ev.iret .int rfl rfl (by decide +kernel) (Nat.le_refl _) (Nat.le_refl _)
  · have hf := (if_pos b17).symm.trans hf
    refine Ev.blk (pc' := 31) [(.iload_n 2, 0, 0, 0)] (by decide +kernel) trivial rfl (?_)
    show Ev l d mi_X3_leadOf 31 [some (.ref o), some (.int p0), some (.int (s.1 a4 (s.1 a7 p0.toNatClampNeg).toNatClampNeg))] [.int (s.1 a4 (s.1 a7 p0.toNatClampNeg).toNatClampNeg)] (hp s) 0 0 _
    refine Ev.goto (off := 5) (tgt := 36) (by decide +kernel) (by decide) ?_
    cases hf
    exact Ev.iret .int rfl rfl (by decide +kernel) (Nat.le_refl _) (Nat.le_refl _)
def f_X3_set (o : Nat) (p0 : Int32) (p1 : Int32) (s : ST) : Option (ST) := gd (kk o 3) ((RR s.2.2 o 4).bind (fun a2 => gd (kk a2 13) (gd (ib p0 (K0 a2).2) ((RR (uI s a2 p0.toNatClampNeg p1).2.2 o 6).bind (fun a5 => gd (kk a5 13) (gd (ib p1 (K0 a5).2) ((RR (uI (uI s a2 p0.toNatClampNeg p1) a5 p1.toNatClampNeg p0).2.2 o 7).bind (fun a8 => (RR (uI (uI s a2 p0.toNatClampNeg p1) a5 p1.toNatClampNeg p0).2.2 o 0).bind (fun a9 => gd (kk a9 4) ((RR (uI (uI s a2 p0.toNatClampNeg p1) a5 p1.toNatClampNeg p0).2.2 a9 10).bind (fun a11 => gd (kk a11 13) (gd (ib p0 (K0 a11).2) (gd (kk a8 13) (gd (ib ((uI (uI s a2 p0.toNatClampNeg p1) a5 p1.toNatClampNeg p0).1 a11 p0.toNatClampNeg) (K0 a8).2) (gd (ib ((uI (uI s a2 p0.toNatClampNeg p1) a5 p1.toNatClampNeg p0).1 a11 p0.toNatClampNeg) (K0 a8).2) (lt (uI (uI (uI s a2 p0.toNatClampNeg p1) a5 p1.toNatClampNeg p0) a8 ((uI (uI s a2 p0.toNatClampNeg p1) a5 p1.toNatClampNeg p0).1 a11 p0.toNatClampNeg).toNatClampNeg (((uI (uI s a2 p0.toNatClampNeg p1) a5 p1.toNatClampNeg p0).1 a8 ((uI (uI s a2 p0.toNatClampNeg p1) a5 p1.toNatClampNeg p0).1 a11 p0.toNatClampNeg).toNatClampNeg) ||| ((Int32.ofInt 1) <<< (p1 &&& 31)))) (fun s17 => some s17)))))))))))))))))
set_option maxHeartbeats 2000000 in
set_option maxRecDepth 20000 in
theorem e_X3_set {l : Launch} {d : Nat} (hd : 1 ≤ d) (o : Nat) (p0 : Int32) (p1 : Int32) (s : ST) (r : ST) (hf : f_X3_set o p0 p1 s = some r) : Cl l d mi_X3_set [.ref o, .int p0, .int p1] (hp s) (none, hp r) := by
  refine Ev.entry (by decide +kernel) rfl rfl ?_
  show Ev l d mi_X3_set 0 [some (.ref o), some (.int p0), some (.int p1)] [] (hp s) 0 0 _
  unfold f_X3_set at hf
  obtain ⟨c1, hf⟩ := gd_some hf
  obtain ⟨a2, ha2, hf⟩ := bd_some hf
  obtain ⟨c3, hf⟩ := gd_some hf
  obtain ⟨c4, hf⟩ := gd_some hf
  obtain ⟨a5, ha5, hf⟩ := bd_some hf
  obtain ⟨c6, hf⟩ := gd_some hf
  obtain ⟨c7, hf⟩ := gd_some hf
  obtain ⟨a8, ha8, hf⟩ := bd_some hf
  obtain ⟨a9, ha9, hf⟩ := bd_some hf
  obtain ⟨c10, hf⟩ := gd_some hf
  obtain ⟨a11, ha11, hf⟩ := bd_some hf
  obtain ⟨c12, hf⟩ := gd_some hf
  obtain ⟨c13, hf⟩ := gd_some hf
  obtain ⟨c14, hf⟩ := gd_some hf
  obtain ⟨c15, hf⟩ := gd_some hf
  obtain ⟨c16, hf⟩ := gd_some hf
  obtain ⟨s17, hs17, hf⟩ := lt_some hf
  refine Ev.blk (pc' := 34) [(.aload_n 0, 0, 0, 0), (.getfield 22, 0, 3, 4), (.iload_n 1, 0, 0, 0), (.iload_n 2, 0, 0, 0), (.iastore, 0, 0, 0), (.aload_n 0, 0, 0, 0), (.getfield 28, 0, 3, 6), (.iload_n 2, 0, 0, 0), (.iload_n 1, 0, 0, 0), (.iastore, 0, 0, 0), (.aload_n 0, 0, 0, 0), (.getfield 31, 0, 3, 7), (.aload_n 0, 0, 0, 0), (.getfield 56, 0, 3, 0), (.getfield 106, 0, 4, 10), (.iload_n 1, 0, 0, 0), (.iaload, 0, 0, 0), (.dup2, 0, 0, 0), (.iaload, 0, 0, 0), (.iconst 1, 0, 0, 0), (.iload_n 2, 0, 0, 0), (.ishl, 0, 0, 0), (.ior, 0, 0, 0), (.iastore, 0, 0, 0)] (by decide +kernel) ⟨kf_3_22, ⟨kf_3_28, ⟨kf_3_31, ⟨kf_3_56, ⟨kf_3_106, trivial⟩⟩⟩⟩⟩ rfl (And.intro (kk_ok c1) (Exists.intro a2 (And.intro ha2 (And.intro (kk_ok c3) (And.intro (ib_ok c4) (And.intro (kk_ok c1) (Exists.intro a5 (And.intro ha5 (And.intro (kk_ok c6) (And.intro (ib_ok c7) (And.intro (kk_ok c1) (Exists.intro a8 (And.intro ha8 (And.intro (kk_ok c1) (Exists.intro a9 (And.intro ha9 (And.intro (kk_ok c10) (Exists.intro a11 (And.intro ha11 (And.intro (kk_ok c12) (And.intro (ib_ok c13) (And.intro (And.intro rfl rfl) (And.intro (kk_ok c14) (And.intro (ib_ok c15) (And.intro (kk_ok c14) (And.intro (ib_ok c16) (?_)))))))))))))))))))))))))))
  show Ev l d mi_X3_set 34 [some (.ref o), some (.int p0), some (.int p1)] [] (hp (uI (uI (uI s a2 p0.toNatClampNeg p1) a5 p1.toNatClampNeg p0) a8 ((uI (uI s a2 p0.toNatClampNeg p1) a5 p1.toNatClampNeg p0).1 a11 p0.toNatClampNeg).toNatClampNeg (((uI (uI s a2 p0.toNatClampNeg p1) a5 p1.toNatClampNeg p0).1 a8 ((uI (uI s a2 p0.toNatClampNeg p1) a5 p1.toNatClampNeg p0).1 a11 p0.toNatClampNeg).toNatClampNeg) ||| ((Int32.ofInt 1) <<< (p1 &&& 31))))) 0 0 _
  rw [← hs17]
  cases hf
  exact Ev.vret rfl (by decide +kernel) (Nat.le_refl _) (Nat.le_refl _)
def f_X4_isCrown (o : Nat) (p0 : Int32) (s : ST) : Option (Int32 × ST) := (if p0 < 0 then some ((Int32.ofInt 0), s) else gd (kk o 4) ((if (s.1 o 8) ≤ p0 then some ((Int32.ofInt 0), s) else (RR s.2.2 o 7).bind (fun a4 => (RR s.2.2 o 9).bind (fun a5 => gd (kk a5 13) (gd (ib p0 (K0 a5).2) (gd (kk a4 13) (gd (ib (s.1 a5 p0.toNatClampNeg) (K0 a4).2) ((if (s.1 a4 (s.1 a5 p0.toNatClampNeg).toNatClampNeg) = (Int32.ofInt 1) then some ((Int32.ofInt 1), s) else some ((Int32.ofInt 0), s)))))))))))
set_option maxHeartbeats 2000000 in
set_option maxRecDepth 20000 in
theorem e_X4_isCrown {l : Launch} {d : Nat} (hd : 1 ≤ d) (o : Nat) (p0 : Int32) (s : ST) (r : Int32 × ST) (hf : f_X4_isCrown o p0 s = some r) : Cl l d mi_X4_isCrown [.ref o, .int p0] (hp s) (some (.int r.1), hp r.2) := by
  refine Ev.entry (by decide +kernel) rfl rfl ?_
  show Ev l d mi_X4_isCrown 0 [some (.ref o), some (.int p0)] [] (hp s) 0 0 _
  unfold f_X4_isCrown at hf
  refine Ev.blk (pc' := 1) [(.iload_n 1, 0, 0, 0)] (by decide +kernel) trivial rfl (?_)
  show Ev l d mi_X4_isCrown 1 [some (.ref o), some (.int p0)] [.int p0] (hp s) 0 0 _
  refine Ev.if_lt (off := 30) (tgt := 31) (by decide +kernel) (by decide) (fun b1 => ?_) (fun b1 => ?_)
  · have hf := (if_pos b1).symm.trans hf
    refine Ev.blk (pc' := 32) [(.iconst 0, 0, 0, 0)] (by decide +kernel) trivial rfl (?_)
    show Ev l d mi_X4_isCrown 32 [some (.ref o), some (.int p0)] [.int (Int32.ofInt 0)] (hp s) 0 0 _
    cases hf
    exact Ev.iret .boolean rfl rfl (by decide +kernel) (Nat.le_refl _) (Nat.le_refl _)
  · have hf := (if_neg b1).symm.trans hf
    obtain ⟨c2, hf⟩ := gd_some hf
    refine Ev.blk (pc' := 9) [(.iload_n 1, 0, 0, 0), (.aload_n 0, 0, 0, 0), (.getfield 37, 0, 4, 8)] (by decide +kernel) ⟨kf_4_37, trivial⟩ rfl (And.intro (kk_ok c2) (?_))
    show Ev l d mi_X4_isCrown 9 [some (.ref o), some (.int p0)] [.int (s.1 o 8), .int p0] (hp s) 0 0 _
    refine Ev.icmp_ge (off := 22) (tgt := 31) (by decide +kernel) (by decide) (fun b3 => ?_) (fun b3 => ?_)
    · have hf := (if_pos b3).symm.trans hf
      refine Ev.blk (pc' := 32) [(.iconst 0, 0, 0, 0)] (by decide +kernel) trivial rfl (?_)
      show Ev l d mi_X4_isCrown 32 [some (.ref o), some (.int p0)] [.int (Int32.ofInt 0)] (hp s) 0 0 _
      cases hf
      exact Ev.iret .boolean rfl rfl (by decide +kernel) (Nat.le_refl _) (Nat.le_refl _)
    · have hf := (if_neg b3).symm.trans hf
      obtain ⟨a4, ha4, hf⟩ := bd_some hf
      obtain ⟨a5, ha5, hf⟩ := bd_some hf
      obtain ⟨c6, hf⟩ := gd_some hf
      obtain ⟨c7, hf⟩ := gd_some hf
      obtain ⟨c8, hf⟩ := gd_some hf
      obtain ⟨c9, hf⟩ := gd_some hf
      refine Ev.blk (pc' := 24) [(.aload_n 0, 0, 0, 0), (.getfield 34, 0, 4, 7), (.aload_n 0, 0, 0, 0), (.getfield 40, 0, 4, 9), (.iload_n 1, 0, 0, 0), (.iaload, 0, 0, 0), (.iaload, 0, 0, 0), (.iconst 1, 0, 0, 0)] (by decide +kernel) ⟨kf_4_34, ⟨kf_4_40, trivial⟩⟩ rfl (And.intro (kk_ok c2) (Exists.intro a4 (And.intro ha4 (And.intro (kk_ok c2) (Exists.intro a5 (And.intro ha5 (And.intro (kk_ok c6) (And.intro (ib_ok c7) (And.intro (kk_ok c8) (And.intro (ib_ok c9) (?_)))))))))))
      show Ev l d mi_X4_isCrown 24 [some (.ref o), some (.int p0)] [.int (Int32.ofInt 1), .int (s.1 a4 (s.1 a5 p0.toNatClampNeg).toNatClampNeg)] (hp s) 0 0 _
      refine Ev.icmp_ne (off := 7) (tgt := 31) (by decide +kernel) (by decide) (fun b10 => ?_) (fun b10 => ?_)
      · have hf := (if_neg b10).symm.trans hf
        refine Ev.blk (pc' := 32) [(.iconst 0, 0, 0, 0)] (by decide +kernel) trivial rfl (?_)
        show Ev l d mi_X4_isCrown 32 [some (.ref o), some (.int p0)] [.int (Int32.ofInt 0)] (hp s) 0 0 _
        cases hf
        exact Ev.iret .boolean rfl rfl (by decide +kernel) (Nat.le_refl _) (Nat.le_refl _)
      · have hf := (if_pos b10).symm.trans hf
        refine Ev.blk (pc' := 28) [(.iconst 1, 0, 0, 0)] (by decide +kernel) trivial rfl (?_)
        show Ev l d mi_X4_isCrown 28 [some (.ref o), some (.int p0)] [.int (Int32.ofInt 1)] (hp s) 0 0 _
        refine Ev.goto (off := 4) (tgt := 32) (by decide +kernel) (by decide) ?_
        cases hf
        exact Ev.iret .boolean rfl rfl (by decide +kernel) (Nat.le_refl _) (Nat.le_refl _)
def f_X3_settle_L34 : Nat → Nat → Int32 → ST → Option (ST)
  | 0, _, _, _ => none
  | n + 1, x0, x1, s => gd (kk x0 3) ((RR s.2.2 x0 0).bind (fun a12 => gd (kk a12 4) ((if (s.1 a12 8) ≤ x1 then some s else (RR s.2.2 x0 4).bind (fun a15 => gd (kk a15 13) (gd (ib x1 (K0 a15).2) ((if (s.1 a15 x1.toNatClampNeg) < 0 then (RR s.2.2 x0 0).bind (fun a19 => (f_X4_isCrown a19 x1 s).bind (fun q20 => gd (kk a19 4) ((if q20.1 = 0 then (f_X3_settle_L34 n) x0 (x1 + Int32.ofInt 1) q20.2 else lt (uI q20.2 x0 9 ((q20.2.1 x0 9) + (Int32.ofInt 1))) (fun s23 => (f_X3_settle_L34 n) x0 (x1 + Int32.ofInt 1) s23))))) else (f_X3_set x0 x1 (s.1 a15 x1.toNatClampNeg) s).bind (fun q24 => (f_X3_leadOf x0 x1 q24).bind (fun q25 => lt (uI q25.2 x0 8 ((q24.1 x0 8) + q25.1)) (fun s26 => (f_X3_settle_L34 n) x0 (x1 + Int32.ofInt 1) s26)))))))))))
set_option maxHeartbeats 2000000 in
set_option maxRecDepth 20000 in
theorem e_X3_settle_L34 {l : Launch} {d : Nat} (hd : 2 ≤ d) : ∀ (n : Nat) (x0 : Nat) (x1 : Int32) (s : ST) (r : ST), f_X3_settle_L34 n x0 x1 s = some r → Ev l d mi_X3_settle 34 [some (.ref x0), some (.int x1), none] [] (hp s) 0 0 (none, hp r) := by
  intro n
  induction n with
  | zero =>
    intro x0 x1 s r hf
    cases hf
  | succ n ih =>
    intro x0 x1 s r hf
    unfold f_X3_settle_L34 at hf
    obtain ⟨c11, hf⟩ := gd_some hf
    obtain ⟨a12, ha12, hf⟩ := bd_some hf
    obtain ⟨c13, hf⟩ := gd_some hf
    refine Ev.blk (pc' := 42) [(.iload_n 1, 0, 0, 0), (.aload_n 0, 0, 0, 0), (.getfield 56, 0, 3, 0), (.getfield 66, 0, 4, 8)] (by decide +kernel) ⟨kf_3_56, ⟨kf_3_66, trivial⟩⟩ rfl (And.intro (kk_ok c11) (Exists.intro a12 (And.intro ha12 (And.intro (kk_ok c13) (?_)))))
    show Ev l d mi_X3_settle 42 [some (.ref x0), some (.int x1), none] [.int (s.1 a12 8), .int x1] (hp s) 0 0 _
    refine Ev.icmp_ge (off := 64) (tgt := 106) (by decide +kernel) (by decide) (fun b14 => ?_) (fun b14 => ?_)
    · have hf := (if_pos b14).symm.trans hf
      cases hf
      exact Ev.vret rfl (by decide +kernel) (Nat.le_refl _) (Nat.le_refl _)
    · have hf := (if_neg b14).symm.trans hf
      obtain ⟨a15, ha15, hf⟩ := bd_some hf
      obtain ⟨c16, hf⟩ := gd_some hf
      obtain ⟨c17, hf⟩ := gd_some hf
      refine Ev.blk (pc' := 53) [(.aload_n 0, 0, 0, 0), (.getfield 22, 0, 3, 4), (.iload_n 1, 0, 0, 0), (.iaload, 0, 0, 0), (.istore_n 2, 0, 0, 0), (.iload_n 2, 0, 0, 0)] (by decide +kernel) ⟨kf_3_22, trivial⟩ rfl (And.intro (kk_ok c11) (Exists.intro a15 (And.intro ha15 (And.intro (kk_ok c16) (And.intro (ib_ok c17) (And.intro (Nat.le_of_ble_eq_true rfl) (?_)))))))
      show Ev l d mi_X3_settle 53 [some (.ref x0), some (.int x1), some (.int (s.1 a15 x1.toNatClampNeg))] [.int (s.1 a15 x1.toNatClampNeg)] (hp s) 0 0 _
      refine Ev.if_lt (off := 26) (tgt := 79) (by decide +kernel) (by decide) (fun b18 => ?_) (fun b18 => ?_)
      · have hf := (if_pos b18).symm.trans hf
        obtain ⟨a19, ha19, hf⟩ := bd_some hf
        refine Ev.blk (pc' := 84) [(.aload_n 0, 0, 0, 0), (.getfield 56, 0, 3, 0), (.iload_n 1, 0, 0, 0)] (by decide +kernel) ⟨kf_3_56, trivial⟩ rfl (And.intro (kk_ok c11) (Exists.intro a19 (And.intro ha19 (?_))))
        show Ev l d mi_X3_settle 84 [some (.ref x0), some (.int x1), some (.int (s.1 a15 x1.toNatClampNeg))] [.int x1, .ref a19] (hp s) 0 0 _
        obtain ⟨q20, hq20, hf⟩ := bd_some hf
        obtain ⟨c21, hf⟩ := gd_some hf
        refine Ev.callV (o := a19) (M' := mi_X4_isCrown) (d' := d - 1) (As := [.int x1]) (rest := []) (r' := (some (.int q20.1), hp q20.2)) (e_X4_isCrown (d := d - 1) (by omega) a19 x1 s _ hq20) (by omega) wm_X4_isCrown wi_X4_isCrown wv_X4_isCrown km_3_98 (kk_ok c21) (Nat.le_of_ble_eq_true rfl) rfl rfl rfl (Nat.le_of_ble_eq_true rfl) ⟨Nat.le_of_ble_eq_true rfl, Nat.le_of_ble_eq_true rfl⟩ (by decide +kernel) ?_
        show Ev l d mi_X3_settle 87 [some (.ref x0), some (.int x1), some (.int (s.1 a15 x1.toNatClampNeg))] [.int q20.1] (hp q20.2) 0 0 _
        refine Ev.if_eq (off := 13) (tgt := 100) (by decide +kernel) (by decide) (fun b22 => ?_) (fun b22 => ?_)
        · have hf := (if_pos b22).symm.trans hf
          refine Ev.blk (pc' := 103) [(.iinc 1 1, 0, 0, 0)] (by decide +kernel) trivial rfl (And.intro (Nat.le_of_ble_eq_true rfl) (?_))
          show Ev l d mi_X3_settle 103 [some (.ref x0), some (.int (x1 + Int32.ofInt 1)), some (.int (s.1 a15 x1.toNatClampNeg))] [] (hp q20.2) 0 0 _
          refine Ev.goto (off := -69) (tgt := 34) (by decide +kernel) (by decide) ?_
          exact Ev.wk (ih x0 (x1 + Int32.ofInt 1) q20.2 _ hf) (And.intro (Or.inr rfl) (And.intro (Or.inr rfl) (And.intro (Or.inl rfl) (trivial))))
        · have hf := (if_neg b22).symm.trans hf
          obtain ⟨s23, hs23, hf⟩ := lt_some hf
          refine Ev.blk (pc' := 103) [(.aload_n 0, 0, 0, 0), (.dup, 0, 0, 0), (.getfield 37, 0, 3, 9), (.iconst 1, 0, 0, 0), (.iadd, 0, 0, 0), (.putfield 37, 0, 3, 9), (.iinc 1 1, 0, 0, 0)] (by decide +kernel) ⟨kf_3_37, ⟨⟨kf_3_37, Or.inl rfl⟩, trivial⟩⟩ rfl (And.intro rfl (And.intro (kk_ok c11) (And.intro (kk_ok c11) (And.intro (Nat.le_of_ble_eq_true rfl) (?_)))))
          show Ev l d mi_X3_settle 103 [some (.ref x0), some (.int (x1 + Int32.ofInt 1)), some (.int (s.1 a15 x1.toNatClampNeg))] [] (hp (uI q20.2 x0 9 ((q20.2.1 x0 9) + (Int32.ofInt 1)))) 0 0 _
          rw [← hs23]
          refine Ev.goto (off := -69) (tgt := 34) (by decide +kernel) (by decide) ?_
          exact Ev.wk (ih x0 (x1 + Int32.ofInt 1) s23 _ hf) (And.intro (Or.inr rfl) (And.intro (Or.inr rfl) (And.intro (Or.inl rfl) (trivial))))
      · have hf := (if_neg b18).symm.trans hf
        refine Ev.blk (pc' := 59) [(.aload_n 0, 0, 0, 0), (.iload_n 1, 0, 0, 0), (.iload_n 2, 0, 0, 0)] (by decide +kernel) trivial rfl (?_)
        show Ev l d mi_X3_settle 59 [some (.ref x0), some (.int x1), some (.int (s.1 a15 x1.toNatClampNeg))] [.int (s.1 a15 x1.toNatClampNeg), .int x1, .ref x0] (hp s) 0 0 _
        obtain ⟨q24, hq24, hf⟩ := bd_some hf
        refine Ev.callV (o := x0) (M' := mi_X3_set) (d' := d - 1) (As := [.int x1, .int (s.1 a15 x1.toNatClampNeg)]) (rest := []) (r' := (none, hp q24)) (e_X3_set (d := d - 1) (by omega) x0 x1 (s.1 a15 x1.toNatClampNeg) s _ hq24) (by omega) wm_X3_set wi_X3_set wv_X3_set km_3_90 (kk_ok c11) (Nat.le_of_ble_eq_true rfl) rfl rfl rfl (Nat.le_of_ble_eq_true rfl) ⟨Nat.le_of_ble_eq_true rfl, Nat.le_of_ble_eq_true rfl⟩ (by decide +kernel) ?_
        show Ev l d mi_X3_settle 62 [some (.ref x0), some (.int x1), some (.int (s.1 a15 x1.toNatClampNeg))] [] (hp q24) 0 0 _
        refine Ev.blk (pc' := 69) [(.aload_n 0, 0, 0, 0), (.dup, 0, 0, 0), (.getfield 34, 0, 3, 8), (.aload_n 0, 0, 0, 0), (.iload_n 1, 0, 0, 0)] (by decide +kernel) ⟨kf_3_34, trivial⟩ rfl (And.intro rfl (And.intro (kk_ok c11) (?_)))
        show Ev l d mi_X3_settle 69 [some (.ref x0), some (.int x1), some (.int (s.1 a15 x1.toNatClampNeg))] [.int x1, .ref x0, .int (q24.1 x0 8), .ref x0] (hp q24) 0 0 _
        obtain ⟨q25, hq25, hf⟩ := bd_some hf
        refine Ev.callV (o := x0) (M' := mi_X3_leadOf) (d' := d - 1) (As := [.int x1]) (rest := [.int (q24.1 x0 8), .ref x0]) (r' := (some (.int q25.1), hp q25.2)) (e_X3_leadOf (d := d - 1) (by omega) x0 x1 q24 _ hq25) (by omega) wm_X3_leadOf wi_X3_leadOf wv_X3_leadOf km_3_94 (kk_ok c11) (Nat.le_of_ble_eq_true rfl) rfl rfl rfl (Nat.le_of_ble_eq_true rfl) ⟨Nat.le_of_ble_eq_true rfl, Nat.le_of_ble_eq_true rfl⟩ (by decide +kernel) ?_
        show Ev l d mi_X3_settle 72 [some (.ref x0), some (.int x1), some (.int (s.1 a15 x1.toNatClampNeg))] [.int q25.1, .int (q24.1 x0 8), .ref x0] (hp q25.2) 0 0 _
        obtain ⟨s26, hs26, hf⟩ := lt_some hf
        refine Ev.blk (pc' := 76) [(.iadd, 0, 0, 0), (.putfield 34, 0, 3, 8)] (by decide +kernel) ⟨⟨kf_3_34, Or.inl rfl⟩, trivial⟩ rfl (And.intro (kk_ok c11) (?_))
        show Ev l d mi_X3_settle 76 [some (.ref x0), some (.int x1), some (.int (s.1 a15 x1.toNatClampNeg))] [] (hp (uI q25.2 x0 8 ((q24.1 x0 8) + q25.1))) 0 0 _
        rw [← hs26]
        refine Ev.goto (off := 24) (tgt := 100) (by decide +kernel) (by decide) ?_
        refine Ev.blk (pc' := 103) [(.iinc 1 1, 0, 0, 0)] (by decide +kernel) trivial rfl (And.intro (Nat.le_of_ble_eq_true rfl) (?_))
        show Ev l d mi_X3_settle 103 [some (.ref x0), some (.int (x1 + Int32.ofInt 1)), some (.int (s.1 a15 x1.toNatClampNeg))] [] (hp s26) 0 0 _
        refine Ev.goto (off := -69) (tgt := 34) (by decide +kernel) (by decide) ?_
        exact Ev.wk (ih x0 (x1 + Int32.ofInt 1) s26 _ hf) (And.intro (Or.inr rfl) (And.intro (Or.inr rfl) (And.intro (Or.inl rfl) (trivial))))
def f_X3_settle (o : Nat) (s : ST) : Option (ST) := gd (kk o 3) ((RR s.2.2 o 6).bind (fun a2 => (f_J7_fill_53178 a2 (Int32.ofInt (-1)) s).bind (fun q3 => (RR q3.2.2 o 7).bind (fun a4 => gd (kk a4 13) (gd (ib (Int32.ofInt 0) (K0 a4).2) ((RR (uI q3 a4 (Int32.ofInt 0).toNatClampNeg (Int32.ofInt 0)).2.2 o 7).bind (fun a7 => gd (kk a7 13) (gd (ib (Int32.ofInt 1) (K0 a7).2) (lt (uI (uI (uI (uI q3 a4 (Int32.ofInt 0).toNatClampNeg (Int32.ofInt 0)) a7 (Int32.ofInt 1).toNatClampNeg (Int32.ofInt 0)) o 8 (Int32.ofInt 0)) o 9 (Int32.ofInt 0)) (fun s10 => (f_X3_settle_L34 fuel) o (Int32.ofInt 0) s10))))))))))
set_option maxHeartbeats 2000000 in
set_option maxRecDepth 20000 in
theorem e_X3_settle {l : Launch} {d : Nat} (hd : 2 ≤ d) (o : Nat) (s : ST) (r : ST) (hf : f_X3_settle o s = some r) : Cl l d mi_X3_settle [.ref o] (hp s) (none, hp r) := by
  refine Ev.entry (by decide +kernel) rfl rfl ?_
  show Ev l d mi_X3_settle 0 [some (.ref o), none, none] [] (hp s) 0 0 _
  unfold f_X3_settle at hf
  obtain ⟨c1, hf⟩ := gd_some hf
  obtain ⟨a2, ha2, hf⟩ := bd_some hf
  refine Ev.blk (pc' := 5) [(.aload_n 0, 0, 0, 0), (.getfield 28, 0, 3, 6), (.iconst (-1), 0, 0, 0)] (by decide +kernel) ⟨kf_3_28, trivial⟩ rfl (And.intro (kk_ok c1) (Exists.intro a2 (And.intro ha2 (?_))))
  show Ev l d mi_X3_settle 5 [some (.ref o), none, none] [.int (Int32.ofInt (-1)), .ref a2] (hp s) 0 0 _
  obtain ⟨q3, hq3, hf⟩ := bd_some hf
  refine Ev.callS (M' := mi_J7_fill_53178) (d' := d - 1) (As := [.ref a2, .int (Int32.ofInt (-1))]) (rest := []) (r' := (none, hp q3)) (e_J7_fill_53178 (d := d - 1) (by omega) a2 (Int32.ofInt (-1)) s _ hq3) (by omega) wm_J7_fill_53178 wt_J7_fill_53178 km_3_84 rfl rfl rfl (Nat.le_of_ble_eq_true rfl) ⟨Nat.le_of_ble_eq_true rfl, Nat.le_of_ble_eq_true rfl⟩ (by decide +kernel) ?_
  show Ev l d mi_X3_settle 8 [some (.ref o), none, none] [] (hp q3) 0 0 _
  obtain ⟨a4, ha4, hf⟩ := bd_some hf
  obtain ⟨c5, hf⟩ := gd_some hf
  obtain ⟨c6, hf⟩ := gd_some hf
  obtain ⟨a7, ha7, hf⟩ := bd_some hf
  obtain ⟨c8, hf⟩ := gd_some hf
  obtain ⟨c9, hf⟩ := gd_some hf
  obtain ⟨s10, hs10, hf⟩ := lt_some hf
  refine Ev.blk (pc' := 34) [(.aload_n 0, 0, 0, 0), (.getfield 31, 0, 3, 7), (.iconst 0, 0, 0, 0), (.iconst 0, 0, 0, 0), (.iastore, 0, 0, 0), (.aload_n 0, 0, 0, 0), (.getfield 31, 0, 3, 7), (.iconst 1, 0, 0, 0), (.iconst 0, 0, 0, 0), (.iastore, 0, 0, 0), (.aload_n 0, 0, 0, 0), (.iconst 0, 0, 0, 0), (.putfield 34, 0, 3, 8), (.aload_n 0, 0, 0, 0), (.iconst 0, 0, 0, 0), (.putfield 37, 0, 3, 9), (.iconst 0, 0, 0, 0), (.istore_n 1, 0, 0, 0)] (by decide +kernel) ⟨kf_3_31, ⟨kf_3_31, ⟨⟨kf_3_34, Or.inl rfl⟩, ⟨⟨kf_3_37, Or.inl rfl⟩, trivial⟩⟩⟩⟩ rfl (And.intro (kk_ok c1) (Exists.intro a4 (And.intro ha4 (And.intro (kk_ok c5) (And.intro (ib_ok c6) (And.intro (kk_ok c1) (Exists.intro a7 (And.intro ha7 (And.intro (kk_ok c8) (And.intro (ib_ok c9) (And.intro (kk_ok c1) (And.intro (kk_ok c1) (And.intro (Nat.le_of_ble_eq_true rfl) (?_))))))))))))))
  show Ev l d mi_X3_settle 34 [some (.ref o), some (.int (Int32.ofInt 0)), none] [] (hp (uI (uI (uI (uI q3 a4 (Int32.ofInt 0).toNatClampNeg (Int32.ofInt 0)) a7 (Int32.ofInt 1).toNatClampNeg (Int32.ofInt 0)) o 8 (Int32.ofInt 0)) o 9 (Int32.ofInt 0))) 0 0 _
  rw [← hs10]
  exact (e_X3_settle_L34 hd fuel) o (Int32.ofInt 0) s10 _ hf
def f_X0_takeBack (p0 : Nat) (s : ST) : Option (Int32 × ST) := (if 0 < (s.1 56 3) then gd (ib (((uI s 56 3 ((s.1 56 3) - (Int32.ofInt 1))).1 56 3) * ((Int8.ofInt 17).toInt32)) 340) (gd (kk p0 3) (gd (ib ((((uI s 56 3 ((s.1 56 3) - (Int32.ofInt 1))).1 56 3) * ((Int8.ofInt 17).toInt32)) + (Int32.ofInt 1)) 340) (lt (uI (uI (uI s 56 3 ((s.1 56 3) - (Int32.ofInt 1))) p0 1 ((uI s 56 3 ((s.1 56 3) - (Int32.ofInt 1))).1 58 (((uI s 56 3 ((s.1 56 3) - (Int32.ofInt 1))).1 56 3) * ((Int8.ofInt 17).toInt32)).toNatClampNeg)) p0 2 ((uI (uI s 56 3 ((s.1 56 3) - (Int32.ofInt 1))) p0 1 ((uI s 56 3 ((s.1 56 3) - (Int32.ofInt 1))).1 58 (((uI s 56 3 ((s.1 56 3) - (Int32.ofInt 1))).1 56 3) * ((Int8.ofInt 17).toInt32)).toNatClampNeg)).1 58 ((((uI s 56 3 ((s.1 56 3) - (Int32.ofInt 1))).1 56 3) * ((Int8.ofInt 17).toInt32)) + (Int32.ofInt 1)).toNatClampNeg)) (fun s5 => lt (((uI s 56 3 ((s.1 56 3) - (Int32.ofInt 1))).1 56 3) * ((Int8.ofInt 17).toInt32)) (fun v6 => gd (ib (v6 + (Int32.ofInt 2)) 340) ((RR (uI s5 56 1 (s5.1 58 (v6 + (Int32.ofInt 2)).toNatClampNeg)).2.2 p0 4).bind (fun a8 => lt (uI s5 56 1 (s5.1 58 (v6 + (Int32.ofInt 2)).toNatClampNeg)) (fun s9 => gd (kk a8 13) (gd (cpk (v6 + (Int32.ofInt 3)) (Int32.ofInt 0) ((Int8.ofInt 8).toInt32) 340 (K0 a8).2) ((RR (cp s9 58 a8 (v6 + (Int32.ofInt 3)).toNatClampNeg (Int32.ofInt 0).toNatClampNeg ((Int8.ofInt 8).toInt32).toNatClampNeg).2.2 p0 5).bind (fun a12 => lt (cp s9 58 a8 (v6 + (Int32.ofInt 3)).toNatClampNeg (Int32.ofInt 0).toNatClampNeg ((Int8.ofInt 8).toInt32).toNatClampNeg) (fun s13 => gd (kk a12 13) (gd (cpk ((v6 + (Int32.ofInt 3)) + ((Int8.ofInt 8).toInt32)) (Int32.ofInt 0) ((Int8.ofInt 6).toInt32) 340 (K0 a12).2) (lt (cp s13 58 a12 ((v6 + (Int32.ofInt 3)) + ((Int8.ofInt 8).toInt32)).toNatClampNeg (Int32.ofInt 0).toNatClampNeg ((Int8.ofInt 6).toInt32).toNatClampNeg) (fun s16 => (f_X3_settle p0 s16).bind (fun q17 => some ((Int32.ofInt 1), q17))))))))))))))))) else some ((Int32.ofInt 0), s))
set_option maxHeartbeats 2000000 in
set_option maxRecDepth 20000 in
theorem e_X0_takeBack {l : Launch} {d : Nat} (hd : 3 ≤ d) (p0 : Nat) (s : ST) (r : Int32 × ST) (hf : f_X0_takeBack p0 s = some r) : Cl l d mi_X0_takeBack [.ref 56, .ref p0] (hp s) (some (.int r.1), hp r.2) := by
  refine Ev.entry (by decide +kernel) rfl rfl ?_
  show Ev l d mi_X0_takeBack 0 [some (.ref 56), some (.ref p0), none] [] (hp s) 0 0 _
  unfold f_X0_takeBack at hf
  refine Ev.blk (pc' := 4) [(.aload_n 0, 0, 0, 0), (.getfield 22, 0, 0, 3)] (by decide +kernel) ⟨kf_0_22, trivial⟩ rfl (And.intro (kc rfl rfl) (?_))
  show Ev l d mi_X0_takeBack 4 [some (.ref 56), some (.ref p0), none] [.int (s.1 56 3)] (hp s) 0 0 _
  refine Ev.if_gt (off := 5) (tgt := 9) (by decide +kernel) (by decide) (fun b1 => ?_) (fun b1 => ?_)
  · have hf := (if_pos b1).symm.trans hf
    obtain ⟨c2, hf⟩ := gd_some hf
    obtain ⟨c3, hf⟩ := gd_some hf
    obtain ⟨c4, hf⟩ := gd_some hf
    obtain ⟨s5, hs5, hf⟩ := lt_some hf
    obtain ⟨v6, hv6, hf⟩ := lt_some hf
    refine Ev.blk (pc' := 56) [(.aload_n 0, 0, 0, 0), (.dup, 0, 0, 0), (.getfield 22, 0, 0, 3), (.iconst 1, 0, 0, 0), (.isub, 0, 0, 0), (.putfield 22, 0, 0, 3), (.aload_n 0, 0, 0, 0), (.getfield 22, 0, 0, 3), (.bipush 17, 0, 0, 0), (.imul, 0, 0, 0), (.istore_n 2, 0, 0, 0), (.aload_n 1, 0, 0, 0), (.aload_n 0, 0, 0, 0), (.getfield 19, 0, 0, 2), (.iload_n 2, 0, 0, 0), (.iaload, 0, 0, 0), (.putfield 48, 0, 3, 1), (.aload_n 1, 0, 0, 0), (.aload_n 0, 0, 0, 0), (.getfield 19, 0, 0, 2), (.iload_n 2, 0, 0, 0), (.iconst 1, 0, 0, 0), (.iadd, 0, 0, 0), (.iaload, 0, 0, 0), (.putfield 53, 0, 3, 2), (.aload_n 0, 0, 0, 0), (.aload_n 0, 0, 0, 0), (.getfield 19, 0, 0, 2), (.iload_n 2, 0, 0, 0), (.iconst 2, 0, 0, 0)] (by decide +kernel) ⟨kf_0_22, ⟨⟨kf_0_22, Or.inl rfl⟩, ⟨kf_0_22, ⟨kf_0_19, ⟨⟨kf_0_48, Or.inl rfl⟩, ⟨kf_0_19, ⟨⟨kf_0_53, Or.inl rfl⟩, ⟨kf_0_19, trivial⟩⟩⟩⟩⟩⟩⟩⟩ rfl (And.intro rfl (And.intro (kc rfl rfl) (And.intro (kc rfl rfl) (And.intro (kc rfl rfl) (And.intro (Nat.le_of_ble_eq_true rfl) (And.intro (kc rfl rfl) (Exists.intro 58 (And.intro rfl (And.intro (kc rfl rfl) (And.intro (ib_ok c2) (And.intro (kk_ok c3) (And.intro (kc rfl rfl) (Exists.intro 58 (And.intro rfl (And.intro (kc rfl rfl) (And.intro (ib_ok c4) (And.intro (kk_ok c3) (And.intro (kc rfl rfl) (Exists.intro 58 (And.intro rfl (?_)))))))))))))))))))))
    show Ev l d mi_X0_takeBack 56 [some (.ref 56), some (.ref p0), some (.int (((uI s 56 3 ((s.1 56 3) - (Int32.ofInt 1))).1 56 3) * ((Int8.ofInt 17).toInt32)))] [.int (Int32.ofInt 2), .int (((uI s 56 3 ((s.1 56 3) - (Int32.ofInt 1))).1 56 3) * ((Int8.ofInt 17).toInt32)), .ref 58, .ref 56] (hp (uI (uI (uI s 56 3 ((s.1 56 3) - (Int32.ofInt 1))) p0 1 ((uI s 56 3 ((s.1 56 3) - (Int32.ofInt 1))).1 58 (((uI s 56 3 ((s.1 56 3) - (Int32.ofInt 1))).1 56 3) * ((Int8.ofInt 17).toInt32)).toNatClampNeg)) p0 2 ((uI (uI s 56 3 ((s.1 56 3) - (Int32.ofInt 1))) p0 1 ((uI s 56 3 ((s.1 56 3) - (Int32.ofInt 1))).1 58 (((uI s 56 3 ((s.1 56 3) - (Int32.ofInt 1))).1 56 3) * ((Int8.ofInt 17).toInt32)).toNatClampNeg)).1 58 ((((uI s 56 3 ((s.1 56 3) - (Int32.ofInt 1))).1 56 3) * ((Int8.ofInt 17).toInt32)) + (Int32.ofInt 1)).toNatClampNeg))) 0 0 _
    rw [← hs5, ← hv6]
    obtain ⟨c7, hf⟩ := gd_some hf
    obtain ⟨a8, ha8, hf⟩ := bd_some hf
    obtain ⟨s9, hs9, hf⟩ := lt_some hf
    refine Ev.blk (pc' := 75) [(.iadd, 0, 0, 0), (.iaload, 0, 0, 0), (.putfield 15, 0, 0, 1), (.aload_n 0, 0, 0, 0), (.getfield 19, 0, 0, 2), (.iload_n 2, 0, 0, 0), (.iconst 3, 0, 0, 0), (.iadd, 0, 0, 0), (.aload_n 1, 0, 0, 0), (.getfield 56, 0, 3, 4), (.iconst 0, 0, 0, 0), (.bipush 8, 0, 0, 0)] (by decide +kernel) ⟨⟨kf_0_15, Or.inl rfl⟩, ⟨kf_0_19, ⟨kf_0_56, trivial⟩⟩⟩ rfl (And.intro (kc rfl rfl) (And.intro (ib_ok c7) (And.intro (kc rfl rfl) (And.intro (kc rfl rfl) (Exists.intro 58 (And.intro rfl (And.intro (kk_ok c3) (Exists.intro a8 (And.intro ha8 (?_))))))))))
    show Ev l d mi_X0_takeBack 75 [some (.ref 56), some (.ref p0), some (.int v6)] [.int ((Int8.ofInt 8).toInt32), .int (Int32.ofInt 0), .ref a8, .int (v6 + (Int32.ofInt 3)), .ref 58] (hp (uI s5 56 1 (s5.1 58 (v6 + (Int32.ofInt 2)).toNatClampNeg))) 0 0 _
    rw [← hs9]
    obtain ⟨c10, hf⟩ := gd_some hf
    obtain ⟨c11, hf⟩ := gd_some hf
    refine Ev.arraycopy ky_0_42 wac1 wac2 wac3 (kc rfl rfl) (kk_ok c10) (cp_1 c11) (cp_2 c11) (cp_3 c11) (cp_4 c11) (cp_5 c11) (by omega) (Nat.le_of_ble_eq_true rfl) (by decide +kernel) ?_
    show Ev l d mi_X0_takeBack 78 [some (.ref 56), some (.ref p0), some (.int v6)] [] (hp (cp s9 58 a8 (v6 + (Int32.ofInt 3)).toNatClampNeg (Int32.ofInt 0).toNatClampNeg ((Int8.ofInt 8).toInt32).toNatClampNeg)) 0 0 _
    obtain ⟨a12, ha12, hf⟩ := bd_some hf
    obtain ⟨s13, hs13, hf⟩ := lt_some hf
    refine Ev.blk (pc' := 95) [(.aload_n 0, 0, 0, 0), (.getfield 19, 0, 0, 2), (.iload_n 2, 0, 0, 0), (.iconst 3, 0, 0, 0), (.iadd, 0, 0, 0), (.bipush 8, 0, 0, 0), (.iadd, 0, 0, 0), (.aload_n 1, 0, 0, 0), (.getfield 59, 0, 3, 5), (.iconst 0, 0, 0, 0), (.bipush 6, 0, 0, 0)] (by decide +kernel) ⟨kf_0_19, ⟨kf_0_59, trivial⟩⟩ rfl (And.intro (kc rfl rfl) (Exists.intro 58 (And.intro rfl (And.intro (kk_ok c3) (Exists.intro a12 (And.intro ha12 (?_)))))))
    show Ev l d mi_X0_takeBack 95 [some (.ref 56), some (.ref p0), some (.int v6)] [.int ((Int8.ofInt 6).toInt32), .int (Int32.ofInt 0), .ref a12, .int ((v6 + (Int32.ofInt 3)) + ((Int8.ofInt 8).toInt32)), .ref 58] (hp (cp s9 58 a8 (v6 + (Int32.ofInt 3)).toNatClampNeg (Int32.ofInt 0).toNatClampNeg ((Int8.ofInt 8).toInt32).toNatClampNeg)) 0 0 _
    rw [← hs13]
    obtain ⟨c14, hf⟩ := gd_some hf
    obtain ⟨c15, hf⟩ := gd_some hf
    refine Ev.arraycopy ky_0_42 wac1 wac2 wac3 (kc rfl rfl) (kk_ok c14) (cp_1 c15) (cp_2 c15) (cp_3 c15) (cp_4 c15) (cp_5 c15) (by omega) (Nat.le_of_ble_eq_true rfl) (by decide +kernel) ?_
    show Ev l d mi_X0_takeBack 98 [some (.ref 56), some (.ref p0), some (.int v6)] [] (hp (cp s13 58 a12 ((v6 + (Int32.ofInt 3)) + ((Int8.ofInt 8).toInt32)).toNatClampNeg (Int32.ofInt 0).toNatClampNeg ((Int8.ofInt 6).toInt32).toNatClampNeg)) 0 0 _
    obtain ⟨s16, hs16, hf⟩ := lt_some hf
    refine Ev.blk (pc' := 99) [(.aload_n 1, 0, 0, 0)] (by decide +kernel) trivial rfl (?_)
    show Ev l d mi_X0_takeBack 99 [some (.ref 56), some (.ref p0), some (.int v6)] [.ref p0] (hp (cp s13 58 a12 ((v6 + (Int32.ofInt 3)) + ((Int8.ofInt 8).toInt32)).toNatClampNeg (Int32.ofInt 0).toNatClampNeg ((Int8.ofInt 6).toInt32).toNatClampNeg)) 0 0 _
    rw [← hs16]
    obtain ⟨q17, hq17, hf⟩ := bd_some hf
    refine Ev.callV (o := p0) (M' := mi_X3_settle) (d' := d - 1) (As := []) (rest := []) (r' := (none, hp q17)) (e_X3_settle (d := d - 1) (by omega) p0 s16 _ hq17) (by omega) wm_X3_settle wi_X3_settle wv_X3_settle km_0_62 (kk_ok c3) (Nat.le_of_ble_eq_true rfl) rfl rfl rfl (Nat.le_of_ble_eq_true rfl) ⟨Nat.le_of_ble_eq_true rfl, Nat.le_of_ble_eq_true rfl⟩ (by decide +kernel) ?_
    show Ev l d mi_X0_takeBack 102 [some (.ref 56), some (.ref p0), some (.int v6)] [] (hp q17) 0 0 _
    refine Ev.blk (pc' := 103) [(.iconst 1, 0, 0, 0)] (by decide +kernel) trivial rfl (?_)
    show Ev l d mi_X0_takeBack 103 [some (.ref 56), some (.ref p0), some (.int v6)] [.int (Int32.ofInt 1)] (hp q17) 0 0 _
    cases hf
    exact Ev.iret .boolean rfl rfl (by decide +kernel) (Nat.le_refl _) (Nat.le_refl _)
  · have hf := (if_neg b1).symm.trans hf
    refine Ev.blk (pc' := 8) [(.iconst 0, 0, 0, 0)] (by decide +kernel) trivial rfl (?_)
    show Ev l d mi_X0_takeBack 8 [some (.ref 56), some (.ref p0), none] [.int (Int32.ofInt 0)] (hp s) 0 0 _
    cases hf
    exact Ev.iret .boolean rfl rfl (by decide +kernel) (Nat.le_refl _) (Nat.le_refl _)
def f_X1_start (p0 : Nat) (p1 : Int32) (s : ST) : Option (ST) := gd (kk p0 2) (gd (b01 p1) (lt (uI (uR (uI s p0 1 (Int32.ofInt 0)) 5 1 p0) 5 2 p1) (fun s3 => some s3)))
set_option maxHeartbeats 2000000 in
set_option maxRecDepth 20000 in
theorem e_X1_start {l : Launch} {d : Nat} (hd : 1 ≤ d) (p0 : Nat) (p1 : Int32) (s : ST) (r : ST) (hf : f_X1_start p0 p1 s = some r) : Cl l d mi_X1_start [.ref 5, .ref p0, .int p1] (hp s) (none, hp r) := by
  refine Ev.entry (by decide +kernel) rfl rfl ?_
  show Ev l d mi_X1_start 0 [some (.ref 5), some (.ref p0), some (.int p1)] [] (hp s) 0 0 _
  unfold f_X1_start at hf
  obtain ⟨c1, hf⟩ := gd_some hf
  refine Ev.blk (pc' := 10) [(.aload_n 1, 0, 0, 0), (.iconst 0, 0, 0, 0), (.putfield 23, 0, 2, 1), (.aload_n 0, 0, 0, 0), (.aload_n 1, 0, 0, 0), (.putfield 9, 0, 1, 1)] (by decide +kernel) ⟨⟨kf_1_23, Or.inl rfl⟩, ⟨⟨kf_1_9, Or.inl rfl⟩, trivial⟩⟩ rfl (And.intro (kk_ok c1) (And.intro (kc rfl rfl) (?_)))
  show Ev l d mi_X1_start 10 [some (.ref 5), some (.ref p0), some (.int p1)] [] (sm_R (hp (uI s p0 1 (Int32.ofInt 0))) 5 1 (some p0)) 0 0 _
  rw [hp_R rfl]
  obtain ⟨c2, hf⟩ := gd_some hf
  obtain ⟨s3, hs3, hf⟩ := lt_some hf
  refine Ev.blk (pc' := 15) [(.aload_n 0, 0, 0, 0), (.iload_n 2, 0, 0, 0), (.putfield 15, 0, 1, 2)] (by decide +kernel) ⟨⟨kf_1_15, Or.inl rfl⟩, trivial⟩ rfl (And.intro (kc rfl rfl) (And.intro (b01_ok c2) (?_)))
  show Ev l d mi_X1_start 15 [some (.ref 5), some (.ref p0), some (.int p1)] [] (hp (uI (uR (uI s p0 1 (Int32.ofInt 0)) 5 1 p0) 5 2 p1)) 0 0 _
  rw [← hs3]
  cases hf
  exact Ev.vret rfl (by decide +kernel) (Nat.le_refl _) (Nat.le_refl _)
def f_X2_put (o : Nat) (p0 : Int32) (s : ST) : Option (ST) := gd (kk o 2) ((RR s.2.2 o 0).bind (fun a2 => gd (kr a2) ((if (Int32.ofNat (K0 a2).2) ≤ (s.1 o 1) then some s else (RR s.2.2 o 0).bind (fun a5 => gd (kk a5 13) (gd (ib (s.1 o 1) (K0 a5).2) (lt (uI (uI s a5 (s.1 o 1).toNatClampNeg p0) o 1 (((uI s a5 (s.1 o 1).toNatClampNeg p0).1 o 1) + (Int32.ofInt 1))) (fun s8 => some s8))))))))
set_option maxHeartbeats 2000000 in
set_option maxRecDepth 20000 in
theorem e_X2_put {l : Launch} {d : Nat} (hd : 1 ≤ d) (o : Nat) (p0 : Int32) (s : ST) (r : ST) (hf : f_X2_put o p0 s = some r) : Cl l d mi_X2_put [.ref o, .int p0] (hp s) (none, hp r) := by
  refine Ev.entry (by decide +kernel) rfl rfl ?_
  show Ev l d mi_X2_put 0 [some (.ref o), some (.int p0)] [] (hp s) 0 0 _
  unfold f_X2_put at hf
  obtain ⟨c1, hf⟩ := gd_some hf
  obtain ⟨a2, ha2, hf⟩ := bd_some hf
  obtain ⟨c3, hf⟩ := gd_some hf
  refine Ev.blk (pc' := 9) [(.aload_n 0, 0, 0, 0), (.getfield 15, 0, 2, 1), (.aload_n 0, 0, 0, 0), (.getfield 9, 0, 2, 0), (.arraylength, 0, 0, 0)] (by decide +kernel) ⟨kf_2_15, ⟨kf_2_9, trivial⟩⟩ rfl (And.intro (kk_ok c1) (And.intro (kk_ok c1) (Exists.intro a2 (And.intro ha2 (And.intro (kr_ok c3) (?_))))))
  show Ev l d mi_X2_put 9 [some (.ref o), some (.int p0)] [.int (Int32.ofNat (K0 a2).2), .int (s.1 o 1)] (hp s) 0 0 _
  refine Ev.icmp_ge (off := 23) (tgt := 32) (by decide +kernel) (by decide) (fun b4 => ?_) (fun b4 => ?_)
  · have hf := (if_pos b4).symm.trans hf
    cases hf
    exact Ev.vret rfl (by decide +kernel) (Nat.le_refl _) (Nat.le_refl _)
  · have hf := (if_neg b4).symm.trans hf
    obtain ⟨a5, ha5, hf⟩ := bd_some hf
    obtain ⟨c6, hf⟩ := gd_some hf
    obtain ⟨c7, hf⟩ := gd_some hf
    obtain ⟨s8, hs8, hf⟩ := lt_some hf
    refine Ev.blk (pc' := 32) [(.aload_n 0, 0, 0, 0), (.getfield 9, 0, 2, 0), (.aload_n 0, 0, 0, 0), (.getfield 15, 0, 2, 1), (.iload_n 1, 0, 0, 0), (.iastore, 0, 0, 0), (.aload_n 0, 0, 0, 0), (.dup, 0, 0, 0), (.getfield 15, 0, 2, 1), (.iconst 1, 0, 0, 0), (.iadd, 0, 0, 0), (.putfield 15, 0, 2, 1)] (by decide +kernel) ⟨kf_2_9, ⟨kf_2_15, ⟨kf_2_15, ⟨⟨kf_2_15, Or.inl rfl⟩, trivial⟩⟩⟩⟩ rfl (And.intro (kk_ok c1) (Exists.intro a5 (And.intro ha5 (And.intro (kk_ok c1) (And.intro (kk_ok c6) (And.intro (ib_ok c7) (And.intro rfl (And.intro (kk_ok c1) (And.intro (kk_ok c1) (?_))))))))))
    show Ev l d mi_X2_put 32 [some (.ref o), some (.int p0)] [] (hp (uI (uI s a5 (s.1 o 1).toNatClampNeg p0) o 1 (((uI s a5 (s.1 o 1).toNatClampNeg p0).1 o 1) + (Int32.ofInt 1)))) 0 0 _
    rw [← hs8]
    cases hf
    exact Ev.vret rfl (by decide +kernel) (Nat.le_refl _) (Nat.le_refl _)
def f_X1_put (p0 : Int32) (s : ST) : Option (ST) := (RR s.2.2 5 1).bind (fun a1 => (RR s.2.2 5 1).bind (fun a2 => (f_X2_put a2 p0 s).bind (fun q3 => gd (kk a2 2) (some q3))))
set_option maxHeartbeats 2000000 in
set_option maxRecDepth 20000 in
theorem e_X1_put {l : Launch} {d : Nat} (hd : 2 ≤ d) (p0 : Int32) (s : ST) (r : ST) (hf : f_X1_put p0 s = some r) : Cl l d mi_X1_put [.ref 5, .int p0] (hp s) (none, hp r) := by
  refine Ev.entry (by decide +kernel) rfl rfl ?_
  show Ev l d mi_X1_put 0 [some (.ref 5), some (.int p0)] [] (hp s) 0 0 _
  unfold f_X1_put at hf
  obtain ⟨a1, ha1, hf⟩ := bd_some hf
  refine Ev.blk (pc' := 4) [(.aload_n 0, 0, 0, 0), (.getfield 9, 0, 1, 1)] (by decide +kernel) ⟨kf_1_9, trivial⟩ rfl (And.intro (kc rfl rfl) (Exists.intro a1 (And.intro ha1 (?_))))
  show Ev l d mi_X1_put 4 [some (.ref 5), some (.int p0)] [.ref a1] (hp s) 0 0 _
  refine Ev.ifnull (off := 11) (by decide +kernel) ?_
  show Ev l d mi_X1_put 7 [some (.ref 5), some (.int p0)] [] (hp s) 0 0 _
  obtain ⟨a2, ha2, hf⟩ := bd_some hf
  refine Ev.blk (pc' := 12) [(.aload_n 0, 0, 0, 0), (.getfield 9, 0, 1, 1), (.iload_n 1, 0, 0, 0)] (by decide +kernel) ⟨kf_1_9, trivial⟩ rfl (And.intro (kc rfl rfl) (Exists.intro a2 (And.intro ha2 (?_))))
  show Ev l d mi_X1_put 12 [some (.ref 5), some (.int p0)] [.int p0, .ref a2] (hp s) 0 0 _
  obtain ⟨q3, hq3, hf⟩ := bd_some hf
  obtain ⟨c4, hf⟩ := gd_some hf
  refine Ev.callV (o := a2) (M' := mi_X2_put) (d' := d - 1) (As := [.int p0]) (rest := []) (r' := (none, hp q3)) (e_X2_put (d := d - 1) (by omega) a2 p0 s _ hq3) (by omega) wm_X2_put wi_X2_put wv_X2_put km_1_29 (kk_ok c4) (Nat.le_of_ble_eq_true rfl) rfl rfl rfl (Nat.le_of_ble_eq_true rfl) ⟨Nat.le_of_ble_eq_true rfl, Nat.le_of_ble_eq_true rfl⟩ (by decide +kernel) ?_
  show Ev l d mi_X1_put 15 [some (.ref 5), some (.int p0)] [] (hp q3) 0 0 _
  cases hf
  exact Ev.vret rfl (by decide +kernel) (Nat.le_refl _) (Nat.le_refl _)
def f_X5_fail (p0 : Int32) (p1 : Int32) (s : ST) : Option (ST) := (if (s.1 3 5) = 0 then lt (uI (uI (uI s 3 5 p0) 3 6 p1) 3 3 (Int32.ofInt 4)) (fun s2 => some s2) else some s)
set_option maxHeartbeats 2000000 in
set_option maxRecDepth 20000 in
theorem e_X5_fail {l : Launch} {d : Nat} (hd : 1 ≤ d) (p0 : Int32) (p1 : Int32) (s : ST) (r : ST) (hf : f_X5_fail p0 p1 s = some r) : Cl l d mi_X5_fail [.ref 3, .int p0, .int p1] (hp s) (none, hp r) := by
  refine Ev.entry (by decide +kernel) rfl rfl ?_
  show Ev l d mi_X5_fail 0 [some (.ref 3), some (.int p0), some (.int p1)] [] (hp s) 0 0 _
  unfold f_X5_fail at hf
  refine Ev.blk (pc' := 4) [(.aload_n 0, 0, 0, 0), (.getfield 24, 0, 5, 5)] (by decide +kernel) ⟨kf_5_24, trivial⟩ rfl (And.intro (kc rfl rfl) (?_))
  show Ev l d mi_X5_fail 4 [some (.ref 3), some (.int p0), some (.int p1)] [.int (s.1 3 5)] (hp s) 0 0 _
  refine Ev.if_ne (off := 18) (tgt := 22) (by decide +kernel) (by decide) (fun b1 => ?_) (fun b1 => ?_)
  · have hf := (if_neg b1).symm.trans hf
    cases hf
    exact Ev.vret rfl (by decide +kernel) (Nat.le_refl _) (Nat.le_refl _)
  · have hf := (if_pos b1).symm.trans hf
    obtain ⟨s2, hs2, hf⟩ := lt_some hf
    refine Ev.blk (pc' := 22) [(.aload_n 0, 0, 0, 0), (.iload_n 1, 0, 0, 0), (.putfield 24, 0, 5, 5), (.aload_n 0, 0, 0, 0), (.iload_n 2, 0, 0, 0), (.putfield 27, 0, 5, 6), (.aload_n 0, 0, 0, 0), (.iconst 4, 0, 0, 0), (.putfield 18, 0, 5, 3)] (by decide +kernel) ⟨⟨kf_5_24, Or.inl rfl⟩, ⟨⟨kf_5_27, Or.inl rfl⟩, ⟨⟨kf_5_18, Or.inl rfl⟩, trivial⟩⟩⟩ rfl (And.intro (kc rfl rfl) (And.intro (kc rfl rfl) (And.intro (kc rfl rfl) (?_))))
    show Ev l d mi_X5_fail 22 [some (.ref 3), some (.int p0), some (.int p1)] [] (hp (uI (uI (uI s 3 5 p0) 3 6 p1) 3 3 (Int32.ofInt 4))) 0 0 _
    rw [← hs2]
    cases hf
    exact Ev.vret rfl (by decide +kernel) (Nat.le_refl _) (Nat.le_refl _)
def f_X5_isBlank (p0 : Int32) (s : ST) : Option (Int32 × ST) := (if p0 = ((Int8.ofInt 10).toInt32) then some ((Int32.ofInt 1), s) else (if p0 = ((Int8.ofInt 32).toInt32) then some ((Int32.ofInt 1), s) else some ((Int32.ofInt 0), s)))
set_option maxHeartbeats 2000000 in
set_option maxRecDepth 20000 in
theorem e_X5_isBlank {l : Launch} {d : Nat} (hd : 1 ≤ d) (p0 : Int32) (s : ST) (r : Int32 × ST) (hf : f_X5_isBlank p0 s = some r) : Cl l d mi_X5_isBlank [.int p0] (hp s) (some (.int r.1), hp r.2) := by
  refine Ev.entry (by decide +kernel) rfl rfl ?_
  show Ev l d mi_X5_isBlank 0 [some (.int p0)] [] (hp s) 0 0 _
  unfold f_X5_isBlank at hf
  refine Ev.blk (pc' := 3) [(.iload_n 0, 0, 0, 0), (.bipush 10, 0, 0, 0)] (by decide +kernel) trivial rfl (?_)
  show Ev l d mi_X5_isBlank 3 [some (.int p0)] [.int ((Int8.ofInt 10).toInt32), .int p0] (hp s) 0 0 _
  refine Ev.icmp_eq (off := 9) (tgt := 12) (by decide +kernel) (by decide) (fun b1 => ?_) (fun b1 => ?_)
  · have hf := (if_pos b1).symm.trans hf
    refine Ev.blk (pc' := 13) [(.iconst 1, 0, 0, 0)] (by decide +kernel) trivial rfl (?_)
    show Ev l d mi_X5_isBlank 13 [some (.int p0)] [.int (Int32.ofInt 1)] (hp s) 0 0 _
    refine Ev.goto (off := 4) (tgt := 17) (by decide +kernel) (by decide) ?_
    cases hf
    exact Ev.iret .boolean rfl rfl (by decide +kernel) (Nat.le_refl _) (Nat.le_refl _)
  · have hf := (if_neg b1).symm.trans hf
    refine Ev.blk (pc' := 9) [(.iload_n 0, 0, 0, 0), (.bipush 32, 0, 0, 0)] (by decide +kernel) trivial rfl (?_)
    show Ev l d mi_X5_isBlank 9 [some (.int p0)] [.int ((Int8.ofInt 32).toInt32), .int p0] (hp s) 0 0 _
    refine Ev.icmp_ne (off := 7) (tgt := 16) (by decide +kernel) (by decide) (fun b2 => ?_) (fun b2 => ?_)
    · have hf := (if_neg b2).symm.trans hf
      refine Ev.blk (pc' := 17) [(.iconst 0, 0, 0, 0)] (by decide +kernel) trivial rfl (?_)
      show Ev l d mi_X5_isBlank 17 [some (.int p0)] [.int (Int32.ofInt 0)] (hp s) 0 0 _
      cases hf
      exact Ev.iret .boolean rfl rfl (by decide +kernel) (Nat.le_refl _) (Nat.le_refl _)
    · have hf := (if_pos b2).symm.trans hf
      refine Ev.blk (pc' := 13) [(.iconst 1, 0, 0, 0)] (by decide +kernel) trivial rfl (?_)
      show Ev l d mi_X5_isBlank 13 [some (.int p0)] [.int (Int32.ofInt 1)] (hp s) 0 0 _
      refine Ev.goto (off := 4) (tgt := 17) (by decide +kernel) (by decide) ?_
      cases hf
      exact Ev.iret .boolean rfl rfl (by decide +kernel) (Nat.le_refl _) (Nat.le_refl _)
def f_X5_numberOfWord_j107 (k12 : Int32 → Int32 → Int32 → Int32 → ST → Option (Int32 × ST)) (x1 : Int32) (x2 : Int32) (x4 : Int32) (s : ST) : Option (Int32 × ST) := k12 x1 (x2 + Int32.ofInt 1) (Int32.ofInt 0) (x4 + Int32.ofInt 1) s
set_option maxHeartbeats 2000000 in
set_option maxRecDepth 20000 in
theorem e_X5_numberOfWord_j107 {l : Launch} {d : Nat} (hd : 5 ≤ d) (k12 : Int32 → Int32 → Int32 → Int32 → ST → Option (Int32 × ST)) (hk12 : ∀ (x1 : Int32) (x2 : Int32) (x3 : Int32) (x4 : Int32) (s : ST) (r : Int32 × ST), k12 x1 x2 x3 x4 s = some r → Ev l d mi_X5_numberOfWord 12 [some (.ref 3), some (.int x1), some (.int x2), some (.int x3), some (.int x4), none] [] (hp s) 0 0 (some (.int r.1), hp r.2)) (x1 : Int32) (x2 : Int32) (x4 : Int32) (s : ST) (r : Int32 × ST) (hf : f_X5_numberOfWord_j107 k12 x1 x2 x4 s = some r) : Ev l d mi_X5_numberOfWord 107 [some (.ref 3), some (.int x1), some (.int x2), none, some (.int x4), none] [] (hp s) 0 0 (some (.int r.1), hp r.2) := by
  unfold f_X5_numberOfWord_j107 at hf
  refine Ev.blk (pc' := 115) [(.iconst 0, 0, 0, 0), (.istore_n 3, 0, 0, 0), (.iinc 2 1, 0, 0, 0), (.iinc 4 1, 0, 0, 0)] (by decide +kernel) trivial rfl (And.intro (Nat.le_of_ble_eq_true rfl) (And.intro (Nat.le_of_ble_eq_true rfl) (And.intro (Nat.le_of_ble_eq_true rfl) (?_))))
  show Ev l d mi_X5_numberOfWord 115 [some (.ref 3), some (.int x1), some (.int (x2 + Int32.ofInt 1)), some (.int (Int32.ofInt 0)), some (.int (x4 + Int32.ofInt 1)), none] [] (hp s) 0 0 _
  refine Ev.goto (off := -103) (tgt := 12) (by decide +kernel) (by decide) ?_
  exact hk12 x1 (x2 + Int32.ofInt 1) (Int32.ofInt 0) (x4 + Int32.ofInt 1) s _ hf
def f_X5_numberOfWord_j52 (k12 : Int32 → Int32 → Int32 → Int32 → ST → Option (Int32 × ST)) (x1 : Int32) (x4 : Int32) (s : ST) : Option (Int32 × ST) := k12 (x1 + Int32.ofInt 1) (s.1 3 1) (Int32.ofInt 1) (x4 + Int32.ofInt 1) s
set_option maxHeartbeats 2000000 in
set_option maxRecDepth 20000 in
theorem e_X5_numberOfWord_j52 {l : Launch} {d : Nat} (hd : 5 ≤ d) (k12 : Int32 → Int32 → Int32 → Int32 → ST → Option (Int32 × ST)) (hk12 : ∀ (x1 : Int32) (x2 : Int32) (x3 : Int32) (x4 : Int32) (s : ST) (r : Int32 × ST), k12 x1 x2 x3 x4 s = some r → Ev l d mi_X5_numberOfWord 12 [some (.ref 3), some (.int x1), some (.int x2), some (.int x3), some (.int x4), none] [] (hp s) 0 0 (some (.int r.1), hp r.2)) (x1 : Int32) (x4 : Int32) (s : ST) (r : Int32 × ST) (hf : f_X5_numberOfWord_j52 k12 x1 x4 s = some r) : Ev l d mi_X5_numberOfWord 52 [some (.ref 3), some (.int x1), none, none, some (.int x4), none] [] (hp s) 0 0 (some (.int r.1), hp r.2) := by
  unfold f_X5_numberOfWord_j52 at hf
  refine Ev.blk (pc' := 62) [(.iinc 1 1, 0, 0, 0), (.aload_n 0, 0, 0, 0), (.getfield 9, 0, 5, 1), (.istore_n 2, 0, 0, 0), (.iconst 1, 0, 0, 0), (.istore_n 3, 0, 0, 0)] (by decide +kernel) ⟨kf_5_9, trivial⟩ rfl (And.intro (Nat.le_of_ble_eq_true rfl) (And.intro (kc rfl rfl) (And.intro (Nat.le_of_ble_eq_true rfl) (And.intro (Nat.le_of_ble_eq_true rfl) (?_)))))
  show Ev l d mi_X5_numberOfWord 62 [some (.ref 3), some (.int (x1 + Int32.ofInt 1)), some (.int (s.1 3 1)), some (.int (Int32.ofInt 1)), some (.int x4), none] [] (hp s) 0 0 _
  refine Ev.goto (off := 50) (tgt := 112) (by decide +kernel) (by decide) ?_
  refine Ev.blk (pc' := 115) [(.iinc 4 1, 0, 0, 0)] (by decide +kernel) trivial rfl (And.intro (Nat.le_of_ble_eq_true rfl) (?_))
  show Ev l d mi_X5_numberOfWord 115 [some (.ref 3), some (.int (x1 + Int32.ofInt 1)), some (.int (s.1 3 1)), some (.int (Int32.ofInt 1)), some (.int (x4 + Int32.ofInt 1)), none] [] (hp s) 0 0 _
  refine Ev.goto (off := -103) (tgt := 12) (by decide +kernel) (by decide) ?_
  exact hk12 (x1 + Int32.ofInt 1) (s.1 3 1) (Int32.ofInt 1) (x4 + Int32.ofInt 1) s _ hf
def f_X5_numberOfWord_L12 : Nat → Int32 → Int32 → Int32 → Int32 → ST → Option (Int32 × ST)
  | 0, _, _, _, _, _ => none
  | n + 1, x1, x2, x3, x4, s => (f_J0_length_8abf5 s).bind (fun q1 => (if q1.1 ≤ x4 then some ((Int32.ofInt (-1)), q1.2) else (f_J0_charAt_5068e x4 q1.2).bind (fun q3 => (if q3.1 = ((Int8.ofInt 32).toInt32) then (if x3 = 0 then (f_X5_numberOfWord_j52 (f_X5_numberOfWord_L12 n)) x1 x4 q3.2 else (if x2 = (q3.2.1 3 2) then some (x1, q3.2) else (f_X5_numberOfWord_j52 (f_X5_numberOfWord_L12 n)) x1 x4 q3.2)) else (if x3 = 0 then (f_X5_numberOfWord_L12 n) x1 x2 x3 (x4 + Int32.ofInt 1) q3.2 else (if (q3.2.1 3 2) ≤ x2 then (f_X5_numberOfWord_j107 (f_X5_numberOfWord_L12 n)) x1 x2 x4 q3.2 else (if (Int32.ofNat 1600) ≤ x2 then (f_X5_numberOfWord_j107 (f_X5_numberOfWord_L12 n)) x1 x2 x4 q3.2 else gd (ib x2 1600) ((if (q3.2.1 2 x2.toNatClampNeg) = q3.1 then (f_X5_numberOfWord_L12 n) x1 (x2 + Int32.ofInt 1) (Int32.ofInt 1) (x4 + Int32.ofInt 1) q3.2 else (f_X5_numberOfWord_j107 (f_X5_numberOfWord_L12 n)) x1 x2 x4 q3.2)))))))))
set_option maxHeartbeats 2000000 in
set_option maxRecDepth 20000 in
theorem e_X5_numberOfWord_L12 {l : Launch} {d : Nat} (hd : 5 ≤ d) : ∀ (n : Nat) (x1 : Int32) (x2 : Int32) (x3 : Int32) (x4 : Int32) (s : ST) (r : Int32 × ST), f_X5_numberOfWord_L12 n x1 x2 x3 x4 s = some r → Ev l d mi_X5_numberOfWord 12 [some (.ref 3), some (.int x1), some (.int x2), some (.int x3), some (.int x4), none] [] (hp s) 0 0 (some (.int r.1), hp r.2) := by
  intro n
  induction n with
  | zero =>
    intro x1 x2 x3 x4 s r hf
    cases hf
  | succ n ih =>
    intro x1 x2 x3 x4 s r hf
    unfold f_X5_numberOfWord_L12 at hf
    refine Ev.blk (pc' := 14) [(.iload 4, 0, 0, 0)] (by decide +kernel) trivial rfl (?_)
    show Ev l d mi_X5_numberOfWord 14 [some (.ref 3), some (.int x1), some (.int x2), some (.int x3), some (.int x4), none] [.int x4] (hp s) 0 0 _
    refine Ev.ldcS rfl (by decide +kernel) ?_
    obtain ⟨q1, hq1, hf⟩ := bd_some hf
    refine Ev.callStr (M' := mi_J0_length_8abf5) (d' := d - 1) (As := []) (rest := [.int x4]) (r' := (some (.int q1.1), hp q1.2)) (e_J0_length_8abf5 (d := d - 1) (by omega) s _ hq1) (by omega) wm_J0_length_8abf5 rfl wi_J0_length_8abf5 wv_J0_length_8abf5 km_5_63 rfl rfl rfl (Nat.le_of_ble_eq_true rfl) ⟨Nat.le_of_ble_eq_true rfl, Nat.le_of_ble_eq_true rfl⟩ (by decide +kernel) ?_
    show Ev l d mi_X5_numberOfWord 19 [some (.ref 3), some (.int x1), some (.int x2), some (.int x3), some (.int x4), none] [.int q1.1, .int x4] (hp q1.2) 0 0 _
    refine Ev.icmp_ge (off := 99) (tgt := 118) (by decide +kernel) (by decide) (fun b2 => ?_) (fun b2 => ?_)
    · have hf := (if_pos b2).symm.trans hf
      refine Ev.blk (pc' := 119) [(.iconst (-1), 0, 0, 0)] (by decide +kernel) trivial rfl (?_)
      show Ev l d mi_X5_numberOfWord 119 [some (.ref 3), some (.int x1), some (.int x2), some (.int x3), some (.int x4), none] [.int (Int32.ofInt (-1))] (hp q1.2) 0 0 _
      cases hf
      exact Ev.iret .int rfl rfl (by decide +kernel) (Nat.le_refl _) (Nat.le_refl _)
    · have hf := (if_neg b2).symm.trans hf
      refine Ev.ldcS rfl (by decide +kernel) ?_
      refine Ev.blk (pc' := 26) [(.iload 4, 0, 0, 0)] (by decide +kernel) trivial rfl (?_)
      show Ev l d mi_X5_numberOfWord 26 [some (.ref 3), some (.int x1), some (.int x2), some (.int x3), some (.int x4), none] [.int x4, .ref 1000004] (hp q1.2) 0 0 _
      obtain ⟨q3, hq3, hf⟩ := bd_some hf
      refine Ev.callStr (M' := mi_J0_charAt_5068e) (d' := d - 1) (As := [.int x4]) (rest := []) (r' := (some (.int q3.1), hp q3.2)) (e_J0_charAt_5068e (d := d - 1) (by omega) x4 q1.2 _ hq3) (by omega) wm_J0_charAt_5068e rfl wi_J0_charAt_5068e wv_J0_charAt_5068e km_5_67 rfl rfl rfl (Nat.le_of_ble_eq_true rfl) ⟨Nat.le_of_ble_eq_true rfl, Nat.le_of_ble_eq_true rfl⟩ (by decide +kernel) ?_
      show Ev l d mi_X5_numberOfWord 29 [some (.ref 3), some (.int x1), some (.int x2), some (.int x3), some (.int x4), none] [.int q3.1] (hp q3.2) 0 0 _
      refine Ev.blk (pc' := 35) [(.istore 5, 0, 0, 0), (.iload 5, 0, 0, 0), (.bipush 32, 0, 0, 0)] (by decide +kernel) trivial rfl (And.intro (Nat.le_of_ble_eq_true rfl) (?_))
      show Ev l d mi_X5_numberOfWord 35 [some (.ref 3), some (.int x1), some (.int x2), some (.int x3), some (.int x4), some (.int q3.1)] [.int ((Int8.ofInt 32).toInt32), .int q3.1] (hp q3.2) 0 0 _
      refine Ev.icmp_ne (off := 30) (tgt := 65) (by decide +kernel) (by decide) (fun b4 => ?_) (fun b4 => ?_)
      · have hf := (if_neg b4).symm.trans hf
        refine Ev.blk (pc' := 66) [(.iload_n 3, 0, 0, 0)] (by decide +kernel) trivial rfl (?_)
        show Ev l d mi_X5_numberOfWord 66 [some (.ref 3), some (.int x1), some (.int x2), some (.int x3), some (.int x4), some (.int q3.1)] [.int x3] (hp q3.2) 0 0 _
        refine Ev.if_eq (off := 46) (tgt := 112) (by decide +kernel) (by decide) (fun b5 => ?_) (fun b5 => ?_)
        · have hf := (if_pos b5).symm.trans hf
          refine Ev.blk (pc' := 115) [(.iinc 4 1, 0, 0, 0)] (by decide +kernel) trivial rfl (And.intro (Nat.le_of_ble_eq_true rfl) (?_))
          show Ev l d mi_X5_numberOfWord 115 [some (.ref 3), some (.int x1), some (.int x2), some (.int x3), some (.int (x4 + Int32.ofInt 1)), some (.int q3.1)] [] (hp q3.2) 0 0 _
          refine Ev.goto (off := -103) (tgt := 12) (by decide +kernel) (by decide) ?_
          exact Ev.wk (ih x1 x2 x3 (x4 + Int32.ofInt 1) q3.2 _ hf) (And.intro (Or.inr rfl) (And.intro (Or.inr rfl) (And.intro (Or.inr rfl) (And.intro (Or.inr rfl) (And.intro (Or.inr rfl) (And.intro (Or.inl rfl) (trivial)))))))
        · have hf := (if_neg b5).symm.trans hf
          refine Ev.blk (pc' := 74) [(.iload_n 2, 0, 0, 0), (.aload_n 0, 0, 0, 0), (.getfield 15, 0, 5, 2)] (by decide +kernel) ⟨kf_5_15, trivial⟩ rfl (And.intro (kc rfl rfl) (?_))
          show Ev l d mi_X5_numberOfWord 74 [some (.ref 3), some (.int x1), some (.int x2), some (.int x3), some (.int x4), some (.int q3.1)] [.int (q3.2.1 3 2), .int x2] (hp q3.2) 0 0 _
          refine Ev.icmp_ge (off := 33) (tgt := 107) (by decide +kernel) (by decide) (fun b6 => ?_) (fun b6 => ?_)
          · have hf := (if_pos b6).symm.trans hf
            exact Ev.wk ((e_X5_numberOfWord_j107 hd (f_X5_numberOfWord_L12 n) ih) x1 x2 x4 q3.2 _ hf) (And.intro (Or.inr rfl) (And.intro (Or.inr rfl) (And.intro (Or.inr rfl) (And.intro (Or.inl rfl) (And.intro (Or.inr rfl) (And.intro (Or.inl rfl) (trivial)))))))
          · have hf := (if_neg b6).symm.trans hf
            refine Ev.blk (pc' := 86) [(.iload_n 2, 0, 0, 0), (.aload_n 0, 0, 0, 0), (.getfield 30, 0, 5, 0), (.getfield 71, 0, 7, 0), (.arraylength, 0, 0, 0)] (by decide +kernel) ⟨kf_5_30, ⟨kf_5_71, trivial⟩⟩ rfl (And.intro (kc rfl rfl) (Exists.intro 1 (And.intro rfl (And.intro (kc rfl rfl) (Exists.intro 2 (And.intro rfl (And.intro (kl rfl rfl rfl) (?_))))))))
            show Ev l d mi_X5_numberOfWord 86 [some (.ref 3), some (.int x1), some (.int x2), some (.int x3), some (.int x4), some (.int q3.1)] [.int (Int32.ofNat 1600), .int x2] (hp q3.2) 0 0 _
            refine Ev.icmp_ge (off := 21) (tgt := 107) (by decide +kernel) (by decide) (fun b7 => ?_) (fun b7 => ?_)
            · have hf := (if_pos b7).symm.trans hf
              exact Ev.wk ((e_X5_numberOfWord_j107 hd (f_X5_numberOfWord_L12 n) ih) x1 x2 x4 q3.2 _ hf) (And.intro (Or.inr rfl) (And.intro (Or.inr rfl) (And.intro (Or.inr rfl) (And.intro (Or.inl rfl) (And.intro (Or.inr rfl) (And.intro (Or.inl rfl) (trivial)))))))
            · have hf := (if_neg b7).symm.trans hf
              obtain ⟨c8, hf⟩ := gd_some hf
              refine Ev.blk (pc' := 100) [(.aload_n 0, 0, 0, 0), (.getfield 30, 0, 5, 0), (.getfield 71, 0, 7, 0), (.iload_n 2, 0, 0, 0), (.baload, 0, 0, 0), (.iload 5, 0, 0, 0)] (by decide +kernel) ⟨kf_5_30, ⟨kf_5_71, trivial⟩⟩ rfl (And.intro (kc rfl rfl) (Exists.intro 1 (And.intro rfl (And.intro (kc rfl rfl) (Exists.intro 2 (And.intro rfl (And.intro (kc rfl rfl) (And.intro (ib_ok c8) (?_)))))))))
              show Ev l d mi_X5_numberOfWord 100 [some (.ref 3), some (.int x1), some (.int x2), some (.int x3), some (.int x4), some (.int q3.1)] [.int q3.1, .int (q3.2.1 2 x2.toNatClampNeg)] (hp q3.2) 0 0 _
              refine Ev.icmp_ne (off := 7) (tgt := 107) (by decide +kernel) (by decide) (fun b9 => ?_) (fun b9 => ?_)
              · have hf := (if_neg b9).symm.trans hf
                exact Ev.wk ((e_X5_numberOfWord_j107 hd (f_X5_numberOfWord_L12 n) ih) x1 x2 x4 q3.2 _ hf) (And.intro (Or.inr rfl) (And.intro (Or.inr rfl) (And.intro (Or.inr rfl) (And.intro (Or.inl rfl) (And.intro (Or.inr rfl) (And.intro (Or.inl rfl) (trivial)))))))
              · have hf := (if_pos b9).symm.trans hf
                refine Ev.blk (pc' := 104) [(.iconst 1, 0, 0, 0)] (by decide +kernel) trivial rfl (?_)
                show Ev l d mi_X5_numberOfWord 104 [some (.ref 3), some (.int x1), some (.int x2), some (.int x3), some (.int x4), some (.int q3.1)] [.int (Int32.ofInt 1)] (hp q3.2) 0 0 _
                refine Ev.goto (off := 4) (tgt := 108) (by decide +kernel) (by decide) ?_
                refine Ev.blk (pc' := 115) [(.istore_n 3, 0, 0, 0), (.iinc 2 1, 0, 0, 0), (.iinc 4 1, 0, 0, 0)] (by decide +kernel) trivial rfl (And.intro (Nat.le_of_ble_eq_true rfl) (And.intro (Nat.le_of_ble_eq_true rfl) (And.intro (Nat.le_of_ble_eq_true rfl) (?_))))
                show Ev l d mi_X5_numberOfWord 115 [some (.ref 3), some (.int x1), some (.int (x2 + Int32.ofInt 1)), some (.int (Int32.ofInt 1)), some (.int (x4 + Int32.ofInt 1)), some (.int q3.1)] [] (hp q3.2) 0 0 _
                refine Ev.goto (off := -103) (tgt := 12) (by decide +kernel) (by decide) ?_
                exact Ev.wk (ih x1 (x2 + Int32.ofInt 1) (Int32.ofInt 1) (x4 + Int32.ofInt 1) q3.2 _ hf) (And.intro (Or.inr rfl) (And.intro (Or.inr rfl) (And.intro (Or.inr rfl) (And.intro (Or.inr rfl) (And.intro (Or.inr rfl) (And.intro (Or.inl rfl) (trivial)))))))
      · have hf := (if_pos b4).symm.trans hf
        refine Ev.blk (pc' := 39) [(.iload_n 3, 0, 0, 0)] (by decide +kernel) trivial rfl (?_)
        show Ev l d mi_X5_numberOfWord 39 [some (.ref 3), some (.int x1), some (.int x2), some (.int x3), some (.int x4), some (.int q3.1)] [.int x3] (hp q3.2) 0 0 _
        refine Ev.if_eq (off := 13) (tgt := 52) (by decide +kernel) (by decide) (fun b10 => ?_) (fun b10 => ?_)
        · have hf := (if_pos b10).symm.trans hf
          exact Ev.wk ((e_X5_numberOfWord_j52 hd (f_X5_numberOfWord_L12 n) ih) x1 x4 q3.2 _ hf) (And.intro (Or.inr rfl) (And.intro (Or.inr rfl) (And.intro (Or.inl rfl) (And.intro (Or.inl rfl) (And.intro (Or.inr rfl) (And.intro (Or.inl rfl) (trivial)))))))
        · have hf := (if_neg b10).symm.trans hf
          refine Ev.blk (pc' := 47) [(.iload_n 2, 0, 0, 0), (.aload_n 0, 0, 0, 0), (.getfield 15, 0, 5, 2)] (by decide +kernel) ⟨kf_5_15, trivial⟩ rfl (And.intro (kc rfl rfl) (?_))
          show Ev l d mi_X5_numberOfWord 47 [some (.ref 3), some (.int x1), some (.int x2), some (.int x3), some (.int x4), some (.int q3.1)] [.int (q3.2.1 3 2), .int x2] (hp q3.2) 0 0 _
          refine Ev.icmp_ne (off := 5) (tgt := 52) (by decide +kernel) (by decide) (fun b11 => ?_) (fun b11 => ?_)
          · have hf := (if_neg b11).symm.trans hf
            exact Ev.wk ((e_X5_numberOfWord_j52 hd (f_X5_numberOfWord_L12 n) ih) x1 x4 q3.2 _ hf) (And.intro (Or.inr rfl) (And.intro (Or.inr rfl) (And.intro (Or.inl rfl) (And.intro (Or.inl rfl) (And.intro (Or.inr rfl) (And.intro (Or.inl rfl) (trivial)))))))
          · have hf := (if_pos b11).symm.trans hf
            refine Ev.blk (pc' := 51) [(.iload_n 1, 0, 0, 0)] (by decide +kernel) trivial rfl (?_)
            show Ev l d mi_X5_numberOfWord 51 [some (.ref 3), some (.int x1), some (.int x2), some (.int x3), some (.int x4), some (.int q3.1)] [.int x1] (hp q3.2) 0 0 _
            cases hf
            exact Ev.iret .int rfl rfl (by decide +kernel) (Nat.le_refl _) (Nat.le_refl _)
def f_X5_numberOfWord (s : ST) : Option (Int32 × ST) := (f_X5_numberOfWord_L12 fuel) (Int32.ofInt 0) (s.1 3 1) (Int32.ofInt 1) (Int32.ofInt 0) s
set_option maxHeartbeats 2000000 in
set_option maxRecDepth 20000 in
theorem e_X5_numberOfWord {l : Launch} {d : Nat} (hd : 5 ≤ d) (s : ST) (r : Int32 × ST) (hf : f_X5_numberOfWord s = some r) : Cl l d mi_X5_numberOfWord [.ref 3] (hp s) (some (.int r.1), hp r.2) := by
  refine Ev.entry (by decide +kernel) rfl rfl ?_
  show Ev l d mi_X5_numberOfWord 0 [some (.ref 3), none, none, none, none, none] [] (hp s) 0 0 _
  unfold f_X5_numberOfWord at hf
  refine Ev.blk (pc' := 12) [(.iconst 0, 0, 0, 0), (.istore_n 1, 0, 0, 0), (.aload_n 0, 0, 0, 0), (.getfield 9, 0, 5, 1), (.istore_n 2, 0, 0, 0), (.iconst 1, 0, 0, 0), (.istore_n 3, 0, 0, 0), (.iconst 0, 0, 0, 0), (.istore 4, 0, 0, 0)] (by decide +kernel) ⟨kf_5_9, trivial⟩ rfl (And.intro (Nat.le_of_ble_eq_true rfl) (And.intro (kc rfl rfl) (And.intro (Nat.le_of_ble_eq_true rfl) (And.intro (Nat.le_of_ble_eq_true rfl) (And.intro (Nat.le_of_ble_eq_true rfl) (?_))))))
  show Ev l d mi_X5_numberOfWord 12 [some (.ref 3), some (.int (Int32.ofInt 0)), some (.int (s.1 3 1)), some (.int (Int32.ofInt 1)), some (.int (Int32.ofInt 0)), none] [] (hp s) 0 0 _
  exact (e_X5_numberOfWord_L12 hd fuel) (Int32.ofInt 0) (s.1 3 1) (Int32.ofInt 1) (Int32.ofInt 0) s _ hf
def f_X5_sortOf_j14 (x0 : Int32) (s : ST) : Option (Int32 × ST) := (if x0 < ((Int8.ofInt 48).toInt32) then some ((Int32.ofInt 3), s) else (if ((Int8.ofInt 57).toInt32) < x0 then some ((Int32.ofInt 3), s) else some ((Int32.ofInt 2), s)))
set_option maxHeartbeats 2000000 in
set_option maxRecDepth 20000 in
theorem e_X5_sortOf_j14 {l : Launch} {d : Nat} (hd : 1 ≤ d) (x0 : Int32) (s : ST) (r : Int32 × ST) (hf : f_X5_sortOf_j14 x0 s = some r) : Ev l d mi_X5_sortOf 14 [some (.int x0)] [] (hp s) 0 0 (some (.int r.1), hp r.2) := by
  unfold f_X5_sortOf_j14 at hf
  refine Ev.blk (pc' := 17) [(.iload_n 0, 0, 0, 0), (.bipush 48, 0, 0, 0)] (by decide +kernel) trivial rfl (?_)
  show Ev l d mi_X5_sortOf 17 [some (.int x0)] [.int ((Int8.ofInt 48).toInt32), .int x0] (hp s) 0 0 _
  refine Ev.icmp_lt (off := 13) (tgt := 30) (by decide +kernel) (by decide) (fun b3 => ?_) (fun b3 => ?_)
  · have hf := (if_pos b3).symm.trans hf
    refine Ev.blk (pc' := 31) [(.iconst 3, 0, 0, 0)] (by decide +kernel) trivial rfl (?_)
    show Ev l d mi_X5_sortOf 31 [some (.int x0)] [.int (Int32.ofInt 3)] (hp s) 0 0 _
    cases hf
    exact Ev.iret .int rfl rfl (by decide +kernel) (Nat.le_refl _) (Nat.le_refl _)
  · have hf := (if_neg b3).symm.trans hf
    refine Ev.blk (pc' := 23) [(.iload_n 0, 0, 0, 0), (.bipush 57, 0, 0, 0)] (by decide +kernel) trivial rfl (?_)
    show Ev l d mi_X5_sortOf 23 [some (.int x0)] [.int ((Int8.ofInt 57).toInt32), .int x0] (hp s) 0 0 _
    refine Ev.icmp_gt (off := 7) (tgt := 30) (by decide +kernel) (by decide) (fun b4 => ?_) (fun b4 => ?_)
    · have hf := (if_pos b4).symm.trans hf
      refine Ev.blk (pc' := 31) [(.iconst 3, 0, 0, 0)] (by decide +kernel) trivial rfl (?_)
      show Ev l d mi_X5_sortOf 31 [some (.int x0)] [.int (Int32.ofInt 3)] (hp s) 0 0 _
      cases hf
      exact Ev.iret .int rfl rfl (by decide +kernel) (Nat.le_refl _) (Nat.le_refl _)
    · have hf := (if_neg b4).symm.trans hf
      refine Ev.blk (pc' := 27) [(.iconst 2, 0, 0, 0)] (by decide +kernel) trivial rfl (?_)
      show Ev l d mi_X5_sortOf 27 [some (.int x0)] [.int (Int32.ofInt 2)] (hp s) 0 0 _
      refine Ev.goto (off := 4) (tgt := 31) (by decide +kernel) (by decide) ?_
      cases hf
      exact Ev.iret .int rfl rfl (by decide +kernel) (Nat.le_refl _) (Nat.le_refl _)
def f_X5_sortOf (p0 : Int32) (s : ST) : Option (Int32 × ST) := (if p0 < ((Int8.ofInt 97).toInt32) then f_X5_sortOf_j14 p0 s else (if ((Int8.ofInt 122).toInt32) < p0 then f_X5_sortOf_j14 p0 s else some ((Int32.ofInt 1), s)))
set_option maxHeartbeats 2000000 in
set_option maxRecDepth 20000 in
theorem e_X5_sortOf {l : Launch} {d : Nat} (hd : 1 ≤ d) (p0 : Int32) (s : ST) (r : Int32 × ST) (hf : f_X5_sortOf p0 s = some r) : Cl l d mi_X5_sortOf [.int p0] (hp s) (some (.int r.1), hp r.2) := by
  refine Ev.entry (by decide +kernel) rfl rfl ?_
  show Ev l d mi_X5_sortOf 0 [some (.int p0)] [] (hp s) 0 0 _
  unfold f_X5_sortOf at hf
  refine Ev.blk (pc' := 3) [(.iload_n 0, 0, 0, 0), (.bipush 97, 0, 0, 0)] (by decide +kernel) trivial rfl (?_)
  show Ev l d mi_X5_sortOf 3 [some (.int p0)] [.int ((Int8.ofInt 97).toInt32), .int p0] (hp s) 0 0 _
  refine Ev.icmp_lt (off := 11) (tgt := 14) (by decide +kernel) (by decide) (fun b1 => ?_) (fun b1 => ?_)
  · have hf := (if_pos b1).symm.trans hf
    exact (e_X5_sortOf_j14 hd) p0 s _ hf
  · have hf := (if_neg b1).symm.trans hf
    refine Ev.blk (pc' := 9) [(.iload_n 0, 0, 0, 0), (.bipush 122, 0, 0, 0)] (by decide +kernel) trivial rfl (?_)
    show Ev l d mi_X5_sortOf 9 [some (.int p0)] [.int ((Int8.ofInt 122).toInt32), .int p0] (hp s) 0 0 _
    refine Ev.icmp_gt (off := 5) (tgt := 14) (by decide +kernel) (by decide) (fun b2 => ?_) (fun b2 => ?_)
    · have hf := (if_pos b2).symm.trans hf
      exact (e_X5_sortOf_j14 hd) p0 s _ hf
    · have hf := (if_neg b2).symm.trans hf
      refine Ev.blk (pc' := 13) [(.iconst 1, 0, 0, 0)] (by decide +kernel) trivial rfl (?_)
      show Ev l d mi_X5_sortOf 13 [some (.int p0)] [.int (Int32.ofInt 1)] (hp s) 0 0 _
      cases hf
      exact Ev.iret .int rfl rfl (by decide +kernel) (Nat.le_refl _) (Nat.le_refl _)
def f_X7_byteAt (p0 : Int32) (s : ST) : Option (Int32 × ST) := (if p0 < 0 then some ((Int32.ofInt 0), s) else (if (s.1 1 1) ≤ p0 then some ((Int32.ofInt 0), s) else (if (Int32.ofNat 1600) ≤ p0 then some ((Int32.ofInt 0), s) else gd (ib p0 1600) (some (((s.1 2 p0.toNatClampNeg) &&& ((Int16.ofInt 255).toInt32)), s)))))
set_option maxHeartbeats 2000000 in
set_option maxRecDepth 20000 in
theorem e_X7_byteAt {l : Launch} {d : Nat} (hd : 1 ≤ d) (p0 : Int32) (s : ST) (r : Int32 × ST) (hf : f_X7_byteAt p0 s = some r) : Cl l d mi_X7_byteAt [.ref 1, .int p0] (hp s) (some (.int r.1), hp r.2) := by
  refine Ev.entry (by decide +kernel) rfl rfl ?_
  show Ev l d mi_X7_byteAt 0 [some (.ref 1), some (.int p0)] [] (hp s) 0 0 _
  unfold f_X7_byteAt at hf
  refine Ev.blk (pc' := 1) [(.iload_n 1, 0, 0, 0)] (by decide +kernel) trivial rfl (?_)
  show Ev l d mi_X7_byteAt 1 [some (.ref 1), some (.int p0)] [.int p0] (hp s) 0 0 _
  refine Ev.if_lt (off := 33) (tgt := 34) (by decide +kernel) (by decide) (fun b1 => ?_) (fun b1 => ?_)
  · have hf := (if_pos b1).symm.trans hf
    refine Ev.blk (pc' := 35) [(.iconst 0, 0, 0, 0)] (by decide +kernel) trivial rfl (?_)
    show Ev l d mi_X7_byteAt 35 [some (.ref 1), some (.int p0)] [.int (Int32.ofInt 0)] (hp s) 0 0 _
    cases hf
    exact Ev.iret .int rfl rfl (by decide +kernel) (Nat.le_refl _) (Nat.le_refl _)
  · have hf := (if_neg b1).symm.trans hf
    refine Ev.blk (pc' := 9) [(.iload_n 1, 0, 0, 0), (.aload_n 0, 0, 0, 0), (.getfield 15, 0, 7, 1)] (by decide +kernel) ⟨kf_7_15, trivial⟩ rfl (And.intro (kc rfl rfl) (?_))
    show Ev l d mi_X7_byteAt 9 [some (.ref 1), some (.int p0)] [.int (s.1 1 1), .int p0] (hp s) 0 0 _
    refine Ev.icmp_ge (off := 25) (tgt := 34) (by decide +kernel) (by decide) (fun b2 => ?_) (fun b2 => ?_)
    · have hf := (if_pos b2).symm.trans hf
      refine Ev.blk (pc' := 35) [(.iconst 0, 0, 0, 0)] (by decide +kernel) trivial rfl (?_)
      show Ev l d mi_X7_byteAt 35 [some (.ref 1), some (.int p0)] [.int (Int32.ofInt 0)] (hp s) 0 0 _
      cases hf
      exact Ev.iret .int rfl rfl (by decide +kernel) (Nat.le_refl _) (Nat.le_refl _)
    · have hf := (if_neg b2).symm.trans hf
      refine Ev.blk (pc' := 18) [(.iload_n 1, 0, 0, 0), (.aload_n 0, 0, 0, 0), (.getfield 9, 0, 7, 0), (.arraylength, 0, 0, 0)] (by decide +kernel) ⟨kf_7_9, trivial⟩ rfl (And.intro (kc rfl rfl) (Exists.intro 2 (And.intro rfl (And.intro (kl rfl rfl rfl) (?_)))))
      show Ev l d mi_X7_byteAt 18 [some (.ref 1), some (.int p0)] [.int (Int32.ofNat 1600), .int p0] (hp s) 0 0 _
      refine Ev.icmp_ge (off := 16) (tgt := 34) (by decide +kernel) (by decide) (fun b3 => ?_) (fun b3 => ?_)
      · have hf := (if_pos b3).symm.trans hf
        refine Ev.blk (pc' := 35) [(.iconst 0, 0, 0, 0)] (by decide +kernel) trivial rfl (?_)
        show Ev l d mi_X7_byteAt 35 [some (.ref 1), some (.int p0)] [.int (Int32.ofInt 0)] (hp s) 0 0 _
        cases hf
        exact Ev.iret .int rfl rfl (by decide +kernel) (Nat.le_refl _) (Nat.le_refl _)
      · have hf := (if_neg b3).symm.trans hf
        obtain ⟨c4, hf⟩ := gd_some hf
        refine Ev.blk (pc' := 31) [(.aload_n 0, 0, 0, 0), (.getfield 9, 0, 7, 0), (.iload_n 1, 0, 0, 0), (.baload, 0, 0, 0), (.sipush 255, 0, 0, 0), (.iand, 0, 0, 0)] (by decide +kernel) ⟨kf_7_9, trivial⟩ rfl (And.intro (kc rfl rfl) (Exists.intro 2 (And.intro rfl (And.intro (kc rfl rfl) (And.intro (ib_ok c4) (?_))))))
        show Ev l d mi_X7_byteAt 31 [some (.ref 1), some (.int p0)] [.int ((s.1 2 p0.toNatClampNeg) &&& ((Int16.ofInt 255).toInt32))] (hp s) 0 0 _
        refine Ev.goto (off := 4) (tgt := 35) (by decide +kernel) (by decide) ?_
        cases hf
        exact Ev.iret .int rfl rfl (by decide +kernel) (Nat.le_refl _) (Nat.le_refl _)
def f_X5_step_L38 (k82 : Int32 → ST → Option (ST)) : Nat → Int32 → ST → Option (ST)
  | 0, _, _ => none
  | n + 1, x1, s => (if (s.1 1 1) ≤ (s.1 3 1) then k82 x1 s else (f_X7_byteAt (s.1 3 1) s).bind (fun q6 => (f_X5_isBlank q6.1 q6.2).bind (fun q7 => (if q7.1 = 0 then k82 x1 q7.2 else lt (uI q7.2 3 1 ((q7.2.1 3 1) + (Int32.ofInt 1))) (fun s9 => (f_X5_step_L38 k82 n) x1 s9)))))
set_option maxHeartbeats 2000000 in
set_option maxRecDepth 20000 in
theorem e_X5_step_L38 {l : Launch} {d : Nat} (hd : 6 ≤ d) (k82 : Int32 → ST → Option (ST)) (hk82 : ∀ (x1 : Int32) (s : ST) (r : ST), k82 x1 s = some r → Ev l d mi_X5_step 82 [some (.ref 3), some (.int x1)] [] (hp s) 0 0 (none, hp r)) : ∀ (n : Nat) (x1 : Int32) (s : ST) (r : ST), f_X5_step_L38 k82 n x1 s = some r → Ev l d mi_X5_step 38 [some (.ref 3), some (.int x1)] [] (hp s) 0 0 (none, hp r) := by
  intro n
  induction n with
  | zero =>
    intro x1 s r hf
    cases hf
  | succ n ih =>
    intro x1 s r hf
    unfold f_X5_step_L38 at hf
    refine Ev.blk (pc' := 49) [(.aload_n 0, 0, 0, 0), (.getfield 9, 0, 5, 1), (.aload_n 0, 0, 0, 0), (.getfield 30, 0, 5, 0), (.getfield 41, 0, 7, 1)] (by decide +kernel) ⟨kf_5_9, ⟨kf_5_30, ⟨kf_5_41, trivial⟩⟩⟩ rfl (And.intro (kc rfl rfl) (And.intro (kc rfl rfl) (Exists.intro 1 (And.intro rfl (And.intro (kc rfl rfl) (?_))))))
    show Ev l d mi_X5_step 49 [some (.ref 3), some (.int x1)] [.int (s.1 1 1), .int (s.1 3 1)] (hp s) 0 0 _
    refine Ev.icmp_ge (off := 33) (tgt := 82) (by decide +kernel) (by decide) (fun b5 => ?_) (fun b5 => ?_)
    · have hf := (if_pos b5).symm.trans hf
      exact hk82 x1 s _ hf
    · have hf := (if_neg b5).symm.trans hf
      refine Ev.blk (pc' := 60) [(.aload_n 0, 0, 0, 0), (.getfield 30, 0, 5, 0), (.aload_n 0, 0, 0, 0), (.getfield 9, 0, 5, 1)] (by decide +kernel) ⟨kf_5_30, ⟨kf_5_9, trivial⟩⟩ rfl (And.intro (kc rfl rfl) (Exists.intro 1 (And.intro rfl (And.intro (kc rfl rfl) (?_)))))
      show Ev l d mi_X5_step 60 [some (.ref 3), some (.int x1)] [.int (s.1 3 1), .ref 1] (hp s) 0 0 _
      obtain ⟨q6, hq6, hf⟩ := bd_some hf
      refine Ev.callV (o := 1) (M' := mi_X7_byteAt) (d' := d - 1) (As := [.int (s.1 3 1)]) (rest := []) (r' := (some (.int q6.1), hp q6.2)) (e_X7_byteAt (d := d - 1) (by omega) (s.1 3 1) s _ hq6) (by omega) wm_X7_byteAt wi_X7_byteAt wv_X7_byteAt km_5_46 (kc rfl rfl) (Nat.le_of_ble_eq_true rfl) rfl rfl rfl (Nat.le_of_ble_eq_true rfl) ⟨Nat.le_of_ble_eq_true rfl, Nat.le_of_ble_eq_true rfl⟩ (by decide +kernel) ?_
      show Ev l d mi_X5_step 63 [some (.ref 3), some (.int x1)] [.int q6.1] (hp q6.2) 0 0 _
      obtain ⟨q7, hq7, hf⟩ := bd_some hf
      refine Ev.callS (M' := mi_X5_isBlank) (d' := d - 1) (As := [.int q6.1]) (rest := []) (r' := (some (.int q7.1), hp q7.2)) (e_X5_isBlank (d := d - 1) (by omega) q6.1 q6.2 _ hq7) (by omega) wm_X5_isBlank wt_X5_isBlank km_5_50 rfl rfl rfl (Nat.le_of_ble_eq_true rfl) ⟨Nat.le_of_ble_eq_true rfl, Nat.le_of_ble_eq_true rfl⟩ (by decide +kernel) ?_
      show Ev l d mi_X5_step 66 [some (.ref 3), some (.int x1)] [.int q7.1] (hp q7.2) 0 0 _
      refine Ev.if_eq (off := 16) (tgt := 82) (by decide +kernel) (by decide) (fun b8 => ?_) (fun b8 => ?_)
      · have hf := (if_pos b8).symm.trans hf
        exact hk82 x1 q7.2 _ hf
      · have hf := (if_neg b8).symm.trans hf
        obtain ⟨s9, hs9, hf⟩ := lt_some hf
        refine Ev.blk (pc' := 79) [(.aload_n 0, 0, 0, 0), (.dup, 0, 0, 0), (.getfield 9, 0, 5, 1), (.iconst 1, 0, 0, 0), (.iadd, 0, 0, 0), (.putfield 9, 0, 5, 1)] (by decide +kernel) ⟨kf_5_9, ⟨⟨kf_5_9, Or.inl rfl⟩, trivial⟩⟩ rfl (And.intro rfl (And.intro (kc rfl rfl) (And.intro (kc rfl rfl) (?_))))
        show Ev l d mi_X5_step 79 [some (.ref 3), some (.int x1)] [] (hp (uI q7.2 3 1 ((q7.2.1 3 1) + (Int32.ofInt 1)))) 0 0 _
        rw [← hs9]
        refine Ev.goto (off := -41) (tgt := 38) (by decide +kernel) (by decide) ?_
        exact ih x1 s9 _ hf
def f_X5_step_L163 (k219 : Int32 → ST → Option (ST)) : Nat → Int32 → ST → Option (ST)
  | 0, _, _ => none
  | n + 1, x1, s => (if (s.1 3 3) = (Int32.ofInt 3) then k219 x1 s else (if (s.1 1 1) ≤ (s.1 3 2) then k219 x1 s else (f_X7_byteAt (s.1 3 2) s).bind (fun q20 => (f_X5_sortOf q20.1 q20.2).bind (fun q21 => (if q21.1 = (q21.2.1 3 3) then lt (uI q21.2 3 2 ((q21.2.1 3 2) + (Int32.ofInt 1))) (fun s23 => (f_X5_step_L163 k219 n) x1 s23) else k219 x1 q21.2)))))
set_option maxHeartbeats 2000000 in
set_option maxRecDepth 20000 in
theorem e_X5_step_L163 {l : Launch} {d : Nat} (hd : 6 ≤ d) (k219 : Int32 → ST → Option (ST)) (hk219 : ∀ (x1 : Int32) (s : ST) (r : ST), k219 x1 s = some r → Ev l d mi_X5_step 219 [some (.ref 3), some (.int x1)] [] (hp s) 0 0 (none, hp r)) : ∀ (n : Nat) (x1 : Int32) (s : ST) (r : ST), f_X5_step_L163 k219 n x1 s = some r → Ev l d mi_X5_step 163 [some (.ref 3), some (.int x1)] [] (hp s) 0 0 (none, hp r) := by
  intro n
  induction n with
  | zero =>
    intro x1 s r hf
    cases hf
  | succ n ih =>
    intro x1 s r hf
    unfold f_X5_step_L163 at hf
    refine Ev.blk (pc' := 168) [(.aload_n 0, 0, 0, 0), (.getfield 18, 0, 5, 3), (.iconst 3, 0, 0, 0)] (by decide +kernel) ⟨kf_5_18, trivial⟩ rfl (And.intro (kc rfl rfl) (?_))
    show Ev l d mi_X5_step 168 [some (.ref 3), some (.int x1)] [.int (Int32.ofInt 3), .int (s.1 3 3)] (hp s) 0 0 _
    refine Ev.icmp_eq (off := 51) (tgt := 219) (by decide +kernel) (by decide) (fun b18 => ?_) (fun b18 => ?_)
    · have hf := (if_pos b18).symm.trans hf
      exact hk219 x1 s _ hf
    · have hf := (if_neg b18).symm.trans hf
      refine Ev.blk (pc' := 182) [(.aload_n 0, 0, 0, 0), (.getfield 15, 0, 5, 2), (.aload_n 0, 0, 0, 0), (.getfield 30, 0, 5, 0), (.getfield 41, 0, 7, 1)] (by decide +kernel) ⟨kf_5_15, ⟨kf_5_30, ⟨kf_5_41, trivial⟩⟩⟩ rfl (And.intro (kc rfl rfl) (And.intro (kc rfl rfl) (Exists.intro 1 (And.intro rfl (And.intro (kc rfl rfl) (?_))))))
      show Ev l d mi_X5_step 182 [some (.ref 3), some (.int x1)] [.int (s.1 1 1), .int (s.1 3 2)] (hp s) 0 0 _
      refine Ev.icmp_ge (off := 37) (tgt := 219) (by decide +kernel) (by decide) (fun b19 => ?_) (fun b19 => ?_)
      · have hf := (if_pos b19).symm.trans hf
        exact hk219 x1 s _ hf
      · have hf := (if_neg b19).symm.trans hf
        refine Ev.blk (pc' := 193) [(.aload_n 0, 0, 0, 0), (.getfield 30, 0, 5, 0), (.aload_n 0, 0, 0, 0), (.getfield 15, 0, 5, 2)] (by decide +kernel) ⟨kf_5_30, ⟨kf_5_15, trivial⟩⟩ rfl (And.intro (kc rfl rfl) (Exists.intro 1 (And.intro rfl (And.intro (kc rfl rfl) (?_)))))
        show Ev l d mi_X5_step 193 [some (.ref 3), some (.int x1)] [.int (s.1 3 2), .ref 1] (hp s) 0 0 _
        obtain ⟨q20, hq20, hf⟩ := bd_some hf
        refine Ev.callV (o := 1) (M' := mi_X7_byteAt) (d' := d - 1) (As := [.int (s.1 3 2)]) (rest := []) (r' := (some (.int q20.1), hp q20.2)) (e_X7_byteAt (d := d - 1) (by omega) (s.1 3 2) s _ hq20) (by omega) wm_X7_byteAt wi_X7_byteAt wv_X7_byteAt km_5_46 (kc rfl rfl) (Nat.le_of_ble_eq_true rfl) rfl rfl rfl (Nat.le_of_ble_eq_true rfl) ⟨Nat.le_of_ble_eq_true rfl, Nat.le_of_ble_eq_true rfl⟩ (by decide +kernel) ?_
        show Ev l d mi_X5_step 196 [some (.ref 3), some (.int x1)] [.int q20.1] (hp q20.2) 0 0 _
        obtain ⟨q21, hq21, hf⟩ := bd_some hf
        refine Ev.callS (M' := mi_X5_sortOf) (d' := d - 1) (As := [.int q20.1]) (rest := []) (r' := (some (.int q21.1), hp q21.2)) (e_X5_sortOf (d := d - 1) (by omega) q20.1 q20.2 _ hq21) (by omega) wm_X5_sortOf wt_X5_sortOf km_5_54 rfl rfl rfl (Nat.le_of_ble_eq_true rfl) ⟨Nat.le_of_ble_eq_true rfl, Nat.le_of_ble_eq_true rfl⟩ (by decide +kernel) ?_
        show Ev l d mi_X5_step 199 [some (.ref 3), some (.int x1)] [.int q21.1] (hp q21.2) 0 0 _
        refine Ev.blk (pc' := 203) [(.aload_n 0, 0, 0, 0), (.getfield 18, 0, 5, 3)] (by decide +kernel) ⟨kf_5_18, trivial⟩ rfl (And.intro (kc rfl rfl) (?_))
        show Ev l d mi_X5_step 203 [some (.ref 3), some (.int x1)] [.int (q21.2.1 3 3), .int q21.1] (hp q21.2) 0 0 _
        refine Ev.icmp_ne (off := 16) (tgt := 219) (by decide +kernel) (by decide) (fun b22 => ?_) (fun b22 => ?_)
        · have hf := (if_neg b22).symm.trans hf
          exact hk219 x1 q21.2 _ hf
        · have hf := (if_pos b22).symm.trans hf
          obtain ⟨s23, hs23, hf⟩ := lt_some hf
          refine Ev.blk (pc' := 216) [(.aload_n 0, 0, 0, 0), (.dup, 0, 0, 0), (.getfield 15, 0, 5, 2), (.iconst 1, 0, 0, 0), (.iadd, 0, 0, 0), (.putfield 15, 0, 5, 2)] (by decide +kernel) ⟨kf_5_15, ⟨⟨kf_5_15, Or.inl rfl⟩, trivial⟩⟩ rfl (And.intro rfl (And.intro (kc rfl rfl) (And.intro (kc rfl rfl) (?_))))
          show Ev l d mi_X5_step 216 [some (.ref 3), some (.int x1)] [] (hp (uI q21.2 3 2 ((q21.2.1 3 2) + (Int32.ofInt 1)))) 0 0 _
          rw [← hs23]
          refine Ev.goto (off := -53) (tgt := 163) (by decide +kernel) (by decide) ?_
          exact ih x1 s23 _ hf
def f_X5_step_j259 (s : ST) : Option (ST) := lt (uI s 3 3 (Int32.ofInt 4)) (fun s30 => some s30)
set_option maxHeartbeats 2000000 in
set_option maxRecDepth 20000 in
theorem e_X5_step_j259 {l : Launch} {d : Nat} (hd : 6 ≤ d) (s : ST) (r : ST) (hf : f_X5_step_j259 s = some r) : Ev l d mi_X5_step 259 [some (.ref 3), none] [] (hp s) 0 0 (none, hp r) := by
  unfold f_X5_step_j259 at hf
  obtain ⟨s30, hs30, hf⟩ := lt_some hf
  refine Ev.blk (pc' := 264) [(.aload_n 0, 0, 0, 0), (.iconst 4, 0, 0, 0), (.putfield 18, 0, 5, 3)] (by decide +kernel) ⟨⟨kf_5_18, Or.inl rfl⟩, trivial⟩ rfl (And.intro (kc rfl rfl) (?_))
  show Ev l d mi_X5_step 264 [some (.ref 3), none] [] (hp (uI s 3 3 (Int32.ofInt 4))) 0 0 _
  rw [← hs30]
  cases hf
  exact Ev.vret rfl (by decide +kernel) (Nat.le_refl _) (Nat.le_refl _)
def f_X5_step_j236 (x1 : Int32) (y1 : Int32) (s : ST) : Option (ST) := lt (uI s 3 4 y1) (fun s26 => (if x1 = 0 then some s26 else (if (s26.1 3 3) = (Int32.ofInt 1) then f_X5_step_j259 s26 else (if (s26.1 3 3) = (Int32.ofInt 2) then f_X5_step_j259 s26 else some s26))))
set_option maxHeartbeats 2000000 in
set_option maxRecDepth 20000 in
theorem e_X5_step_j236 {l : Launch} {d : Nat} (hd : 6 ≤ d) (x1 : Int32) (y1 : Int32) (s : ST) (r : ST) (hf : f_X5_step_j236 x1 y1 s = some r) : Ev l d mi_X5_step 236 [some (.ref 3), some (.int x1)] [.int y1, .ref 3] (hp s) 0 0 (none, hp r) := by
  unfold f_X5_step_j236 at hf
  obtain ⟨s26, hs26, hf⟩ := lt_some hf
  refine Ev.blk (pc' := 240) [(.putfield 21, 0, 5, 4), (.iload_n 1, 0, 0, 0)] (by decide +kernel) ⟨⟨kf_5_21, Or.inl rfl⟩, trivial⟩ rfl (And.intro (kc rfl rfl) (?_))
  show Ev l d mi_X5_step 240 [some (.ref 3), some (.int x1)] [.int x1] (hp (uI s 3 4 y1)) 0 0 _
  rw [← hs26]
  refine Ev.if_eq (off := 24) (tgt := 264) (by decide +kernel) (by decide) (fun b27 => ?_) (fun b27 => ?_)
  · have hf := (if_pos b27).symm.trans hf
    cases hf
    exact Ev.vret rfl (by decide +kernel) (Nat.le_refl _) (Nat.le_refl _)
  · have hf := (if_neg b27).symm.trans hf
    refine Ev.blk (pc' := 248) [(.aload_n 0, 0, 0, 0), (.getfield 18, 0, 5, 3), (.iconst 1, 0, 0, 0)] (by decide +kernel) ⟨kf_5_18, trivial⟩ rfl (And.intro (kc rfl rfl) (?_))
    show Ev l d mi_X5_step 248 [some (.ref 3), some (.int x1)] [.int (Int32.ofInt 1), .int (s26.1 3 3)] (hp s26) 0 0 _
    refine Ev.icmp_eq (off := 11) (tgt := 259) (by decide +kernel) (by decide) (fun b28 => ?_) (fun b28 => ?_)
    · have hf := (if_pos b28).symm.trans hf
      exact Ev.wk ((e_X5_step_j259 hd) s26 _ hf) (And.intro (Or.inr rfl) (And.intro (Or.inl rfl) (trivial)))
    · have hf := (if_neg b28).symm.trans hf
      refine Ev.blk (pc' := 256) [(.aload_n 0, 0, 0, 0), (.getfield 18, 0, 5, 3), (.iconst 2, 0, 0, 0)] (by decide +kernel) ⟨kf_5_18, trivial⟩ rfl (And.intro (kc rfl rfl) (?_))
      show Ev l d mi_X5_step 256 [some (.ref 3), some (.int x1)] [.int (Int32.ofInt 2), .int (s26.1 3 3)] (hp s26) 0 0 _
      refine Ev.icmp_ne (off := 8) (tgt := 264) (by decide +kernel) (by decide) (fun b29 => ?_) (fun b29 => ?_)
      · have hf := (if_neg b29).symm.trans hf
        cases hf
        exact Ev.vret rfl (by decide +kernel) (Nat.le_refl _) (Nat.le_refl _)
      · have hf := (if_pos b29).symm.trans hf
        exact Ev.wk ((e_X5_step_j259 hd) s26 _ hf) (And.intro (Or.inr rfl) (And.intro (Or.inl rfl) (trivial)))
def f_X5_step_j219 (x1 : Int32) (s : ST) : Option (ST) := (if (s.1 3 3) = (Int32.ofInt 1) then (f_X5_numberOfWord s).bind (fun q25 => f_X5_step_j236 x1 q25.1 q25.2) else f_X5_step_j236 x1 (Int32.ofInt (-1)) s)
set_option maxHeartbeats 2000000 in
set_option maxRecDepth 20000 in
theorem e_X5_step_j219 {l : Launch} {d : Nat} (hd : 6 ≤ d) (x1 : Int32) (s : ST) (r : ST) (hf : f_X5_step_j219 x1 s = some r) : Ev l d mi_X5_step 219 [some (.ref 3), some (.int x1)] [] (hp s) 0 0 (none, hp r) := by
  unfold f_X5_step_j219 at hf
  refine Ev.blk (pc' := 225) [(.aload_n 0, 0, 0, 0), (.aload_n 0, 0, 0, 0), (.getfield 18, 0, 5, 3), (.iconst 1, 0, 0, 0)] (by decide +kernel) ⟨kf_5_18, trivial⟩ rfl (And.intro (kc rfl rfl) (?_))
  show Ev l d mi_X5_step 225 [some (.ref 3), some (.int x1)] [.int (Int32.ofInt 1), .int (s.1 3 3), .ref 3] (hp s) 0 0 _
  refine Ev.icmp_ne (off := 10) (tgt := 235) (by decide +kernel) (by decide) (fun b24 => ?_) (fun b24 => ?_)
  · have hf := (if_neg b24).symm.trans hf
    refine Ev.blk (pc' := 236) [(.iconst (-1), 0, 0, 0)] (by decide +kernel) trivial rfl (?_)
    show Ev l d mi_X5_step 236 [some (.ref 3), some (.int x1)] [.int (Int32.ofInt (-1)), .ref 3] (hp s) 0 0 _
    exact (e_X5_step_j236 hd) x1 (Int32.ofInt (-1)) s _ hf
  · have hf := (if_pos b24).symm.trans hf
    refine Ev.blk (pc' := 229) [(.aload_n 0, 0, 0, 0)] (by decide +kernel) trivial rfl (?_)
    show Ev l d mi_X5_step 229 [some (.ref 3), some (.int x1)] [.ref 3, .ref 3] (hp s) 0 0 _
    obtain ⟨q25, hq25, hf⟩ := bd_some hf
    refine Ev.callV (o := 3) (M' := mi_X5_numberOfWord) (d' := d - 1) (As := []) (rest := [.ref 3]) (r' := (some (.int q25.1), hp q25.2)) (e_X5_numberOfWord (d := d - 1) (by omega) s _ hq25) (by omega) wm_X5_numberOfWord wi_X5_numberOfWord wv_X5_numberOfWord km_5_57 (kc rfl rfl) (Nat.le_of_ble_eq_true rfl) rfl rfl rfl (Nat.le_of_ble_eq_true rfl) ⟨Nat.le_of_ble_eq_true rfl, Nat.le_of_ble_eq_true rfl⟩ (by decide +kernel) ?_
    show Ev l d mi_X5_step 232 [some (.ref 3), some (.int x1)] [.int q25.1, .ref 3] (hp q25.2) 0 0 _
    refine Ev.goto (off := 4) (tgt := 236) (by decide +kernel) (by decide) ?_
    exact (e_X5_step_j236 hd) x1 q25.1 q25.2 _ hf
def f_X5_step_j160 (x1 : Int32) (y1 : Int32) (s : ST) : Option (ST) := lt (uI s 3 2 y1) (fun s17 => (f_X5_step_L163 f_X5_step_j219 fuel) x1 s17)
set_option maxHeartbeats 2000000 in
set_option maxRecDepth 20000 in
theorem e_X5_step_j160 {l : Launch} {d : Nat} (hd : 6 ≤ d) (x1 : Int32) (y1 : Int32) (s : ST) (r : ST) (hf : f_X5_step_j160 x1 y1 s = some r) : Ev l d mi_X5_step 160 [some (.ref 3), some (.int x1)] [.int y1, .ref 3] (hp s) 0 0 (none, hp r) := by
  unfold f_X5_step_j160 at hf
  obtain ⟨s17, hs17, hf⟩ := lt_some hf
  refine Ev.blk (pc' := 163) [(.putfield 15, 0, 5, 2)] (by decide +kernel) ⟨⟨kf_5_15, Or.inl rfl⟩, trivial⟩ rfl (And.intro (kc rfl rfl) (?_))
  show Ev l d mi_X5_step 163 [some (.ref 3), some (.int x1)] [] (hp (uI s 3 2 y1)) 0 0 _
  rw [← hs17]
  exact (e_X5_step_L163 hd f_X5_step_j219 (e_X5_step_j219 hd) fuel) x1 s17 _ hf
def f_X5_step_j136 (x1 : Int32) (y1 : Int32) (s : ST) : Option (ST) := lt (uI s 3 3 y1) (fun s15 => (if (s15.1 3 3) = 0 then f_X5_step_j160 x1 (s15.1 3 1) s15 else f_X5_step_j160 x1 ((s15.1 3 1) + (Int32.ofInt 1)) s15))
set_option maxHeartbeats 2000000 in
set_option maxRecDepth 20000 in
theorem e_X5_step_j136 {l : Launch} {d : Nat} (hd : 6 ≤ d) (x1 : Int32) (y1 : Int32) (s : ST) (r : ST) (hf : f_X5_step_j136 x1 y1 s = some r) : Ev l d mi_X5_step 136 [some (.ref 3), some (.int x1)] [.int y1, .ref 3] (hp s) 0 0 (none, hp r) := by
  unfold f_X5_step_j136 at hf
  obtain ⟨s15, hs15, hf⟩ := lt_some hf
  refine Ev.blk (pc' := 144) [(.putfield 18, 0, 5, 3), (.aload_n 0, 0, 0, 0), (.aload_n 0, 0, 0, 0), (.getfield 18, 0, 5, 3)] (by decide +kernel) ⟨⟨kf_5_18, Or.inl rfl⟩, ⟨kf_5_18, trivial⟩⟩ rfl (And.intro (kc rfl rfl) (And.intro (kc rfl rfl) (?_)))
  show Ev l d mi_X5_step 144 [some (.ref 3), some (.int x1)] [.int ((uI s 3 3 y1).1 3 3), .ref 3] (hp (uI s 3 3 y1)) 0 0 _
  rw [← hs15]
  refine Ev.if_ne (off := 10) (tgt := 154) (by decide +kernel) (by decide) (fun b16 => ?_) (fun b16 => ?_)
  · have hf := (if_neg b16).symm.trans hf
    refine Ev.blk (pc' := 160) [(.aload_n 0, 0, 0, 0), (.getfield 9, 0, 5, 1), (.iconst 1, 0, 0, 0), (.iadd, 0, 0, 0)] (by decide +kernel) ⟨kf_5_9, trivial⟩ rfl (And.intro (kc rfl rfl) (?_))
    show Ev l d mi_X5_step 160 [some (.ref 3), some (.int x1)] [.int ((s15.1 3 1) + (Int32.ofInt 1)), .ref 3] (hp s15) 0 0 _
    exact (e_X5_step_j160 hd) x1 ((s15.1 3 1) + (Int32.ofInt 1)) s15 _ hf
  · have hf := (if_pos b16).symm.trans hf
    refine Ev.blk (pc' := 151) [(.aload_n 0, 0, 0, 0), (.getfield 9, 0, 5, 1)] (by decide +kernel) ⟨kf_5_9, trivial⟩ rfl (And.intro (kc rfl rfl) (?_))
    show Ev l d mi_X5_step 151 [some (.ref 3), some (.int x1)] [.int (s15.1 3 1), .ref 3] (hp s15) 0 0 _
    refine Ev.goto (off := 9) (tgt := 160) (by decide +kernel) (by decide) ?_
    exact (e_X5_step_j160 hd) x1 (s15.1 3 1) s15 _ hf
def f_X5_step_j102 (y0 : Int32) (s : ST) : Option (ST) := (if (s.1 1 1) ≤ (s.1 3 1) then f_X5_step_j136 y0 (Int32.ofInt 0) s else (f_X7_byteAt (s.1 3 1) s).bind (fun q13 => (f_X5_sortOf q13.1 q13.2).bind (fun q14 => f_X5_step_j136 y0 q14.1 q14.2)))
set_option maxHeartbeats 2000000 in
set_option maxRecDepth 20000 in
theorem e_X5_step_j102 {l : Launch} {d : Nat} (hd : 6 ≤ d) (y0 : Int32) (s : ST) (r : ST) (hf : f_X5_step_j102 y0 s = some r) : Ev l d mi_X5_step 102 [some (.ref 3), none] [.int y0] (hp s) 0 0 (none, hp r) := by
  unfold f_X5_step_j102 at hf
  refine Ev.blk (pc' := 115) [(.istore_n 1, 0, 0, 0), (.aload_n 0, 0, 0, 0), (.aload_n 0, 0, 0, 0), (.getfield 9, 0, 5, 1), (.aload_n 0, 0, 0, 0), (.getfield 30, 0, 5, 0), (.getfield 41, 0, 7, 1)] (by decide +kernel) ⟨kf_5_9, ⟨kf_5_30, ⟨kf_5_41, trivial⟩⟩⟩ rfl (And.intro (Nat.le_of_ble_eq_true rfl) (And.intro (kc rfl rfl) (And.intro (kc rfl rfl) (Exists.intro 1 (And.intro rfl (And.intro (kc rfl rfl) (?_)))))))
  show Ev l d mi_X5_step 115 [some (.ref 3), some (.int y0)] [.int (s.1 1 1), .int (s.1 3 1), .ref 3] (hp s) 0 0 _
  refine Ev.icmp_ge (off := 20) (tgt := 135) (by decide +kernel) (by decide) (fun b12 => ?_) (fun b12 => ?_)
  · have hf := (if_pos b12).symm.trans hf
    refine Ev.blk (pc' := 136) [(.iconst 0, 0, 0, 0)] (by decide +kernel) trivial rfl (?_)
    show Ev l d mi_X5_step 136 [some (.ref 3), some (.int y0)] [.int (Int32.ofInt 0), .ref 3] (hp s) 0 0 _
    exact (e_X5_step_j136 hd) y0 (Int32.ofInt 0) s _ hf
  · have hf := (if_neg b12).symm.trans hf
    refine Ev.blk (pc' := 126) [(.aload_n 0, 0, 0, 0), (.getfield 30, 0, 5, 0), (.aload_n 0, 0, 0, 0), (.getfield 9, 0, 5, 1)] (by decide +kernel) ⟨kf_5_30, ⟨kf_5_9, trivial⟩⟩ rfl (And.intro (kc rfl rfl) (Exists.intro 1 (And.intro rfl (And.intro (kc rfl rfl) (?_)))))
    show Ev l d mi_X5_step 126 [some (.ref 3), some (.int y0)] [.int (s.1 3 1), .ref 1, .ref 3] (hp s) 0 0 _
    obtain ⟨q13, hq13, hf⟩ := bd_some hf
    refine Ev.callV (o := 1) (M' := mi_X7_byteAt) (d' := d - 1) (As := [.int (s.1 3 1)]) (rest := [.ref 3]) (r' := (some (.int q13.1), hp q13.2)) (e_X7_byteAt (d := d - 1) (by omega) (s.1 3 1) s _ hq13) (by omega) wm_X7_byteAt wi_X7_byteAt wv_X7_byteAt km_5_46 (kc rfl rfl) (Nat.le_of_ble_eq_true rfl) rfl rfl rfl (Nat.le_of_ble_eq_true rfl) ⟨Nat.le_of_ble_eq_true rfl, Nat.le_of_ble_eq_true rfl⟩ (by decide +kernel) ?_
    show Ev l d mi_X5_step 129 [some (.ref 3), some (.int y0)] [.int q13.1, .ref 3] (hp q13.2) 0 0 _
    obtain ⟨q14, hq14, hf⟩ := bd_some hf
    refine Ev.callS (M' := mi_X5_sortOf) (d' := d - 1) (As := [.int q13.1]) (rest := [.ref 3]) (r' := (some (.int q14.1), hp q14.2)) (e_X5_sortOf (d := d - 1) (by omega) q13.1 q13.2 _ hq14) (by omega) wm_X5_sortOf wt_X5_sortOf km_5_54 rfl rfl rfl (Nat.le_of_ble_eq_true rfl) ⟨Nat.le_of_ble_eq_true rfl, Nat.le_of_ble_eq_true rfl⟩ (by decide +kernel) ?_
    show Ev l d mi_X5_step 132 [some (.ref 3), some (.int y0)] [.int q14.1, .ref 3] (hp q14.2) 0 0 _
    refine Ev.goto (off := 4) (tgt := 136) (by decide +kernel) (by decide) ?_
    exact (e_X5_step_j136 hd) y0 q14.1 q14.2 _ hf
def f_X5_step_j101 (s : ST) : Option (ST) := f_X5_step_j102 (Int32.ofInt 0) s
set_option maxHeartbeats 2000000 in
set_option maxRecDepth 20000 in
theorem e_X5_step_j101 {l : Launch} {d : Nat} (hd : 6 ≤ d) (s : ST) (r : ST) (hf : f_X5_step_j101 s = some r) : Ev l d mi_X5_step 101 [some (.ref 3), none] [] (hp s) 0 0 (none, hp r) := by
  unfold f_X5_step_j101 at hf
  refine Ev.blk (pc' := 102) [(.iconst 0, 0, 0, 0)] (by decide +kernel) trivial rfl (?_)
  show Ev l d mi_X5_step 102 [some (.ref 3), none] [.int (Int32.ofInt 0)] (hp s) 0 0 _
  exact (e_X5_step_j102 hd) (Int32.ofInt 0) s _ hf
def f_X5_step_j82 (x1 : Int32) (s : ST) : Option (ST) := (if x1 = 0 then f_X5_step_j101 s else (if (s.1 3 1) = (s.1 3 2) then f_X5_step_j102 (Int32.ofInt 1) s else f_X5_step_j101 s))
set_option maxHeartbeats 2000000 in
set_option maxRecDepth 20000 in
theorem e_X5_step_j82 {l : Launch} {d : Nat} (hd : 6 ≤ d) (x1 : Int32) (s : ST) (r : ST) (hf : f_X5_step_j82 x1 s = some r) : Ev l d mi_X5_step 82 [some (.ref 3), some (.int x1)] [] (hp s) 0 0 (none, hp r) := by
  unfold f_X5_step_j82 at hf
  refine Ev.blk (pc' := 83) [(.iload_n 1, 0, 0, 0)] (by decide +kernel) trivial rfl (?_)
  show Ev l d mi_X5_step 83 [some (.ref 3), some (.int x1)] [.int x1] (hp s) 0 0 _
  refine Ev.if_eq (off := 18) (tgt := 101) (by decide +kernel) (by decide) (fun b10 => ?_) (fun b10 => ?_)
  · have hf := (if_pos b10).symm.trans hf
    exact Ev.wk ((e_X5_step_j101 hd) s _ hf) (And.intro (Or.inr rfl) (And.intro (Or.inl rfl) (trivial)))
  · have hf := (if_neg b10).symm.trans hf
    refine Ev.blk (pc' := 94) [(.aload_n 0, 0, 0, 0), (.getfield 9, 0, 5, 1), (.aload_n 0, 0, 0, 0), (.getfield 15, 0, 5, 2)] (by decide +kernel) ⟨kf_5_9, ⟨kf_5_15, trivial⟩⟩ rfl (And.intro (kc rfl rfl) (And.intro (kc rfl rfl) (?_)))
    show Ev l d mi_X5_step 94 [some (.ref 3), some (.int x1)] [.int (s.1 3 2), .int (s.1 3 1)] (hp s) 0 0 _
    refine Ev.icmp_ne (off := 7) (tgt := 101) (by decide +kernel) (by decide) (fun b11 => ?_) (fun b11 => ?_)
    · have hf := (if_neg b11).symm.trans hf
      exact Ev.wk ((e_X5_step_j101 hd) s _ hf) (And.intro (Or.inr rfl) (And.intro (Or.inl rfl) (trivial)))
    · have hf := (if_pos b11).symm.trans hf
      refine Ev.blk (pc' := 98) [(.iconst 1, 0, 0, 0)] (by decide +kernel) trivial rfl (?_)
      show Ev l d mi_X5_step 98 [some (.ref 3), some (.int x1)] [.int (Int32.ofInt 1)] (hp s) 0 0 _
      refine Ev.goto (off := 4) (tgt := 102) (by decide +kernel) (by decide) ?_
      exact Ev.wk ((e_X5_step_j102 hd) (Int32.ofInt 1) s _ hf) (And.intro (Or.inr rfl) (And.intro (Or.inl rfl) (trivial)))
def f_X5_step_j29 (y0 : Int32) (s : ST) : Option (ST) := lt (uI s 3 1 (s.1 3 2)) (fun s4 => (f_X5_step_L38 f_X5_step_j82 fuel) y0 s4)
set_option maxHeartbeats 2000000 in
set_option maxRecDepth 20000 in
theorem e_X5_step_j29 {l : Launch} {d : Nat} (hd : 6 ≤ d) (y0 : Int32) (s : ST) (r : ST) (hf : f_X5_step_j29 y0 s = some r) : Ev l d mi_X5_step 29 [some (.ref 3), none] [.int y0] (hp s) 0 0 (none, hp r) := by
  unfold f_X5_step_j29 at hf
  obtain ⟨s4, hs4, hf⟩ := lt_some hf
  refine Ev.blk (pc' := 38) [(.istore_n 1, 0, 0, 0), (.aload_n 0, 0, 0, 0), (.aload_n 0, 0, 0, 0), (.getfield 15, 0, 5, 2), (.putfield 9, 0, 5, 1)] (by decide +kernel) ⟨kf_5_15, ⟨⟨kf_5_9, Or.inl rfl⟩, trivial⟩⟩ rfl (And.intro (Nat.le_of_ble_eq_true rfl) (And.intro (kc rfl rfl) (And.intro (kc rfl rfl) (?_))))
  show Ev l d mi_X5_step 38 [some (.ref 3), some (.int y0)] [] (hp (uI s 3 1 (s.1 3 2))) 0 0 _
  rw [← hs4]
  exact (e_X5_step_L38 hd f_X5_step_j82 (e_X5_step_j82 hd) fuel) y0 s4 _ hf
def f_X5_step (s : ST) : Option (ST) := (if (s.1 3 5) = 0 then (if (s.1 3 3) = (Int32.ofInt 1) then f_X5_step_j29 (Int32.ofInt 1) s else (if (s.1 3 3) = (Int32.ofInt 2) then f_X5_step_j29 (Int32.ofInt 1) s else f_X5_step_j29 (Int32.ofInt 0) s)) else some s)
set_option maxHeartbeats 2000000 in
set_option maxRecDepth 20000 in
theorem e_X5_step {l : Launch} {d : Nat} (hd : 6 ≤ d) (s : ST) (r : ST) (hf : f_X5_step s = some r) : Cl l d mi_X5_step [.ref 3] (hp s) (none, hp r) := by
  refine Ev.entry (by decide +kernel) rfl rfl ?_
  show Ev l d mi_X5_step 0 [some (.ref 3), none] [] (hp s) 0 0 _
  unfold f_X5_step at hf
  refine Ev.blk (pc' := 4) [(.aload_n 0, 0, 0, 0), (.getfield 24, 0, 5, 5)] (by decide +kernel) ⟨kf_5_24, trivial⟩ rfl (And.intro (kc rfl rfl) (?_))
  show Ev l d mi_X5_step 4 [some (.ref 3), none] [.int (s.1 3 5)] (hp s) 0 0 _
  refine Ev.if_eq (off := 4) (tgt := 8) (by decide +kernel) (by decide) (fun b1 => ?_) (fun b1 => ?_)
  · have hf := (if_pos b1).symm.trans hf
    refine Ev.blk (pc' := 13) [(.aload_n 0, 0, 0, 0), (.getfield 18, 0, 5, 3), (.iconst 1, 0, 0, 0)] (by decide +kernel) ⟨kf_5_18, trivial⟩ rfl (And.intro (kc rfl rfl) (?_))
    show Ev l d mi_X5_step 13 [some (.ref 3), none] [.int (Int32.ofInt 1), .int (s.1 3 3)] (hp s) 0 0 _
    refine Ev.icmp_eq (off := 11) (tgt := 24) (by decide +kernel) (by decide) (fun b2 => ?_) (fun b2 => ?_)
    · have hf := (if_pos b2).symm.trans hf
      refine Ev.blk (pc' := 25) [(.iconst 1, 0, 0, 0)] (by decide +kernel) trivial rfl (?_)
      show Ev l d mi_X5_step 25 [some (.ref 3), none] [.int (Int32.ofInt 1)] (hp s) 0 0 _
      refine Ev.goto (off := 4) (tgt := 29) (by decide +kernel) (by decide) ?_
      exact (e_X5_step_j29 hd) (Int32.ofInt 1) s _ hf
    · have hf := (if_neg b2).symm.trans hf
      refine Ev.blk (pc' := 21) [(.aload_n 0, 0, 0, 0), (.getfield 18, 0, 5, 3), (.iconst 2, 0, 0, 0)] (by decide +kernel) ⟨kf_5_18, trivial⟩ rfl (And.intro (kc rfl rfl) (?_))
      show Ev l d mi_X5_step 21 [some (.ref 3), none] [.int (Int32.ofInt 2), .int (s.1 3 3)] (hp s) 0 0 _
      refine Ev.icmp_ne (off := 7) (tgt := 28) (by decide +kernel) (by decide) (fun b3 => ?_) (fun b3 => ?_)
      · have hf := (if_neg b3).symm.trans hf
        refine Ev.blk (pc' := 29) [(.iconst 0, 0, 0, 0)] (by decide +kernel) trivial rfl (?_)
        show Ev l d mi_X5_step 29 [some (.ref 3), none] [.int (Int32.ofInt 0)] (hp s) 0 0 _
        exact (e_X5_step_j29 hd) (Int32.ofInt 0) s _ hf
      · have hf := (if_pos b3).symm.trans hf
        refine Ev.blk (pc' := 25) [(.iconst 1, 0, 0, 0)] (by decide +kernel) trivial rfl (?_)
        show Ev l d mi_X5_step 25 [some (.ref 3), none] [.int (Int32.ofInt 1)] (hp s) 0 0 _
        refine Ev.goto (off := 4) (tgt := 29) (by decide +kernel) (by decide) ?_
        exact (e_X5_step_j29 hd) (Int32.ofInt 1) s _ hf
  · have hf := (if_neg b1).symm.trans hf
    cases hf
    exact Ev.vret rfl (by decide +kernel) (Nat.le_refl _) (Nat.le_refl _)
def f_X1_opens (p0 : Int32) (s : ST) : Option (Int32 × ST) := (if p0 < ((Int8.ofInt 6).toInt32) then (f_X5_step s).bind (fun q2 => some ((Int32.ofInt 1), q2)) else (f_X5_fail (Int32.ofInt 4) (s.1 3 1) s).bind (fun q3 => some ((Int32.ofInt 0), q3)))
set_option maxHeartbeats 2000000 in
set_option maxRecDepth 20000 in
theorem e_X1_opens {l : Launch} {d : Nat} (hd : 7 ≤ d) (p0 : Int32) (s : ST) (r : Int32 × ST) (hf : f_X1_opens p0 s = some r) : Cl l d mi_X1_opens [.ref 5, .int p0] (hp s) (some (.int r.1), hp r.2) := by
  refine Ev.entry (by decide +kernel) rfl rfl ?_
  show Ev l d mi_X1_opens 0 [some (.ref 5), some (.int p0)] [] (hp s) 0 0 _
  unfold f_X1_opens at hf
  refine Ev.blk (pc' := 3) [(.iload_n 1, 0, 0, 0), (.bipush 6, 0, 0, 0)] (by decide +kernel) trivial rfl (?_)
  show Ev l d mi_X1_opens 3 [some (.ref 5), some (.int p0)] [.int ((Int8.ofInt 6).toInt32), .int p0] (hp s) 0 0 _
  refine Ev.icmp_lt (off := 20) (tgt := 23) (by decide +kernel) (by decide) (fun b1 => ?_) (fun b1 => ?_)
  · have hf := (if_pos b1).symm.trans hf
    refine Ev.blk (pc' := 27) [(.aload_n 0, 0, 0, 0), (.getfield 19, 0, 1, 0)] (by decide +kernel) ⟨kf_1_19, trivial⟩ rfl (And.intro (kc rfl rfl) (Exists.intro 3 (And.intro rfl (?_))))
    show Ev l d mi_X1_opens 27 [some (.ref 5), some (.int p0)] [.ref 3] (hp s) 0 0 _
    obtain ⟨q2, hq2, hf⟩ := bd_some hf
    refine Ev.callV (o := 3) (M' := mi_X5_step) (d' := d - 1) (As := []) (rest := []) (r' := (none, hp q2)) (e_X5_step (d := d - 1) (by omega) s _ hq2) (by omega) wm_X5_step wi_X5_step wv_X5_step km_1_42 (kc rfl rfl) (Nat.le_of_ble_eq_true rfl) rfl rfl rfl (Nat.le_of_ble_eq_true rfl) ⟨Nat.le_of_ble_eq_true rfl, Nat.le_of_ble_eq_true rfl⟩ (by decide +kernel) ?_
    show Ev l d mi_X1_opens 30 [some (.ref 5), some (.int p0)] [] (hp q2) 0 0 _
    refine Ev.blk (pc' := 31) [(.iconst 1, 0, 0, 0)] (by decide +kernel) trivial rfl (?_)
    show Ev l d mi_X1_opens 31 [some (.ref 5), some (.int p0)] [.int (Int32.ofInt 1)] (hp q2) 0 0 _
    cases hf
    exact Ev.iret .boolean rfl rfl (by decide +kernel) (Nat.le_refl _) (Nat.le_refl _)
  · have hf := (if_neg b1).symm.trans hf
    refine Ev.blk (pc' := 18) [(.aload_n 0, 0, 0, 0), (.getfield 19, 0, 1, 0), (.iconst 4, 0, 0, 0), (.aload_n 0, 0, 0, 0), (.getfield 19, 0, 1, 0), (.getfield 83, 0, 5, 1)] (by decide +kernel) ⟨kf_1_19, ⟨kf_1_19, ⟨kf_1_83, trivial⟩⟩⟩ rfl (And.intro (kc rfl rfl) (Exists.intro 3 (And.intro rfl (And.intro (kc rfl rfl) (Exists.intro 3 (And.intro rfl (And.intro (kc rfl rfl) (?_))))))))
    show Ev l d mi_X1_opens 18 [some (.ref 5), some (.int p0)] [.int (s.1 3 1), .int (Int32.ofInt 4), .ref 3] (hp s) 0 0 _
    obtain ⟨q3, hq3, hf⟩ := bd_some hf
    refine Ev.callV (o := 3) (M' := mi_X5_fail) (d' := d - 1) (As := [.int (Int32.ofInt 4), .int (s.1 3 1)]) (rest := []) (r' := (none, hp q3)) (e_X5_fail (d := d - 1) (by omega) (Int32.ofInt 4) (s.1 3 1) s _ hq3) (by omega) wm_X5_fail wi_X5_fail wv_X5_fail km_1_86 (kc rfl rfl) (Nat.le_of_ble_eq_true rfl) rfl rfl rfl (Nat.le_of_ble_eq_true rfl) ⟨Nat.le_of_ble_eq_true rfl, Nat.le_of_ble_eq_true rfl⟩ (by decide +kernel) ?_
    show Ev l d mi_X1_opens 21 [some (.ref 5), some (.int p0)] [] (hp q3) 0 0 _
    refine Ev.blk (pc' := 22) [(.iconst 0, 0, 0, 0)] (by decide +kernel) trivial rfl (?_)
    show Ev l d mi_X1_opens 22 [some (.ref 5), some (.int p0)] [.int (Int32.ofInt 0)] (hp q3) 0 0 _
    cases hf
    exact Ev.iret .boolean rfl rfl (by decide +kernel) (Nat.le_refl _) (Nat.le_refl _)
def f_X5_failForm (s : ST) : Option (ST) := (f_X5_fail (Int32.ofInt 1) (s.1 3 1) s).bind (fun q1 => some q1)
set_option maxHeartbeats 2000000 in
set_option maxRecDepth 20000 in
theorem e_X5_failForm {l : Launch} {d : Nat} (hd : 2 ≤ d) (s : ST) (r : ST) (hf : f_X5_failForm s = some r) : Cl l d mi_X5_failForm [.ref 3] (hp s) (none, hp r) := by
  refine Ev.entry (by decide +kernel) rfl rfl ?_
  show Ev l d mi_X5_failForm 0 [some (.ref 3)] [] (hp s) 0 0 _
  unfold f_X5_failForm at hf
  refine Ev.blk (pc' := 6) [(.aload_n 0, 0, 0, 0), (.iconst 1, 0, 0, 0), (.aload_n 0, 0, 0, 0), (.getfield 9, 0, 5, 1)] (by decide +kernel) ⟨kf_5_9, trivial⟩ rfl (And.intro (kc rfl rfl) (?_))
  show Ev l d mi_X5_failForm 6 [some (.ref 3)] [.int (s.1 3 1), .int (Int32.ofInt 1), .ref 3] (hp s) 0 0 _
  obtain ⟨q1, hq1, hf⟩ := bd_some hf
  refine Ev.callV (o := 3) (M' := mi_X5_fail) (d' := d - 1) (As := [.int (Int32.ofInt 1), .int (s.1 3 1)]) (rest := []) (r' := (none, hp q1)) (e_X5_fail (d := d - 1) (by omega) (Int32.ofInt 1) (s.1 3 1) s _ hq1) (by omega) wm_X5_fail wi_X5_fail wv_X5_fail km_5_37 (kc rfl rfl) (Nat.le_of_ble_eq_true rfl) rfl rfl rfl (Nat.le_of_ble_eq_true rfl) ⟨Nat.le_of_ble_eq_true rfl, Nat.le_of_ble_eq_true rfl⟩ (by decide +kernel) ?_
  show Ev l d mi_X5_failForm 9 [some (.ref 3)] [] (hp q1) 0 0 _
  cases hf
  exact Ev.vret rfl (by decide +kernel) (Nat.le_refl _) (Nat.le_refl _)
def f_X5_isSign (p0 : Int32) (s : ST) : Option (Int32 × ST) := (if (s.1 3 3) = (Int32.ofInt 3) then (f_X7_byteAt (s.1 3 1) s).bind (fun q2 => (if q2.1 = p0 then some ((Int32.ofInt 1), q2.2) else some ((Int32.ofInt 0), q2.2))) else some ((Int32.ofInt 0), s))
set_option maxHeartbeats 2000000 in
set_option maxRecDepth 20000 in
theorem e_X5_isSign {l : Launch} {d : Nat} (hd : 2 ≤ d) (p0 : Int32) (s : ST) (r : Int32 × ST) (hf : f_X5_isSign p0 s = some r) : Cl l d mi_X5_isSign [.ref 3, .int p0] (hp s) (some (.int r.1), hp r.2) := by
  refine Ev.entry (by decide +kernel) rfl rfl ?_
  show Ev l d mi_X5_isSign 0 [some (.ref 3), some (.int p0)] [] (hp s) 0 0 _
  unfold f_X5_isSign at hf
  refine Ev.blk (pc' := 5) [(.aload_n 0, 0, 0, 0), (.getfield 18, 0, 5, 3), (.iconst 3, 0, 0, 0)] (by decide +kernel) ⟨kf_5_18, trivial⟩ rfl (And.intro (kc rfl rfl) (?_))
  show Ev l d mi_X5_isSign 5 [some (.ref 3), some (.int p0)] [.int (Int32.ofInt 3), .int (s.1 3 3)] (hp s) 0 0 _
  refine Ev.icmp_ne (off := 22) (tgt := 27) (by decide +kernel) (by decide) (fun b1 => ?_) (fun b1 => ?_)
  · have hf := (if_neg b1).symm.trans hf
    refine Ev.blk (pc' := 28) [(.iconst 0, 0, 0, 0)] (by decide +kernel) trivial rfl (?_)
    show Ev l d mi_X5_isSign 28 [some (.ref 3), some (.int p0)] [.int (Int32.ofInt 0)] (hp s) 0 0 _
    cases hf
    exact Ev.iret .boolean rfl rfl (by decide +kernel) (Nat.le_refl _) (Nat.le_refl _)
  · have hf := (if_pos b1).symm.trans hf
    refine Ev.blk (pc' := 16) [(.aload_n 0, 0, 0, 0), (.getfield 30, 0, 5, 0), (.aload_n 0, 0, 0, 0), (.getfield 9, 0, 5, 1)] (by decide +kernel) ⟨kf_5_30, ⟨kf_5_9, trivial⟩⟩ rfl (And.intro (kc rfl rfl) (Exists.intro 1 (And.intro rfl (And.intro (kc rfl rfl) (?_)))))
    show Ev l d mi_X5_isSign 16 [some (.ref 3), some (.int p0)] [.int (s.1 3 1), .ref 1] (hp s) 0 0 _
    obtain ⟨q2, hq2, hf⟩ := bd_some hf
    refine Ev.callV (o := 1) (M' := mi_X7_byteAt) (d' := d - 1) (As := [.int (s.1 3 1)]) (rest := []) (r' := (some (.int q2.1), hp q2.2)) (e_X7_byteAt (d := d - 1) (by omega) (s.1 3 1) s _ hq2) (by omega) wm_X7_byteAt wi_X7_byteAt wv_X7_byteAt km_5_46 (kc rfl rfl) (Nat.le_of_ble_eq_true rfl) rfl rfl rfl (Nat.le_of_ble_eq_true rfl) ⟨Nat.le_of_ble_eq_true rfl, Nat.le_of_ble_eq_true rfl⟩ (by decide +kernel) ?_
    show Ev l d mi_X5_isSign 19 [some (.ref 3), some (.int p0)] [.int q2.1] (hp q2.2) 0 0 _
    refine Ev.blk (pc' := 20) [(.iload_n 1, 0, 0, 0)] (by decide +kernel) trivial rfl (?_)
    show Ev l d mi_X5_isSign 20 [some (.ref 3), some (.int p0)] [.int p0, .int q2.1] (hp q2.2) 0 0 _
    refine Ev.icmp_ne (off := 7) (tgt := 27) (by decide +kernel) (by decide) (fun b3 => ?_) (fun b3 => ?_)
    · have hf := (if_neg b3).symm.trans hf
      refine Ev.blk (pc' := 28) [(.iconst 0, 0, 0, 0)] (by decide +kernel) trivial rfl (?_)
      show Ev l d mi_X5_isSign 28 [some (.ref 3), some (.int p0)] [.int (Int32.ofInt 0)] (hp q2.2) 0 0 _
      cases hf
      exact Ev.iret .boolean rfl rfl (by decide +kernel) (Nat.le_refl _) (Nat.le_refl _)
    · have hf := (if_pos b3).symm.trans hf
      refine Ev.blk (pc' := 24) [(.iconst 1, 0, 0, 0)] (by decide +kernel) trivial rfl (?_)
      show Ev l d mi_X5_isSign 24 [some (.ref 3), some (.int p0)] [.int (Int32.ofInt 1)] (hp q2.2) 0 0 _
      refine Ev.goto (off := 4) (tgt := 28) (by decide +kernel) (by decide) ?_
      cases hf
      exact Ev.iret .boolean rfl rfl (by decide +kernel) (Nat.le_refl _) (Nat.le_refl _)
def f_X5_takeSign (p0 : Int32) (s : ST) : Option (ST) := (f_X5_isSign p0 s).bind (fun q1 => (if q1.1 = 0 then (f_X5_failForm q1.2).bind (fun q3 => some q3) else (f_X5_step q1.2).bind (fun q4 => some q4)))
set_option maxHeartbeats 2000000 in
set_option maxRecDepth 20000 in
theorem e_X5_takeSign {l : Launch} {d : Nat} (hd : 7 ≤ d) (p0 : Int32) (s : ST) (r : ST) (hf : f_X5_takeSign p0 s = some r) : Cl l d mi_X5_takeSign [.ref 3, .int p0] (hp s) (none, hp r) := by
  refine Ev.entry (by decide +kernel) rfl rfl ?_
  show Ev l d mi_X5_takeSign 0 [some (.ref 3), some (.int p0)] [] (hp s) 0 0 _
  unfold f_X5_takeSign at hf
  refine Ev.blk (pc' := 2) [(.aload_n 0, 0, 0, 0), (.iload_n 1, 0, 0, 0)] (by decide +kernel) trivial rfl (?_)
  show Ev l d mi_X5_takeSign 2 [some (.ref 3), some (.int p0)] [.int p0, .ref 3] (hp s) 0 0 _
  obtain ⟨q1, hq1, hf⟩ := bd_some hf
  refine Ev.callV (o := 3) (M' := mi_X5_isSign) (d' := d - 1) (As := [.int p0]) (rest := []) (r' := (some (.int q1.1), hp q1.2)) (e_X5_isSign (d := d - 1) (by omega) p0 s _ hq1) (by omega) wm_X5_isSign wi_X5_isSign wv_X5_isSign km_5_81 (kc rfl rfl) (Nat.le_of_ble_eq_true rfl) rfl rfl rfl (Nat.le_of_ble_eq_true rfl) ⟨Nat.le_of_ble_eq_true rfl, Nat.le_of_ble_eq_true rfl⟩ (by decide +kernel) ?_
  show Ev l d mi_X5_takeSign 5 [some (.ref 3), some (.int p0)] [.int q1.1] (hp q1.2) 0 0 _
  refine Ev.if_eq (off := 10) (tgt := 15) (by decide +kernel) (by decide) (fun b2 => ?_) (fun b2 => ?_)
  · have hf := (if_pos b2).symm.trans hf
    refine Ev.blk (pc' := 16) [(.aload_n 0, 0, 0, 0)] (by decide +kernel) trivial rfl (?_)
    show Ev l d mi_X5_takeSign 16 [some (.ref 3), some (.int p0)] [.ref 3] (hp q1.2) 0 0 _
    obtain ⟨q3, hq3, hf⟩ := bd_some hf
    refine Ev.callV (o := 3) (M' := mi_X5_failForm) (d' := d - 1) (As := []) (rest := []) (r' := (none, hp q3)) (e_X5_failForm (d := d - 1) (by omega) q1.2 _ hq3) (by omega) wm_X5_failForm wi_X5_failForm wv_X5_failForm km_5_78 (kc rfl rfl) (Nat.le_of_ble_eq_true rfl) rfl rfl rfl (Nat.le_of_ble_eq_true rfl) ⟨Nat.le_of_ble_eq_true rfl, Nat.le_of_ble_eq_true rfl⟩ (by decide +kernel) ?_
    show Ev l d mi_X5_takeSign 19 [some (.ref 3), some (.int p0)] [] (hp q3) 0 0 _
    cases hf
    exact Ev.vret rfl (by decide +kernel) (Nat.le_refl _) (Nat.le_refl _)
  · have hf := (if_neg b2).symm.trans hf
    refine Ev.blk (pc' := 9) [(.aload_n 0, 0, 0, 0)] (by decide +kernel) trivial rfl (?_)
    show Ev l d mi_X5_takeSign 9 [some (.ref 3), some (.int p0)] [.ref 3] (hp q1.2) 0 0 _
    obtain ⟨q4, hq4, hf⟩ := bd_some hf
    refine Ev.callV (o := 3) (M' := mi_X5_step) (d' := d - 1) (As := []) (rest := []) (r' := (none, hp q4)) (e_X5_step (d := d - 1) (by omega) q1.2 _ hq4) (by omega) wm_X5_step wi_X5_step wv_X5_step km_5_34 (kc rfl rfl) (Nat.le_of_ble_eq_true rfl) rfl rfl rfl (Nat.le_of_ble_eq_true rfl) ⟨Nat.le_of_ble_eq_true rfl, Nat.le_of_ble_eq_true rfl⟩ (by decide +kernel) ?_
    show Ev l d mi_X5_takeSign 12 [some (.ref 3), some (.int p0)] [] (hp q4) 0 0 _
    refine Ev.goto (off := 7) (tgt := 19) (by decide +kernel) (by decide) ?_
    cases hf
    exact Ev.vret rfl (by decide +kernel) (Nat.le_refl _) (Nat.le_refl _)
def f_X1_isFact_j37 (x1 : Int32) (s : ST) : Option (Int32 × ST) := (if x1 = ((Int8.ofInt 7).toInt32) then some ((Int32.ofInt 1), s) else (if x1 = ((Int8.ofInt 6).toInt32) then some ((Int32.ofInt 1), s) else some ((Int32.ofInt 0), s)))
set_option maxHeartbeats 2000000 in
set_option maxRecDepth 20000 in
theorem e_X1_isFact_j37 {l : Launch} {d : Nat} (hd : 1 ≤ d) (x1 : Int32) (s : ST) (r : Int32 × ST) (hf : f_X1_isFact_j37 x1 s = some r) : Ev l d mi_X1_isFact 37 [none, some (.int x1)] [] (hp s) 0 0 (some (.int r.1), hp r.2) := by
  unfold f_X1_isFact_j37 at hf
  refine Ev.blk (pc' := 40) [(.iload_n 1, 0, 0, 0), (.bipush 7, 0, 0, 0)] (by decide +kernel) trivial rfl (?_)
  show Ev l d mi_X1_isFact 40 [none, some (.int x1)] [.int ((Int8.ofInt 7).toInt32), .int x1] (hp s) 0 0 _
  refine Ev.icmp_eq (off := 9) (tgt := 49) (by decide +kernel) (by decide) (fun b6 => ?_) (fun b6 => ?_)
  · have hf := (if_pos b6).symm.trans hf
    refine Ev.blk (pc' := 50) [(.iconst 1, 0, 0, 0)] (by decide +kernel) trivial rfl (?_)
    show Ev l d mi_X1_isFact 50 [none, some (.int x1)] [.int (Int32.ofInt 1)] (hp s) 0 0 _
    refine Ev.goto (off := 4) (tgt := 54) (by decide +kernel) (by decide) ?_
    cases hf
    exact Ev.iret .boolean rfl rfl (by decide +kernel) (Nat.le_refl _) (Nat.le_refl _)
  · have hf := (if_neg b6).symm.trans hf
    refine Ev.blk (pc' := 46) [(.iload_n 1, 0, 0, 0), (.bipush 6, 0, 0, 0)] (by decide +kernel) trivial rfl (?_)
    show Ev l d mi_X1_isFact 46 [none, some (.int x1)] [.int ((Int8.ofInt 6).toInt32), .int x1] (hp s) 0 0 _
    refine Ev.icmp_ne (off := 7) (tgt := 53) (by decide +kernel) (by decide) (fun b7 => ?_) (fun b7 => ?_)
    · have hf := (if_neg b7).symm.trans hf
      refine Ev.blk (pc' := 54) [(.iconst 0, 0, 0, 0)] (by decide +kernel) trivial rfl (?_)
      show Ev l d mi_X1_isFact 54 [none, some (.int x1)] [.int (Int32.ofInt 0)] (hp s) 0 0 _
      cases hf
      exact Ev.iret .boolean rfl rfl (by decide +kernel) (Nat.le_refl _) (Nat.le_refl _)
    · have hf := (if_pos b7).symm.trans hf
      refine Ev.blk (pc' := 50) [(.iconst 1, 0, 0, 0)] (by decide +kernel) trivial rfl (?_)
      show Ev l d mi_X1_isFact 50 [none, some (.int x1)] [.int (Int32.ofInt 1)] (hp s) 0 0 _
      refine Ev.goto (off := 4) (tgt := 54) (by decide +kernel) (by decide) ?_
      cases hf
      exact Ev.iret .boolean rfl rfl (by decide +kernel) (Nat.le_refl _) (Nat.le_refl _)
def f_X1_isFact (p0 : Int32) (s : ST) : Option (Int32 × ST) := (if (s.1 5 2) = 0 then (if p0 < ((Int8.ofInt 18).toInt32) then some ((Int32.ofInt 0), s) else (if ((Int8.ofInt 21).toInt32) < p0 then some ((Int32.ofInt 0), s) else some ((Int32.ofInt 1), s))) else (if p0 < ((Int8.ofInt 21).toInt32) then f_X1_isFact_j37 p0 s else (if p0 ≤ ((Int8.ofInt 26).toInt32) then some ((Int32.ofInt 1), s) else f_X1_isFact_j37 p0 s)))
set_option maxHeartbeats 2000000 in
set_option maxRecDepth 20000 in
theorem e_X1_isFact {l : Launch} {d : Nat} (hd : 1 ≤ d) (p0 : Int32) (s : ST) (r : Int32 × ST) (hf : f_X1_isFact p0 s = some r) : Cl l d mi_X1_isFact [.ref 5, .int p0] (hp s) (some (.int r.1), hp r.2) := by
  refine Ev.entry (by decide +kernel) rfl rfl ?_
  show Ev l d mi_X1_isFact 0 [some (.ref 5), some (.int p0)] [] (hp s) 0 0 _
  unfold f_X1_isFact at hf
  refine Ev.blk (pc' := 4) [(.aload_n 0, 0, 0, 0), (.getfield 15, 0, 1, 2)] (by decide +kernel) ⟨kf_1_15, trivial⟩ rfl (And.intro (kc rfl rfl) (?_))
  show Ev l d mi_X1_isFact 4 [some (.ref 5), some (.int p0)] [.int (s.1 5 2)] (hp s) 0 0 _
  refine Ev.if_ne (off := 21) (tgt := 25) (by decide +kernel) (by decide) (fun b1 => ?_) (fun b1 => ?_)
  · have hf := (if_neg b1).symm.trans hf
    refine Ev.blk (pc' := 28) [(.iload_n 1, 0, 0, 0), (.bipush 21, 0, 0, 0)] (by decide +kernel) trivial rfl (?_)
    show Ev l d mi_X1_isFact 28 [some (.ref 5), some (.int p0)] [.int ((Int8.ofInt 21).toInt32), .int p0] (hp s) 0 0 _
    refine Ev.icmp_lt (off := 9) (tgt := 37) (by decide +kernel) (by decide) (fun b2 => ?_) (fun b2 => ?_)
    · have hf := (if_pos b2).symm.trans hf
      exact Ev.wk ((e_X1_isFact_j37 hd) p0 s _ hf) (And.intro (Or.inl rfl) (And.intro (Or.inr rfl) (trivial)))
    · have hf := (if_neg b2).symm.trans hf
      refine Ev.blk (pc' := 34) [(.iload_n 1, 0, 0, 0), (.bipush 26, 0, 0, 0)] (by decide +kernel) trivial rfl (?_)
      show Ev l d mi_X1_isFact 34 [some (.ref 5), some (.int p0)] [.int ((Int8.ofInt 26).toInt32), .int p0] (hp s) 0 0 _
      refine Ev.icmp_le (off := 15) (tgt := 49) (by decide +kernel) (by decide) (fun b3 => ?_) (fun b3 => ?_)
      · have hf := (if_pos b3).symm.trans hf
        refine Ev.blk (pc' := 50) [(.iconst 1, 0, 0, 0)] (by decide +kernel) trivial rfl (?_)
        show Ev l d mi_X1_isFact 50 [some (.ref 5), some (.int p0)] [.int (Int32.ofInt 1)] (hp s) 0 0 _
        refine Ev.goto (off := 4) (tgt := 54) (by decide +kernel) (by decide) ?_
        cases hf
        exact Ev.iret .boolean rfl rfl (by decide +kernel) (Nat.le_refl _) (Nat.le_refl _)
      · have hf := (if_neg b3).symm.trans hf
        exact Ev.wk ((e_X1_isFact_j37 hd) p0 s _ hf) (And.intro (Or.inl rfl) (And.intro (Or.inr rfl) (trivial)))
  · have hf := (if_pos b1).symm.trans hf
    refine Ev.blk (pc' := 10) [(.iload_n 1, 0, 0, 0), (.bipush 18, 0, 0, 0)] (by decide +kernel) trivial rfl (?_)
    show Ev l d mi_X1_isFact 10 [some (.ref 5), some (.int p0)] [.int ((Int8.ofInt 18).toInt32), .int p0] (hp s) 0 0 _
    refine Ev.icmp_lt (off := 13) (tgt := 23) (by decide +kernel) (by decide) (fun b4 => ?_) (fun b4 => ?_)
    · have hf := (if_pos b4).symm.trans hf
      refine Ev.blk (pc' := 24) [(.iconst 0, 0, 0, 0)] (by decide +kernel) trivial rfl (?_)
      show Ev l d mi_X1_isFact 24 [some (.ref 5), some (.int p0)] [.int (Int32.ofInt 0)] (hp s) 0 0 _
      cases hf
      exact Ev.iret .boolean rfl rfl (by decide +kernel) (Nat.le_refl _) (Nat.le_refl _)
    · have hf := (if_neg b4).symm.trans hf
      refine Ev.blk (pc' := 16) [(.iload_n 1, 0, 0, 0), (.bipush 21, 0, 0, 0)] (by decide +kernel) trivial rfl (?_)
      show Ev l d mi_X1_isFact 16 [some (.ref 5), some (.int p0)] [.int ((Int8.ofInt 21).toInt32), .int p0] (hp s) 0 0 _
      refine Ev.icmp_gt (off := 7) (tgt := 23) (by decide +kernel) (by decide) (fun b5 => ?_) (fun b5 => ?_)
      · have hf := (if_pos b5).symm.trans hf
        refine Ev.blk (pc' := 24) [(.iconst 0, 0, 0, 0)] (by decide +kernel) trivial rfl (?_)
        show Ev l d mi_X1_isFact 24 [some (.ref 5), some (.int p0)] [.int (Int32.ofInt 0)] (hp s) 0 0 _
        cases hf
        exact Ev.iret .boolean rfl rfl (by decide +kernel) (Nat.le_refl _) (Nat.le_refl _)
      · have hf := (if_neg b5).symm.trans hf
        refine Ev.blk (pc' := 20) [(.iconst 1, 0, 0, 0)] (by decide +kernel) trivial rfl (?_)
        show Ev l d mi_X1_isFact 20 [some (.ref 5), some (.int p0)] [.int (Int32.ofInt 1)] (hp s) 0 0 _
        refine Ev.goto (off := 4) (tgt := 24) (by decide +kernel) (by decide) ?_
        cases hf
        exact Ev.iret .boolean rfl rfl (by decide +kernel) (Nat.le_refl _) (Nat.le_refl _)
def f_X5_isWord (p0 : Int32) (s : ST) : Option (Int32 × ST) := (if (s.1 3 3) = (Int32.ofInt 1) then (if (s.1 3 4) = p0 then some ((Int32.ofInt 1), s) else some ((Int32.ofInt 0), s)) else some ((Int32.ofInt 0), s))
set_option maxHeartbeats 2000000 in
set_option maxRecDepth 20000 in
theorem e_X5_isWord {l : Launch} {d : Nat} (hd : 1 ≤ d) (p0 : Int32) (s : ST) (r : Int32 × ST) (hf : f_X5_isWord p0 s = some r) : Cl l d mi_X5_isWord [.ref 3, .int p0] (hp s) (some (.int r.1), hp r.2) := by
  refine Ev.entry (by decide +kernel) rfl rfl ?_
  show Ev l d mi_X5_isWord 0 [some (.ref 3), some (.int p0)] [] (hp s) 0 0 _
  unfold f_X5_isWord at hf
  refine Ev.blk (pc' := 5) [(.aload_n 0, 0, 0, 0), (.getfield 18, 0, 5, 3), (.iconst 1, 0, 0, 0)] (by decide +kernel) ⟨kf_5_18, trivial⟩ rfl (And.intro (kc rfl rfl) (?_))
  show Ev l d mi_X5_isWord 5 [some (.ref 3), some (.int p0)] [.int (Int32.ofInt 1), .int (s.1 3 3)] (hp s) 0 0 _
  refine Ev.icmp_ne (off := 15) (tgt := 20) (by decide +kernel) (by decide) (fun b1 => ?_) (fun b1 => ?_)
  · have hf := (if_neg b1).symm.trans hf
    refine Ev.blk (pc' := 21) [(.iconst 0, 0, 0, 0)] (by decide +kernel) trivial rfl (?_)
    show Ev l d mi_X5_isWord 21 [some (.ref 3), some (.int p0)] [.int (Int32.ofInt 0)] (hp s) 0 0 _
    cases hf
    exact Ev.iret .boolean rfl rfl (by decide +kernel) (Nat.le_refl _) (Nat.le_refl _)
  · have hf := (if_pos b1).symm.trans hf
    refine Ev.blk (pc' := 13) [(.aload_n 0, 0, 0, 0), (.getfield 21, 0, 5, 4), (.iload_n 1, 0, 0, 0)] (by decide +kernel) ⟨kf_5_21, trivial⟩ rfl (And.intro (kc rfl rfl) (?_))
    show Ev l d mi_X5_isWord 13 [some (.ref 3), some (.int p0)] [.int p0, .int (s.1 3 4)] (hp s) 0 0 _
    refine Ev.icmp_ne (off := 7) (tgt := 20) (by decide +kernel) (by decide) (fun b2 => ?_) (fun b2 => ?_)
    · have hf := (if_neg b2).symm.trans hf
      refine Ev.blk (pc' := 21) [(.iconst 0, 0, 0, 0)] (by decide +kernel) trivial rfl (?_)
      show Ev l d mi_X5_isWord 21 [some (.ref 3), some (.int p0)] [.int (Int32.ofInt 0)] (hp s) 0 0 _
      cases hf
      exact Ev.iret .boolean rfl rfl (by decide +kernel) (Nat.le_refl _) (Nat.le_refl _)
    · have hf := (if_pos b2).symm.trans hf
      refine Ev.blk (pc' := 17) [(.iconst 1, 0, 0, 0)] (by decide +kernel) trivial rfl (?_)
      show Ev l d mi_X5_isWord 17 [some (.ref 3), some (.int p0)] [.int (Int32.ofInt 1)] (hp s) 0 0 _
      refine Ev.goto (off := 4) (tgt := 21) (by decide +kernel) (by decide) ?_
      cases hf
      exact Ev.iret .boolean rfl rfl (by decide +kernel) (Nat.le_refl _) (Nat.le_refl _)
def f_X5_takeNumber_L48 (k81 : Int32 → Int32 → Int32 → ST → Option (Int32 × ST)) : Nat → Int32 → Int32 → Int32 → Int32 → ST → Option (Int32 × ST)
  | 0, _, _, _, _, _ => none
  | n + 1, x1, x2, x3, x4, s => (if (s.1 3 2) ≤ x4 then k81 x1 x2 x3 s else (f_X7_byteAt x4 s).bind (fun q6 => lt (((((Int8.ofInt 10).toInt32) * x3) + q6.1) - ((Int8.ofInt 48).toInt32)) (fun v7 => (f_X5_takeNumber_L48 k81 n) x1 x2 v7 (x4 + Int32.ofInt 1) q6.2)))
set_option maxHeartbeats 2000000 in
set_option maxRecDepth 20000 in
theorem e_X5_takeNumber_L48 {l : Launch} {d : Nat} (hd : 7 ≤ d) (k81 : Int32 → Int32 → Int32 → ST → Option (Int32 × ST)) (hk81 : ∀ (x1 : Int32) (x2 : Int32) (x3 : Int32) (s : ST) (r : Int32 × ST), k81 x1 x2 x3 s = some r → Ev l d mi_X5_takeNumber 81 [some (.ref 3), some (.int x1), some (.int x2), some (.int x3), none] [] (hp s) 0 0 (some (.int r.1), hp r.2)) : ∀ (n : Nat) (x1 : Int32) (x2 : Int32) (x3 : Int32) (x4 : Int32) (s : ST) (r : Int32 × ST), f_X5_takeNumber_L48 k81 n x1 x2 x3 x4 s = some r → Ev l d mi_X5_takeNumber 48 [some (.ref 3), some (.int x1), some (.int x2), some (.int x3), some (.int x4)] [] (hp s) 0 0 (some (.int r.1), hp r.2) := by
  intro n
  induction n with
  | zero =>
    intro x1 x2 x3 x4 s r hf
    cases hf
  | succ n ih =>
    intro x1 x2 x3 x4 s r hf
    unfold f_X5_takeNumber_L48 at hf
    refine Ev.blk (pc' := 54) [(.iload 4, 0, 0, 0), (.aload_n 0, 0, 0, 0), (.getfield 15, 0, 5, 2)] (by decide +kernel) ⟨kf_5_15, trivial⟩ rfl (And.intro (kc rfl rfl) (?_))
    show Ev l d mi_X5_takeNumber 54 [some (.ref 3), some (.int x1), some (.int x2), some (.int x3), some (.int x4)] [.int (s.1 3 2), .int x4] (hp s) 0 0 _
    refine Ev.icmp_ge (off := 27) (tgt := 81) (by decide +kernel) (by decide) (fun b5 => ?_) (fun b5 => ?_)
    · have hf := (if_pos b5).symm.trans hf
      exact Ev.wk (hk81 x1 x2 x3 s _ hf) (And.intro (Or.inr rfl) (And.intro (Or.inr rfl) (And.intro (Or.inr rfl) (And.intro (Or.inr rfl) (And.intro (Or.inl rfl) (trivial))))))
    · have hf := (if_neg b5).symm.trans hf
      refine Ev.blk (pc' := 67) [(.bipush 10, 0, 0, 0), (.iload_n 3, 0, 0, 0), (.imul, 0, 0, 0), (.aload_n 0, 0, 0, 0), (.getfield 30, 0, 5, 0), (.iload 4, 0, 0, 0)] (by decide +kernel) ⟨kf_5_30, trivial⟩ rfl (And.intro (kc rfl rfl) (Exists.intro 1 (And.intro rfl (?_))))
      show Ev l d mi_X5_takeNumber 67 [some (.ref 3), some (.int x1), some (.int x2), some (.int x3), some (.int x4)] [.int x4, .ref 1, .int (((Int8.ofInt 10).toInt32) * x3)] (hp s) 0 0 _
      obtain ⟨q6, hq6, hf⟩ := bd_some hf
      refine Ev.callV (o := 1) (M' := mi_X7_byteAt) (d' := d - 1) (As := [.int x4]) (rest := [.int (((Int8.ofInt 10).toInt32) * x3)]) (r' := (some (.int q6.1), hp q6.2)) (e_X7_byteAt (d := d - 1) (by omega) x4 s _ hq6) (by omega) wm_X7_byteAt wi_X7_byteAt wv_X7_byteAt km_5_46 (kc rfl rfl) (Nat.le_of_ble_eq_true rfl) rfl rfl rfl (Nat.le_of_ble_eq_true rfl) ⟨Nat.le_of_ble_eq_true rfl, Nat.le_of_ble_eq_true rfl⟩ (by decide +kernel) ?_
      show Ev l d mi_X5_takeNumber 70 [some (.ref 3), some (.int x1), some (.int x2), some (.int x3), some (.int x4)] [.int q6.1, .int (((Int8.ofInt 10).toInt32) * x3)] (hp q6.2) 0 0 _
      obtain ⟨v7, hv7, hf⟩ := lt_some hf
      refine Ev.blk (pc' := 78) [(.iadd, 0, 0, 0), (.bipush 48, 0, 0, 0), (.isub, 0, 0, 0), (.istore_n 3, 0, 0, 0), (.iinc 4 1, 0, 0, 0)] (by decide +kernel) trivial rfl (And.intro (Nat.le_of_ble_eq_true rfl) (And.intro (Nat.le_of_ble_eq_true rfl) (?_)))
      show Ev l d mi_X5_takeNumber 78 [some (.ref 3), some (.int x1), some (.int x2), some (.int (((((Int8.ofInt 10).toInt32) * x3) + q6.1) - ((Int8.ofInt 48).toInt32))), some (.int (x4 + Int32.ofInt 1))] [] (hp q6.2) 0 0 _
      rw [← hv7]
      refine Ev.goto (off := -30) (tgt := 48) (by decide +kernel) (by decide) ?_
      exact ih x1 x2 v7 (x4 + Int32.ofInt 1) q6.2 _ hf
def f_X5_takeNumber_j91 (x1 : Int32) (s : ST) : Option (Int32 × ST) := (f_X5_fail (Int32.ofInt 2) (s.1 3 1) s).bind (fun q11 => some (x1, q11))
set_option maxHeartbeats 2000000 in
set_option maxRecDepth 20000 in
theorem e_X5_takeNumber_j91 {l : Launch} {d : Nat} (hd : 7 ≤ d) (x1 : Int32) (s : ST) (r : Int32 × ST) (hf : f_X5_takeNumber_j91 x1 s = some r) : Ev l d mi_X5_takeNumber 91 [some (.ref 3), some (.int x1), none, none, none] [] (hp s) 0 0 (some (.int r.1), hp r.2) := by
  unfold f_X5_takeNumber_j91 at hf
  refine Ev.blk (pc' := 97) [(.aload_n 0, 0, 0, 0), (.iconst 2, 0, 0, 0), (.aload_n 0, 0, 0, 0), (.getfield 9, 0, 5, 1)] (by decide +kernel) ⟨kf_5_9, trivial⟩ rfl (And.intro (kc rfl rfl) (?_))
  show Ev l d mi_X5_takeNumber 97 [some (.ref 3), some (.int x1), none, none, none] [.int (s.1 3 1), .int (Int32.ofInt 2), .ref 3] (hp s) 0 0 _
  obtain ⟨q11, hq11, hf⟩ := bd_some hf
  refine Ev.callV (o := 3) (M' := mi_X5_fail) (d' := d - 1) (As := [.int (Int32.ofInt 2), .int (s.1 3 1)]) (rest := []) (r' := (none, hp q11)) (e_X5_fail (d := d - 1) (by omega) (Int32.ofInt 2) (s.1 3 1) s _ hq11) (by omega) wm_X5_fail wi_X5_fail wv_X5_fail km_5_37 (kc rfl rfl) (Nat.le_of_ble_eq_true rfl) rfl rfl rfl (Nat.le_of_ble_eq_true rfl) ⟨Nat.le_of_ble_eq_true rfl, Nat.le_of_ble_eq_true rfl⟩ (by decide +kernel) ?_
  show Ev l d mi_X5_takeNumber 100 [some (.ref 3), some (.int x1), none, none, none] [] (hp q11) 0 0 _
  refine Ev.blk (pc' := 101) [(.iload_n 1, 0, 0, 0)] (by decide +kernel) trivial rfl (?_)
  show Ev l d mi_X5_takeNumber 101 [some (.ref 3), some (.int x1), none, none, none] [.int x1] (hp q11) 0 0 _
  cases hf
  exact Ev.iret .int rfl rfl (by decide +kernel) (Nat.le_refl _) (Nat.le_refl _)
def f_X5_takeNumber_j81 (x1 : Int32) (x2 : Int32) (x3 : Int32) (s : ST) : Option (Int32 × ST) := (if x3 < x1 then f_X5_takeNumber_j91 x1 s else (if x3 ≤ x2 then (f_X5_step s).bind (fun q10 => some (x3, q10)) else f_X5_takeNumber_j91 x1 s))
set_option maxHeartbeats 2000000 in
set_option maxRecDepth 20000 in
theorem e_X5_takeNumber_j81 {l : Launch} {d : Nat} (hd : 7 ≤ d) (x1 : Int32) (x2 : Int32) (x3 : Int32) (s : ST) (r : Int32 × ST) (hf : f_X5_takeNumber_j81 x1 x2 x3 s = some r) : Ev l d mi_X5_takeNumber 81 [some (.ref 3), some (.int x1), some (.int x2), some (.int x3), none] [] (hp s) 0 0 (some (.int r.1), hp r.2) := by
  unfold f_X5_takeNumber_j81 at hf
  refine Ev.blk (pc' := 83) [(.iload_n 3, 0, 0, 0), (.iload_n 1, 0, 0, 0)] (by decide +kernel) trivial rfl (?_)
  show Ev l d mi_X5_takeNumber 83 [some (.ref 3), some (.int x1), some (.int x2), some (.int x3), none] [.int x1, .int x3] (hp s) 0 0 _
  refine Ev.icmp_lt (off := 8) (tgt := 91) (by decide +kernel) (by decide) (fun b8 => ?_) (fun b8 => ?_)
  · have hf := (if_pos b8).symm.trans hf
    exact Ev.wk ((e_X5_takeNumber_j91 hd) x1 s _ hf) (And.intro (Or.inr rfl) (And.intro (Or.inr rfl) (And.intro (Or.inl rfl) (And.intro (Or.inl rfl) (And.intro (Or.inr rfl) (trivial))))))
  · have hf := (if_neg b8).symm.trans hf
    refine Ev.blk (pc' := 88) [(.iload_n 3, 0, 0, 0), (.iload_n 2, 0, 0, 0)] (by decide +kernel) trivial rfl (?_)
    show Ev l d mi_X5_takeNumber 88 [some (.ref 3), some (.int x1), some (.int x2), some (.int x3), none] [.int x2, .int x3] (hp s) 0 0 _
    refine Ev.icmp_le (off := 14) (tgt := 102) (by decide +kernel) (by decide) (fun b9 => ?_) (fun b9 => ?_)
    · have hf := (if_pos b9).symm.trans hf
      refine Ev.blk (pc' := 103) [(.aload_n 0, 0, 0, 0)] (by decide +kernel) trivial rfl (?_)
      show Ev l d mi_X5_takeNumber 103 [some (.ref 3), some (.int x1), some (.int x2), some (.int x3), none] [.ref 3] (hp s) 0 0 _
      obtain ⟨q10, hq10, hf⟩ := bd_some hf
      refine Ev.callV (o := 3) (M' := mi_X5_step) (d' := d - 1) (As := []) (rest := []) (r' := (none, hp q10)) (e_X5_step (d := d - 1) (by omega) s _ hq10) (by omega) wm_X5_step wi_X5_step wv_X5_step km_5_34 (kc rfl rfl) (Nat.le_of_ble_eq_true rfl) rfl rfl rfl (Nat.le_of_ble_eq_true rfl) ⟨Nat.le_of_ble_eq_true rfl, Nat.le_of_ble_eq_true rfl⟩ (by decide +kernel) ?_
      show Ev l d mi_X5_takeNumber 106 [some (.ref 3), some (.int x1), some (.int x2), some (.int x3), none] [] (hp q10) 0 0 _
      refine Ev.blk (pc' := 107) [(.iload_n 3, 0, 0, 0)] (by decide +kernel) trivial rfl (?_)
      show Ev l d mi_X5_takeNumber 107 [some (.ref 3), some (.int x1), some (.int x2), some (.int x3), none] [.int x3] (hp q10) 0 0 _
      cases hf
      exact Ev.iret .int rfl rfl (by decide +kernel) (Nat.le_refl _) (Nat.le_refl _)
    · have hf := (if_neg b9).symm.trans hf
      exact Ev.wk ((e_X5_takeNumber_j91 hd) x1 s _ hf) (And.intro (Or.inr rfl) (And.intro (Or.inr rfl) (And.intro (Or.inl rfl) (And.intro (Or.inl rfl) (And.intro (Or.inr rfl) (trivial))))))
def f_X5_takeNumber (p0 : Int32) (p1 : Int32) (s : ST) : Option (Int32 × ST) := (if (s.1 3 3) = (Int32.ofInt 2) then (if ((s.1 3 2) - (s.1 3 1)) ≤ (Int32.ofInt 4) then (f_X5_takeNumber_L48 f_X5_takeNumber_j81 fuel) p0 p1 (Int32.ofInt 0) (s.1 3 1) s else (f_X5_fail (Int32.ofInt 1) ((s.1 3 1) + (Int32.ofInt 4)) s).bind (fun q3 => some (p0, q3))) else (f_X5_failForm s).bind (fun q4 => some (p0, q4)))
set_option maxHeartbeats 2000000 in
set_option maxRecDepth 20000 in
theorem e_X5_takeNumber {l : Launch} {d : Nat} (hd : 7 ≤ d) (p0 : Int32) (p1 : Int32) (s : ST) (r : Int32 × ST) (hf : f_X5_takeNumber p0 p1 s = some r) : Cl l d mi_X5_takeNumber [.ref 3, .int p0, .int p1] (hp s) (some (.int r.1), hp r.2) := by
  refine Ev.entry (by decide +kernel) rfl rfl ?_
  show Ev l d mi_X5_takeNumber 0 [some (.ref 3), some (.int p0), some (.int p1), none, none] [] (hp s) 0 0 _
  unfold f_X5_takeNumber at hf
  refine Ev.blk (pc' := 5) [(.aload_n 0, 0, 0, 0), (.getfield 18, 0, 5, 3), (.iconst 2, 0, 0, 0)] (by decide +kernel) ⟨kf_5_18, trivial⟩ rfl (And.intro (kc rfl rfl) (?_))
  show Ev l d mi_X5_takeNumber 5 [some (.ref 3), some (.int p0), some (.int p1), none, none] [.int (Int32.ofInt 2), .int (s.1 3 3)] (hp s) 0 0 _
  refine Ev.icmp_eq (off := 9) (tgt := 14) (by decide +kernel) (by decide) (fun b1 => ?_) (fun b1 => ?_)
  · have hf := (if_pos b1).symm.trans hf
    refine Ev.blk (pc' := 24) [(.aload_n 0, 0, 0, 0), (.getfield 15, 0, 5, 2), (.aload_n 0, 0, 0, 0), (.getfield 9, 0, 5, 1), (.isub, 0, 0, 0), (.iconst 4, 0, 0, 0)] (by decide +kernel) ⟨kf_5_15, ⟨kf_5_9, trivial⟩⟩ rfl (And.intro (kc rfl rfl) (And.intro (kc rfl rfl) (?_)))
    show Ev l d mi_X5_takeNumber 24 [some (.ref 3), some (.int p0), some (.int p1), none, none] [.int (Int32.ofInt 4), .int ((s.1 3 2) - (s.1 3 1))] (hp s) 0 0 _
    refine Ev.icmp_le (off := 16) (tgt := 40) (by decide +kernel) (by decide) (fun b2 => ?_) (fun b2 => ?_)
    · have hf := (if_pos b2).symm.trans hf
      refine Ev.blk (pc' := 48) [(.iconst 0, 0, 0, 0), (.istore_n 3, 0, 0, 0), (.aload_n 0, 0, 0, 0), (.getfield 9, 0, 5, 1), (.istore 4, 0, 0, 0)] (by decide +kernel) ⟨kf_5_9, trivial⟩ rfl (And.intro (Nat.le_of_ble_eq_true rfl) (And.intro (kc rfl rfl) (And.intro (Nat.le_of_ble_eq_true rfl) (?_))))
      show Ev l d mi_X5_takeNumber 48 [some (.ref 3), some (.int p0), some (.int p1), some (.int (Int32.ofInt 0)), some (.int (s.1 3 1))] [] (hp s) 0 0 _
      exact (e_X5_takeNumber_L48 hd f_X5_takeNumber_j81 (e_X5_takeNumber_j81 hd) fuel) p0 p1 (Int32.ofInt 0) (s.1 3 1) s _ hf
    · have hf := (if_neg b2).symm.trans hf
      refine Ev.blk (pc' := 35) [(.aload_n 0, 0, 0, 0), (.iconst 1, 0, 0, 0), (.aload_n 0, 0, 0, 0), (.getfield 9, 0, 5, 1), (.iconst 4, 0, 0, 0), (.iadd, 0, 0, 0)] (by decide +kernel) ⟨kf_5_9, trivial⟩ rfl (And.intro (kc rfl rfl) (?_))
      show Ev l d mi_X5_takeNumber 35 [some (.ref 3), some (.int p0), some (.int p1), none, none] [.int ((s.1 3 1) + (Int32.ofInt 4)), .int (Int32.ofInt 1), .ref 3] (hp s) 0 0 _
      obtain ⟨q3, hq3, hf⟩ := bd_some hf
      refine Ev.callV (o := 3) (M' := mi_X5_fail) (d' := d - 1) (As := [.int (Int32.ofInt 1), .int ((s.1 3 1) + (Int32.ofInt 4))]) (rest := []) (r' := (none, hp q3)) (e_X5_fail (d := d - 1) (by omega) (Int32.ofInt 1) ((s.1 3 1) + (Int32.ofInt 4)) s _ hq3) (by omega) wm_X5_fail wi_X5_fail wv_X5_fail km_5_37 (kc rfl rfl) (Nat.le_of_ble_eq_true rfl) rfl rfl rfl (Nat.le_of_ble_eq_true rfl) ⟨Nat.le_of_ble_eq_true rfl, Nat.le_of_ble_eq_true rfl⟩ (by decide +kernel) ?_
      show Ev l d mi_X5_takeNumber 38 [some (.ref 3), some (.int p0), some (.int p1), none, none] [] (hp q3) 0 0 _
      refine Ev.blk (pc' := 39) [(.iload_n 1, 0, 0, 0)] (by decide +kernel) trivial rfl (?_)
      show Ev l d mi_X5_takeNumber 39 [some (.ref 3), some (.int p0), some (.int p1), none, none] [.int p0] (hp q3) 0 0 _
      cases hf
      exact Ev.iret .int rfl rfl (by decide +kernel) (Nat.le_refl _) (Nat.le_refl _)
  · have hf := (if_neg b1).symm.trans hf
    refine Ev.blk (pc' := 9) [(.aload_n 0, 0, 0, 0)] (by decide +kernel) trivial rfl (?_)
    show Ev l d mi_X5_takeNumber 9 [some (.ref 3), some (.int p0), some (.int p1), none, none] [.ref 3] (hp s) 0 0 _
    obtain ⟨q4, hq4, hf⟩ := bd_some hf
    refine Ev.callV (o := 3) (M' := mi_X5_failForm) (d' := d - 1) (As := []) (rest := []) (r' := (none, hp q4)) (e_X5_failForm (d := d - 1) (by omega) s _ hq4) (by omega) wm_X5_failForm wi_X5_failForm wv_X5_failForm km_5_78 (kc rfl rfl) (Nat.le_of_ble_eq_true rfl) rfl rfl rfl (Nat.le_of_ble_eq_true rfl) ⟨Nat.le_of_ble_eq_true rfl, Nat.le_of_ble_eq_true rfl⟩ (by decide +kernel) ?_
    show Ev l d mi_X5_takeNumber 12 [some (.ref 3), some (.int p0), some (.int p1), none, none] [] (hp q4) 0 0 _
    refine Ev.blk (pc' := 13) [(.iload_n 1, 0, 0, 0)] (by decide +kernel) trivial rfl (?_)
    show Ev l d mi_X5_takeNumber 13 [some (.ref 3), some (.int p0), some (.int p1), none, none] [.int p0] (hp q4) 0 0 _
    cases hf
    exact Ev.iret .int rfl rfl (by decide +kernel) (Nat.le_refl _) (Nat.le_refl _)
def f_X1_pair (rc_X1_sum : Int32 → ST → Option (ST)) (p0 : Int32) (p1 : Int32) (s : ST) : Option (ST) := (f_X5_step s).bind (fun q1 => (f_X5_isSign ((Int8.ofInt 40).toInt32) q1).bind (fun q2 => (if q2.1 = 0 then (f_X5_failForm q2.2).bind (fun q11 => some q11) else (f_X1_opens p0 q2.2).bind (fun q4 => (if q4.1 = 0 then some q4.2 else (rc_X1_sum (p0 + (Int32.ofInt 1)) q4.2).bind (fun q6 => (f_X5_takeSign ((Int8.ofInt 44).toInt32) q6).bind (fun q7 => (rc_X1_sum (p0 + (Int32.ofInt 1)) q7).bind (fun q8 => (f_X5_takeSign ((Int8.ofInt 41).toInt32) q8).bind (fun q9 => (f_X1_put p1 q9).bind (fun q10 => some q10))))))))))
set_option maxHeartbeats 2000000 in
set_option maxRecDepth 20000 in
theorem e_X1_pair {l : Launch} {d : Nat} (hd : 8 ≤ d) (rc_X1_sum : Int32 → ST → Option (ST)) (h_X1_sum : ∀ (p0 : Int32) (s : ST) (r : ST), rc_X1_sum p0 s = some r → Cl l (d - 1) mi_X1_sum [.ref 5, .int p0] (hp s) (none, hp r)) (p0 : Int32) (p1 : Int32) (s : ST) (r : ST) (hf : f_X1_pair rc_X1_sum p0 p1 s = some r) : Cl l d mi_X1_pair [.ref 5, .int p0, .int p1] (hp s) (none, hp r) := by
  refine Ev.entry (by decide +kernel) rfl rfl ?_
  show Ev l d mi_X1_pair 0 [some (.ref 5), some (.int p0), some (.int p1)] [] (hp s) 0 0 _
  unfold f_X1_pair at hf
  refine Ev.blk (pc' := 4) [(.aload_n 0, 0, 0, 0), (.getfield 19, 0, 1, 0)] (by decide +kernel) ⟨kf_1_19, trivial⟩ rfl (And.intro (kc rfl rfl) (Exists.intro 3 (And.intro rfl (?_))))
  show Ev l d mi_X1_pair 4 [some (.ref 5), some (.int p0), some (.int p1)] [.ref 3] (hp s) 0 0 _
  obtain ⟨q1, hq1, hf⟩ := bd_some hf
  refine Ev.callV (o := 3) (M' := mi_X5_step) (d' := d - 1) (As := []) (rest := []) (r' := (none, hp q1)) (e_X5_step (d := d - 1) (by omega) s _ hq1) (by omega) wm_X5_step wi_X5_step wv_X5_step km_1_42 (kc rfl rfl) (Nat.le_of_ble_eq_true rfl) rfl rfl rfl (Nat.le_of_ble_eq_true rfl) ⟨Nat.le_of_ble_eq_true rfl, Nat.le_of_ble_eq_true rfl⟩ (by decide +kernel) ?_
  show Ev l d mi_X1_pair 7 [some (.ref 5), some (.int p0), some (.int p1)] [] (hp q1) 0 0 _
  refine Ev.blk (pc' := 13) [(.aload_n 0, 0, 0, 0), (.getfield 19, 0, 1, 0), (.bipush 40, 0, 0, 0)] (by decide +kernel) ⟨kf_1_19, trivial⟩ rfl (And.intro (kc rfl rfl) (Exists.intro 3 (And.intro rfl (?_))))
  show Ev l d mi_X1_pair 13 [some (.ref 5), some (.int p0), some (.int p1)] [.int ((Int8.ofInt 40).toInt32), .ref 3] (hp q1) 0 0 _
  obtain ⟨q2, hq2, hf⟩ := bd_some hf
  refine Ev.callV (o := 3) (M' := mi_X5_isSign) (d' := d - 1) (As := [.int ((Int8.ofInt 40).toInt32)]) (rest := []) (r' := (some (.int q2.1), hp q2.2)) (e_X5_isSign (d := d - 1) (by omega) ((Int8.ofInt 40).toInt32) q1 _ hq2) (by omega) wm_X5_isSign wi_X5_isSign wv_X5_isSign km_1_36 (kc rfl rfl) (Nat.le_of_ble_eq_true rfl) rfl rfl rfl (Nat.le_of_ble_eq_true rfl) ⟨Nat.le_of_ble_eq_true rfl, Nat.le_of_ble_eq_true rfl⟩ (by decide +kernel) ?_
  show Ev l d mi_X1_pair 16 [some (.ref 5), some (.int p0), some (.int p1)] [.int q2.1] (hp q2.2) 0 0 _
  refine Ev.if_ne (off := 13) (tgt := 29) (by decide +kernel) (by decide) (fun b3 => ?_) (fun b3 => ?_)
  · have hf := (if_neg b3).symm.trans hf
    refine Ev.blk (pc' := 31) [(.aload_n 0, 0, 0, 0), (.iload_n 1, 0, 0, 0)] (by decide +kernel) trivial rfl (?_)
    show Ev l d mi_X1_pair 31 [some (.ref 5), some (.int p0), some (.int p1)] [.int p0, .ref 5] (hp q2.2) 0 0 _
    obtain ⟨q4, hq4, hf⟩ := bd_some hf
    refine Ev.callV (o := 5) (M' := mi_X1_opens) (d' := d - 1) (As := [.int p0]) (rest := []) (r' := (some (.int q4.1), hp q4.2)) (e_X1_opens (d := d - 1) (by omega) p0 q2.2 _ hq4) (by omega) wm_X1_opens wi_X1_opens wv_X1_opens km_1_56 (kc rfl rfl) (Nat.le_of_ble_eq_true rfl) rfl rfl rfl (Nat.le_of_ble_eq_true rfl) ⟨Nat.le_of_ble_eq_true rfl, Nat.le_of_ble_eq_true rfl⟩ (by decide +kernel) ?_
    show Ev l d mi_X1_pair 34 [some (.ref 5), some (.int p0), some (.int p1)] [.int q4.1] (hp q4.2) 0 0 _
    refine Ev.if_eq (off := 40) (tgt := 74) (by decide +kernel) (by decide) (fun b5 => ?_) (fun b5 => ?_)
    · have hf := (if_pos b5).symm.trans hf
      cases hf
      exact Ev.vret rfl (by decide +kernel) (Nat.le_refl _) (Nat.le_refl _)
    · have hf := (if_neg b5).symm.trans hf
      refine Ev.blk (pc' := 41) [(.aload_n 0, 0, 0, 0), (.iload_n 1, 0, 0, 0), (.iconst 1, 0, 0, 0), (.iadd, 0, 0, 0)] (by decide +kernel) trivial rfl (?_)
      show Ev l d mi_X1_pair 41 [some (.ref 5), some (.int p0), some (.int p1)] [.int (p0 + (Int32.ofInt 1)), .ref 5] (hp q4.2) 0 0 _
      obtain ⟨q6, hq6, hf⟩ := bd_some hf
      refine Ev.callV (o := 5) (M' := mi_X1_sum) (d' := d - 1) (As := [.int (p0 + (Int32.ofInt 1))]) (rest := []) (r' := (none, hp q6)) (h_X1_sum (p0 + (Int32.ofInt 1)) q4.2 _ hq6) (by omega) wm_X1_sum wi_X1_sum wv_X1_sum km_1_60 (kc rfl rfl) (Nat.le_of_ble_eq_true rfl) rfl rfl rfl (Nat.le_of_ble_eq_true rfl) ⟨Nat.le_of_ble_eq_true rfl, Nat.le_of_ble_eq_true rfl⟩ (by decide +kernel) ?_
      show Ev l d mi_X1_pair 44 [some (.ref 5), some (.int p0), some (.int p1)] [] (hp q6) 0 0 _
      refine Ev.blk (pc' := 50) [(.aload_n 0, 0, 0, 0), (.getfield 19, 0, 1, 0), (.bipush 44, 0, 0, 0)] (by decide +kernel) ⟨kf_1_19, trivial⟩ rfl (And.intro (kc rfl rfl) (Exists.intro 3 (And.intro rfl (?_))))
      show Ev l d mi_X1_pair 50 [some (.ref 5), some (.int p0), some (.int p1)] [.int ((Int8.ofInt 44).toInt32), .ref 3] (hp q6) 0 0 _
      obtain ⟨q7, hq7, hf⟩ := bd_some hf
      refine Ev.callV (o := 3) (M' := mi_X5_takeSign) (d' := d - 1) (As := [.int ((Int8.ofInt 44).toInt32)]) (rest := []) (r' := (none, hp q7)) (e_X5_takeSign (d := d - 1) (by omega) ((Int8.ofInt 44).toInt32) q6 _ hq7) (by omega) wm_X5_takeSign wi_X5_takeSign wv_X5_takeSign km_1_63 (kc rfl rfl) (Nat.le_of_ble_eq_true rfl) rfl rfl rfl (Nat.le_of_ble_eq_true rfl) ⟨Nat.le_of_ble_eq_true rfl, Nat.le_of_ble_eq_true rfl⟩ (by decide +kernel) ?_
      show Ev l d mi_X1_pair 53 [some (.ref 5), some (.int p0), some (.int p1)] [] (hp q7) 0 0 _
      refine Ev.blk (pc' := 57) [(.aload_n 0, 0, 0, 0), (.iload_n 1, 0, 0, 0), (.iconst 1, 0, 0, 0), (.iadd, 0, 0, 0)] (by decide +kernel) trivial rfl (?_)
      show Ev l d mi_X1_pair 57 [some (.ref 5), some (.int p0), some (.int p1)] [.int (p0 + (Int32.ofInt 1)), .ref 5] (hp q7) 0 0 _
      obtain ⟨q8, hq8, hf⟩ := bd_some hf
      refine Ev.callV (o := 5) (M' := mi_X1_sum) (d' := d - 1) (As := [.int (p0 + (Int32.ofInt 1))]) (rest := []) (r' := (none, hp q8)) (h_X1_sum (p0 + (Int32.ofInt 1)) q7 _ hq8) (by omega) wm_X1_sum wi_X1_sum wv_X1_sum km_1_60 (kc rfl rfl) (Nat.le_of_ble_eq_true rfl) rfl rfl rfl (Nat.le_of_ble_eq_true rfl) ⟨Nat.le_of_ble_eq_true rfl, Nat.le_of_ble_eq_true rfl⟩ (by decide +kernel) ?_
      show Ev l d mi_X1_pair 60 [some (.ref 5), some (.int p0), some (.int p1)] [] (hp q8) 0 0 _
      refine Ev.blk (pc' := 66) [(.aload_n 0, 0, 0, 0), (.getfield 19, 0, 1, 0), (.bipush 41, 0, 0, 0)] (by decide +kernel) ⟨kf_1_19, trivial⟩ rfl (And.intro (kc rfl rfl) (Exists.intro 3 (And.intro rfl (?_))))
      show Ev l d mi_X1_pair 66 [some (.ref 5), some (.int p0), some (.int p1)] [.int ((Int8.ofInt 41).toInt32), .ref 3] (hp q8) 0 0 _
      obtain ⟨q9, hq9, hf⟩ := bd_some hf
      refine Ev.callV (o := 3) (M' := mi_X5_takeSign) (d' := d - 1) (As := [.int ((Int8.ofInt 41).toInt32)]) (rest := []) (r' := (none, hp q9)) (e_X5_takeSign (d := d - 1) (by omega) ((Int8.ofInt 41).toInt32) q8 _ hq9) (by omega) wm_X5_takeSign wi_X5_takeSign wv_X5_takeSign km_1_63 (kc rfl rfl) (Nat.le_of_ble_eq_true rfl) rfl rfl rfl (Nat.le_of_ble_eq_true rfl) ⟨Nat.le_of_ble_eq_true rfl, Nat.le_of_ble_eq_true rfl⟩ (by decide +kernel) ?_
      show Ev l d mi_X1_pair 69 [some (.ref 5), some (.int p0), some (.int p1)] [] (hp q9) 0 0 _
      refine Ev.blk (pc' := 71) [(.aload_n 0, 0, 0, 0), (.iload_n 2, 0, 0, 0)] (by decide +kernel) trivial rfl (?_)
      show Ev l d mi_X1_pair 71 [some (.ref 5), some (.int p0), some (.int p1)] [.int p1, .ref 5] (hp q9) 0 0 _
      obtain ⟨q10, hq10, hf⟩ := bd_some hf
      refine Ev.callV (o := 5) (M' := mi_X1_put) (d' := d - 1) (As := [.int p1]) (rest := []) (r' := (none, hp q10)) (e_X1_put (d := d - 1) (by omega) p1 q9 _ hq10) (by omega) wm_X1_put wi_X1_put wv_X1_put km_1_45 (kc rfl rfl) (Nat.le_of_ble_eq_true rfl) rfl rfl rfl (Nat.le_of_ble_eq_true rfl) ⟨Nat.le_of_ble_eq_true rfl, Nat.le_of_ble_eq_true rfl⟩ (by decide +kernel) ?_
      show Ev l d mi_X1_pair 74 [some (.ref 5), some (.int p0), some (.int p1)] [] (hp q10) 0 0 _
      cases hf
      exact Ev.vret rfl (by decide +kernel) (Nat.le_refl _) (Nat.le_refl _)
  · have hf := (if_pos b3).symm.trans hf
    refine Ev.blk (pc' := 23) [(.aload_n 0, 0, 0, 0), (.getfield 19, 0, 1, 0)] (by decide +kernel) ⟨kf_1_19, trivial⟩ rfl (And.intro (kc rfl rfl) (Exists.intro 3 (And.intro rfl (?_))))
    show Ev l d mi_X1_pair 23 [some (.ref 5), some (.int p0), some (.int p1)] [.ref 3] (hp q2.2) 0 0 _
    obtain ⟨q11, hq11, hf⟩ := bd_some hf
    refine Ev.callV (o := 3) (M' := mi_X5_failForm) (d' := d - 1) (As := []) (rest := []) (r' := (none, hp q11)) (e_X5_failForm (d := d - 1) (by omega) q2.2 _ hq11) (by omega) wm_X5_failForm wi_X5_failForm wv_X5_failForm km_1_80 (kc rfl rfl) (Nat.le_of_ble_eq_true rfl) rfl rfl rfl (Nat.le_of_ble_eq_true rfl) ⟨Nat.le_of_ble_eq_true rfl, Nat.le_of_ble_eq_true rfl⟩ (by decide +kernel) ?_
    show Ev l d mi_X1_pair 26 [some (.ref 5), some (.int p0), some (.int p1)] [] (hp q11) 0 0 _
    refine Ev.goto (off := 48) (tgt := 74) (by decide +kernel) (by decide) ?_
    cases hf
    exact Ev.vret rfl (by decide +kernel) (Nat.le_refl _) (Nat.le_refl _)
def f_X1_part_j204 (rc_X1_sum : Int32 → ST → Option (ST)) (rc_X1_pair : Int32 → Int32 → ST → Option (ST)) (rc_X1_part : Int32 → ST → Option (ST)) (s : ST) : Option (ST) := (f_X5_failForm s).bind (fun q28 => some q28)
set_option maxHeartbeats 2000000 in
set_option maxRecDepth 20000 in
theorem e_X1_part_j204 {l : Launch} {d : Nat} (hd : 8 ≤ d) (rc_X1_sum : Int32 → ST → Option (ST)) (h_X1_sum : ∀ (p0 : Int32) (s : ST) (r : ST), rc_X1_sum p0 s = some r → Cl l (d - 1) mi_X1_sum [.ref 5, .int p0] (hp s) (none, hp r)) (rc_X1_pair : Int32 → Int32 → ST → Option (ST)) (h_X1_pair : ∀ (p0 : Int32) (p1 : Int32) (s : ST) (r : ST), rc_X1_pair p0 p1 s = some r → Cl l (d - 1) mi_X1_pair [.ref 5, .int p0, .int p1] (hp s) (none, hp r)) (rc_X1_part : Int32 → ST → Option (ST)) (h_X1_part : ∀ (p0 : Int32) (s : ST) (r : ST), rc_X1_part p0 s = some r → Cl l (d - 1) mi_X1_part [.ref 5, .int p0] (hp s) (none, hp r)) (s : ST) (r : ST) (hf : f_X1_part_j204 rc_X1_sum rc_X1_pair rc_X1_part s = some r) : Ev l d mi_X1_part 204 [some (.ref 5), none] [] (hp s) 0 0 (none, hp r) := by
  unfold f_X1_part_j204 at hf
  refine Ev.blk (pc' := 208) [(.aload_n 0, 0, 0, 0), (.getfield 19, 0, 1, 0)] (by decide +kernel) ⟨kf_1_19, trivial⟩ rfl (And.intro (kc rfl rfl) (Exists.intro 3 (And.intro rfl (?_))))
  show Ev l d mi_X1_part 208 [some (.ref 5), none] [.ref 3] (hp s) 0 0 _
  obtain ⟨q28, hq28, hf⟩ := bd_some hf
  refine Ev.callV (o := 3) (M' := mi_X5_failForm) (d' := d - 1) (As := []) (rest := []) (r' := (none, hp q28)) (e_X5_failForm (d := d - 1) (by omega) s _ hq28) (by omega) wm_X5_failForm wi_X5_failForm wv_X5_failForm km_1_80 (kc rfl rfl) (Nat.le_of_ble_eq_true rfl) rfl rfl rfl (Nat.le_of_ble_eq_true rfl) ⟨Nat.le_of_ble_eq_true rfl, Nat.le_of_ble_eq_true rfl⟩ (by decide +kernel) ?_
  show Ev l d mi_X1_part 211 [some (.ref 5), none] [] (hp q28) 0 0 _
  cases hf
  exact Ev.vret rfl (by decide +kernel) (Nat.le_refl _) (Nat.le_refl _)
def f_X1_part_j155 (rc_X1_sum : Int32 → ST → Option (ST)) (rc_X1_pair : Int32 → Int32 → ST → Option (ST)) (rc_X1_part : Int32 → ST → Option (ST)) (s : ST) : Option (ST) := (if (s.1 3 3) = (Int32.ofInt 1) then (f_X1_isFact (s.1 3 4) s).bind (fun q24 => (if q24.1 = 0 then (f_X1_part_j204 rc_X1_sum rc_X1_pair rc_X1_part) q24.2 else (f_X1_put (((Int8.ofInt (-100)).toInt32) - (q24.2.1 3 4)) q24.2).bind (fun q26 => (f_X5_step q26).bind (fun q27 => some q27)))) else (f_X1_part_j204 rc_X1_sum rc_X1_pair rc_X1_part) s)
set_option maxHeartbeats 2000000 in
set_option maxRecDepth 20000 in
theorem e_X1_part_j155 {l : Launch} {d : Nat} (hd : 8 ≤ d) (rc_X1_sum : Int32 → ST → Option (ST)) (h_X1_sum : ∀ (p0 : Int32) (s : ST) (r : ST), rc_X1_sum p0 s = some r → Cl l (d - 1) mi_X1_sum [.ref 5, .int p0] (hp s) (none, hp r)) (rc_X1_pair : Int32 → Int32 → ST → Option (ST)) (h_X1_pair : ∀ (p0 : Int32) (p1 : Int32) (s : ST) (r : ST), rc_X1_pair p0 p1 s = some r → Cl l (d - 1) mi_X1_pair [.ref 5, .int p0, .int p1] (hp s) (none, hp r)) (rc_X1_part : Int32 → ST → Option (ST)) (h_X1_part : ∀ (p0 : Int32) (s : ST) (r : ST), rc_X1_part p0 s = some r → Cl l (d - 1) mi_X1_part [.ref 5, .int p0] (hp s) (none, hp r)) (s : ST) (r : ST) (hf : f_X1_part_j155 rc_X1_sum rc_X1_pair rc_X1_part s = some r) : Ev l d mi_X1_part 155 [some (.ref 5), none] [] (hp s) 0 0 (none, hp r) := by
  unfold f_X1_part_j155 at hf
  refine Ev.blk (pc' := 163) [(.aload_n 0, 0, 0, 0), (.getfield 19, 0, 1, 0), (.getfield 49, 0, 5, 3), (.iconst 1, 0, 0, 0)] (by decide +kernel) ⟨kf_1_19, ⟨kf_1_49, trivial⟩⟩ rfl (And.intro (kc rfl rfl) (Exists.intro 3 (And.intro rfl (And.intro (kc rfl rfl) (?_)))))
  show Ev l d mi_X1_part 163 [some (.ref 5), none] [.int (Int32.ofInt 1), .int (s.1 3 3)] (hp s) 0 0 _
  refine Ev.icmp_ne (off := 41) (tgt := 204) (by decide +kernel) (by decide) (fun b23 => ?_) (fun b23 => ?_)
  · have hf := (if_neg b23).symm.trans hf
    exact (e_X1_part_j204 hd rc_X1_sum h_X1_sum rc_X1_pair h_X1_pair rc_X1_part h_X1_part) s _ hf
  · have hf := (if_pos b23).symm.trans hf
    refine Ev.blk (pc' := 174) [(.aload_n 0, 0, 0, 0), (.aload_n 0, 0, 0, 0), (.getfield 19, 0, 1, 0), (.getfield 74, 0, 5, 4)] (by decide +kernel) ⟨kf_1_19, ⟨kf_1_74, trivial⟩⟩ rfl (And.intro (kc rfl rfl) (Exists.intro 3 (And.intro rfl (And.intro (kc rfl rfl) (?_)))))
    show Ev l d mi_X1_part 174 [some (.ref 5), none] [.int (s.1 3 4), .ref 5] (hp s) 0 0 _
    obtain ⟨q24, hq24, hf⟩ := bd_some hf
    refine Ev.callV (o := 5) (M' := mi_X1_isFact) (d' := d - 1) (As := [.int (s.1 3 4)]) (rest := []) (r' := (some (.int q24.1), hp q24.2)) (e_X1_isFact (d := d - 1) (by omega) (s.1 3 4) s _ hq24) (by omega) wm_X1_isFact wi_X1_isFact wv_X1_isFact km_1_77 (kc rfl rfl) (Nat.le_of_ble_eq_true rfl) rfl rfl rfl (Nat.le_of_ble_eq_true rfl) ⟨Nat.le_of_ble_eq_true rfl, Nat.le_of_ble_eq_true rfl⟩ (by decide +kernel) ?_
    show Ev l d mi_X1_part 177 [some (.ref 5), none] [.int q24.1] (hp q24.2) 0 0 _
    refine Ev.if_eq (off := 27) (tgt := 204) (by decide +kernel) (by decide) (fun b25 => ?_) (fun b25 => ?_)
    · have hf := (if_pos b25).symm.trans hf
      exact (e_X1_part_j204 hd rc_X1_sum h_X1_sum rc_X1_pair h_X1_pair rc_X1_part h_X1_part) q24.2 _ hf
    · have hf := (if_neg b25).symm.trans hf
      refine Ev.blk (pc' := 191) [(.aload_n 0, 0, 0, 0), (.bipush (-100), 0, 0, 0), (.aload_n 0, 0, 0, 0), (.getfield 19, 0, 1, 0), (.getfield 74, 0, 5, 4), (.isub, 0, 0, 0)] (by decide +kernel) ⟨kf_1_19, ⟨kf_1_74, trivial⟩⟩ rfl (And.intro (kc rfl rfl) (Exists.intro 3 (And.intro rfl (And.intro (kc rfl rfl) (?_)))))
      show Ev l d mi_X1_part 191 [some (.ref 5), none] [.int (((Int8.ofInt (-100)).toInt32) - (q24.2.1 3 4)), .ref 5] (hp q24.2) 0 0 _
      obtain ⟨q26, hq26, hf⟩ := bd_some hf
      refine Ev.callV (o := 5) (M' := mi_X1_put) (d' := d - 1) (As := [.int (((Int8.ofInt (-100)).toInt32) - (q24.2.1 3 4))]) (rest := []) (r' := (none, hp q26)) (e_X1_put (d := d - 1) (by omega) (((Int8.ofInt (-100)).toInt32) - (q24.2.1 3 4)) q24.2 _ hq26) (by omega) wm_X1_put wi_X1_put wv_X1_put km_1_45 (kc rfl rfl) (Nat.le_of_ble_eq_true rfl) rfl rfl rfl (Nat.le_of_ble_eq_true rfl) ⟨Nat.le_of_ble_eq_true rfl, Nat.le_of_ble_eq_true rfl⟩ (by decide +kernel) ?_
      show Ev l d mi_X1_part 194 [some (.ref 5), none] [] (hp q26) 0 0 _
      refine Ev.blk (pc' := 198) [(.aload_n 0, 0, 0, 0), (.getfield 19, 0, 1, 0)] (by decide +kernel) ⟨kf_1_19, trivial⟩ rfl (And.intro (kc rfl rfl) (Exists.intro 3 (And.intro rfl (?_))))
      show Ev l d mi_X1_part 198 [some (.ref 5), none] [.ref 3] (hp q26) 0 0 _
      obtain ⟨q27, hq27, hf⟩ := bd_some hf
      refine Ev.callV (o := 3) (M' := mi_X5_step) (d' := d - 1) (As := []) (rest := []) (r' := (none, hp q27)) (e_X5_step (d := d - 1) (by omega) q26 _ hq27) (by omega) wm_X5_step wi_X5_step wv_X5_step km_1_42 (kc rfl rfl) (Nat.le_of_ble_eq_true rfl) rfl rfl rfl (Nat.le_of_ble_eq_true rfl) ⟨Nat.le_of_ble_eq_true rfl, Nat.le_of_ble_eq_true rfl⟩ (by decide +kernel) ?_
      show Ev l d mi_X1_part 201 [some (.ref 5), none] [] (hp q27) 0 0 _
      refine Ev.goto (off := 10) (tgt := 211) (by decide +kernel) (by decide) ?_
      cases hf
      exact Ev.vret rfl (by decide +kernel) (Nat.le_refl _) (Nat.le_refl _)
def f_X1_part (rc_X1_sum : Int32 → ST → Option (ST)) (rc_X1_pair : Int32 → Int32 → ST → Option (ST)) (rc_X1_part : Int32 → ST → Option (ST)) (p0 : Int32) (s : ST) : Option (ST) := (if (s.1 3 3) = (Int32.ofInt 2) then (f_X5_takeNumber (Int32.ofInt 0) ((Int16.ofInt 9999).toInt32) s).bind (fun q21 => (f_X1_put q21.1 q21.2).bind (fun q22 => some q22)) else (f_X5_isSign ((Int8.ofInt 40).toInt32) s).bind (fun q2 => (if q2.1 = 0 then (f_X5_isWord ((Int8.ofInt 31).toInt32) q2.2).bind (fun q4 => (if q4.1 = 0 then (f_X5_isWord ((Int8.ofInt 32).toInt32) q4.2).bind (fun q6 => (if q6.1 = 0 then (if (q6.2.1 5 2) = 0 then (f_X1_part_j155 rc_X1_sum rc_X1_pair rc_X1_part) q6.2 else (f_X5_isWord ((Int8.ofInt 20).toInt32) q6.2).bind (fun q9 => (if q9.1 = 0 then (f_X1_part_j155 rc_X1_sum rc_X1_pair rc_X1_part) q9.2 else (f_X1_opens p0 q9.2).bind (fun q11 => (if q11.1 = 0 then some q11.2 else (rc_X1_part (p0 + (Int32.ofInt 1)) q11.2).bind (fun q13 => (f_X1_put ((Int8.ofInt (-13)).toInt32) q13).bind (fun q14 => some q14))))))) else (rc_X1_pair p0 ((Int8.ofInt (-6)).toInt32) q6.2).bind (fun q15 => some q15))) else (rc_X1_pair p0 ((Int8.ofInt (-5)).toInt32) q4.2).bind (fun q16 => some q16))) else (f_X1_opens p0 q2.2).bind (fun q17 => (if q17.1 = 0 then some q17.2 else (rc_X1_sum (p0 + (Int32.ofInt 1)) q17.2).bind (fun q19 => (f_X5_takeSign ((Int8.ofInt 41).toInt32) q19).bind (fun q20 => some q20)))))))
set_option maxHeartbeats 2000000 in
set_option maxRecDepth 20000 in
theorem e_X1_part {l : Launch} {d : Nat} (hd : 8 ≤ d) (rc_X1_sum : Int32 → ST → Option (ST)) (h_X1_sum : ∀ (p0 : Int32) (s : ST) (r : ST), rc_X1_sum p0 s = some r → Cl l (d - 1) mi_X1_sum [.ref 5, .int p0] (hp s) (none, hp r)) (rc_X1_pair : Int32 → Int32 → ST → Option (ST)) (h_X1_pair : ∀ (p0 : Int32) (p1 : Int32) (s : ST) (r : ST), rc_X1_pair p0 p1 s = some r → Cl l (d - 1) mi_X1_pair [.ref 5, .int p0, .int p1] (hp s) (none, hp r)) (rc_X1_part : Int32 → ST → Option (ST)) (h_X1_part : ∀ (p0 : Int32) (s : ST) (r : ST), rc_X1_part p0 s = some r → Cl l (d - 1) mi_X1_part [.ref 5, .int p0] (hp s) (none, hp r)) (p0 : Int32) (s : ST) (r : ST) (hf : f_X1_part rc_X1_sum rc_X1_pair rc_X1_part p0 s = some r) : Cl l d mi_X1_part [.ref 5, .int p0] (hp s) (none, hp r) := by
  refine Ev.entry (by decide +kernel) rfl rfl ?_
  show Ev l d mi_X1_part 0 [some (.ref 5), some (.int p0)] [] (hp s) 0 0 _
  unfold f_X1_part at hf
  refine Ev.blk (pc' := 8) [(.aload_n 0, 0, 0, 0), (.getfield 19, 0, 1, 0), (.getfield 49, 0, 5, 3), (.iconst 2, 0, 0, 0)] (by decide +kernel) ⟨kf_1_19, ⟨kf_1_49, trivial⟩⟩ rfl (And.intro (kc rfl rfl) (Exists.intro 3 (And.intro rfl (And.intro (kc rfl rfl) (?_)))))
  show Ev l d mi_X1_part 8 [some (.ref 5), some (.int p0)] [.int (Int32.ofInt 2), .int (s.1 3 3)] (hp s) 0 0 _
  refine Ev.icmp_ne (off := 21) (tgt := 29) (by decide +kernel) (by decide) (fun b1 => ?_) (fun b1 => ?_)
  · have hf := (if_neg b1).symm.trans hf
    refine Ev.blk (pc' := 35) [(.aload_n 0, 0, 0, 0), (.getfield 19, 0, 1, 0), (.bipush 40, 0, 0, 0)] (by decide +kernel) ⟨kf_1_19, trivial⟩ rfl (And.intro (kc rfl rfl) (Exists.intro 3 (And.intro rfl (?_))))
    show Ev l d mi_X1_part 35 [some (.ref 5), some (.int p0)] [.int ((Int8.ofInt 40).toInt32), .ref 3] (hp s) 0 0 _
    obtain ⟨q2, hq2, hf⟩ := bd_some hf
    refine Ev.callV (o := 3) (M' := mi_X5_isSign) (d' := d - 1) (As := [.int ((Int8.ofInt 40).toInt32)]) (rest := []) (r' := (some (.int q2.1), hp q2.2)) (e_X5_isSign (d := d - 1) (by omega) ((Int8.ofInt 40).toInt32) s _ hq2) (by omega) wm_X5_isSign wi_X5_isSign wv_X5_isSign km_1_36 (kc rfl rfl) (Nat.le_of_ble_eq_true rfl) rfl rfl rfl (Nat.le_of_ble_eq_true rfl) ⟨Nat.le_of_ble_eq_true rfl, Nat.le_of_ble_eq_true rfl⟩ (by decide +kernel) ?_
    show Ev l d mi_X1_part 38 [some (.ref 5), some (.int p0)] [.int q2.1] (hp q2.2) 0 0 _
    refine Ev.if_eq (off := 30) (tgt := 68) (by decide +kernel) (by decide) (fun b3 => ?_) (fun b3 => ?_)
    · have hf := (if_pos b3).symm.trans hf
      refine Ev.blk (pc' := 74) [(.aload_n 0, 0, 0, 0), (.getfield 19, 0, 1, 0), (.bipush 31, 0, 0, 0)] (by decide +kernel) ⟨kf_1_19, trivial⟩ rfl (And.intro (kc rfl rfl) (Exists.intro 3 (And.intro rfl (?_))))
      show Ev l d mi_X1_part 74 [some (.ref 5), some (.int p0)] [.int ((Int8.ofInt 31).toInt32), .ref 3] (hp q2.2) 0 0 _
      obtain ⟨q4, hq4, hf⟩ := bd_some hf
      refine Ev.callV (o := 3) (M' := mi_X5_isWord) (d' := d - 1) (As := [.int ((Int8.ofInt 31).toInt32)]) (rest := []) (r' := (some (.int q4.1), hp q4.2)) (e_X5_isWord (d := d - 1) (by omega) ((Int8.ofInt 31).toInt32) q2.2 _ hq4) (by omega) wm_X5_isWord wi_X5_isWord wv_X5_isWord km_1_67 (kc rfl rfl) (Nat.le_of_ble_eq_true rfl) rfl rfl rfl (Nat.le_of_ble_eq_true rfl) ⟨Nat.le_of_ble_eq_true rfl, Nat.le_of_ble_eq_true rfl⟩ (by decide +kernel) ?_
      show Ev l d mi_X1_part 77 [some (.ref 5), some (.int p0)] [.int q4.1] (hp q4.2) 0 0 _
      refine Ev.if_eq (off := 13) (tgt := 90) (by decide +kernel) (by decide) (fun b5 => ?_) (fun b5 => ?_)
      · have hf := (if_pos b5).symm.trans hf
        refine Ev.blk (pc' := 96) [(.aload_n 0, 0, 0, 0), (.getfield 19, 0, 1, 0), (.bipush 32, 0, 0, 0)] (by decide +kernel) ⟨kf_1_19, trivial⟩ rfl (And.intro (kc rfl rfl) (Exists.intro 3 (And.intro rfl (?_))))
        show Ev l d mi_X1_part 96 [some (.ref 5), some (.int p0)] [.int ((Int8.ofInt 32).toInt32), .ref 3] (hp q4.2) 0 0 _
        obtain ⟨q6, hq6, hf⟩ := bd_some hf
        refine Ev.callV (o := 3) (M' := mi_X5_isWord) (d' := d - 1) (As := [.int ((Int8.ofInt 32).toInt32)]) (rest := []) (r' := (some (.int q6.1), hp q6.2)) (e_X5_isWord (d := d - 1) (by omega) ((Int8.ofInt 32).toInt32) q4.2 _ hq6) (by omega) wm_X5_isWord wi_X5_isWord wv_X5_isWord km_1_67 (kc rfl rfl) (Nat.le_of_ble_eq_true rfl) rfl rfl rfl (Nat.le_of_ble_eq_true rfl) ⟨Nat.le_of_ble_eq_true rfl, Nat.le_of_ble_eq_true rfl⟩ (by decide +kernel) ?_
        show Ev l d mi_X1_part 99 [some (.ref 5), some (.int p0)] [.int q6.1] (hp q6.2) 0 0 _
        refine Ev.if_eq (off := 13) (tgt := 112) (by decide +kernel) (by decide) (fun b7 => ?_) (fun b7 => ?_)
        · have hf := (if_pos b7).symm.trans hf
          refine Ev.blk (pc' := 116) [(.aload_n 0, 0, 0, 0), (.getfield 15, 0, 1, 2)] (by decide +kernel) ⟨kf_1_15, trivial⟩ rfl (And.intro (kc rfl rfl) (?_))
          show Ev l d mi_X1_part 116 [some (.ref 5), some (.int p0)] [.int (q6.2.1 5 2)] (hp q6.2) 0 0 _
          refine Ev.if_eq (off := 39) (tgt := 155) (by decide +kernel) (by decide) (fun b8 => ?_) (fun b8 => ?_)
          · have hf := (if_pos b8).symm.trans hf
            exact Ev.wk ((e_X1_part_j155 hd rc_X1_sum h_X1_sum rc_X1_pair h_X1_pair rc_X1_part h_X1_part) q6.2 _ hf) (And.intro (Or.inr rfl) (And.intro (Or.inl rfl) (trivial)))
          · have hf := (if_neg b8).symm.trans hf
            refine Ev.blk (pc' := 125) [(.aload_n 0, 0, 0, 0), (.getfield 19, 0, 1, 0), (.bipush 20, 0, 0, 0)] (by decide +kernel) ⟨kf_1_19, trivial⟩ rfl (And.intro (kc rfl rfl) (Exists.intro 3 (And.intro rfl (?_))))
            show Ev l d mi_X1_part 125 [some (.ref 5), some (.int p0)] [.int ((Int8.ofInt 20).toInt32), .ref 3] (hp q6.2) 0 0 _
            obtain ⟨q9, hq9, hf⟩ := bd_some hf
            refine Ev.callV (o := 3) (M' := mi_X5_isWord) (d' := d - 1) (As := [.int ((Int8.ofInt 20).toInt32)]) (rest := []) (r' := (some (.int q9.1), hp q9.2)) (e_X5_isWord (d := d - 1) (by omega) ((Int8.ofInt 20).toInt32) q6.2 _ hq9) (by omega) wm_X5_isWord wi_X5_isWord wv_X5_isWord km_1_67 (kc rfl rfl) (Nat.le_of_ble_eq_true rfl) rfl rfl rfl (Nat.le_of_ble_eq_true rfl) ⟨Nat.le_of_ble_eq_true rfl, Nat.le_of_ble_eq_true rfl⟩ (by decide +kernel) ?_
            show Ev l d mi_X1_part 128 [some (.ref 5), some (.int p0)] [.int q9.1] (hp q9.2) 0 0 _
            refine Ev.if_eq (off := 27) (tgt := 155) (by decide +kernel) (by decide) (fun b10 => ?_) (fun b10 => ?_)
            · have hf := (if_pos b10).symm.trans hf
              exact Ev.wk ((e_X1_part_j155 hd rc_X1_sum h_X1_sum rc_X1_pair h_X1_pair rc_X1_part h_X1_part) q9.2 _ hf) (And.intro (Or.inr rfl) (And.intro (Or.inl rfl) (trivial)))
            · have hf := (if_neg b10).symm.trans hf
              refine Ev.blk (pc' := 133) [(.aload_n 0, 0, 0, 0), (.iload_n 1, 0, 0, 0)] (by decide +kernel) trivial rfl (?_)
              show Ev l d mi_X1_part 133 [some (.ref 5), some (.int p0)] [.int p0, .ref 5] (hp q9.2) 0 0 _
              obtain ⟨q11, hq11, hf⟩ := bd_some hf
              refine Ev.callV (o := 5) (M' := mi_X1_opens) (d' := d - 1) (As := [.int p0]) (rest := []) (r' := (some (.int q11.1), hp q11.2)) (e_X1_opens (d := d - 1) (by omega) p0 q9.2 _ hq11) (by omega) wm_X1_opens wi_X1_opens wv_X1_opens km_1_56 (kc rfl rfl) (Nat.le_of_ble_eq_true rfl) rfl rfl rfl (Nat.le_of_ble_eq_true rfl) ⟨Nat.le_of_ble_eq_true rfl, Nat.le_of_ble_eq_true rfl⟩ (by decide +kernel) ?_
              show Ev l d mi_X1_part 136 [some (.ref 5), some (.int p0)] [.int q11.1] (hp q11.2) 0 0 _
              refine Ev.if_eq (off := 75) (tgt := 211) (by decide +kernel) (by decide) (fun b12 => ?_) (fun b12 => ?_)
              · have hf := (if_pos b12).symm.trans hf
                cases hf
                exact Ev.vret rfl (by decide +kernel) (Nat.le_refl _) (Nat.le_refl _)
              · have hf := (if_neg b12).symm.trans hf
                refine Ev.blk (pc' := 143) [(.aload_n 0, 0, 0, 0), (.iload_n 1, 0, 0, 0), (.iconst 1, 0, 0, 0), (.iadd, 0, 0, 0)] (by decide +kernel) trivial rfl (?_)
                show Ev l d mi_X1_part 143 [some (.ref 5), some (.int p0)] [.int (p0 + (Int32.ofInt 1)), .ref 5] (hp q11.2) 0 0 _
                obtain ⟨q13, hq13, hf⟩ := bd_some hf
                refine Ev.callV (o := 5) (M' := mi_X1_part) (d' := d - 1) (As := [.int (p0 + (Int32.ofInt 1))]) (rest := []) (r' := (none, hp q13)) (h_X1_part (p0 + (Int32.ofInt 1)) q11.2 _ hq13) (by omega) wm_X1_part wi_X1_part wv_X1_part km_1_46 (kc rfl rfl) (Nat.le_of_ble_eq_true rfl) rfl rfl rfl (Nat.le_of_ble_eq_true rfl) ⟨Nat.le_of_ble_eq_true rfl, Nat.le_of_ble_eq_true rfl⟩ (by decide +kernel) ?_
                show Ev l d mi_X1_part 146 [some (.ref 5), some (.int p0)] [] (hp q13) 0 0 _
                refine Ev.blk (pc' := 149) [(.aload_n 0, 0, 0, 0), (.bipush (-13), 0, 0, 0)] (by decide +kernel) trivial rfl (?_)
                show Ev l d mi_X1_part 149 [some (.ref 5), some (.int p0)] [.int ((Int8.ofInt (-13)).toInt32), .ref 5] (hp q13) 0 0 _
                obtain ⟨q14, hq14, hf⟩ := bd_some hf
                refine Ev.callV (o := 5) (M' := mi_X1_put) (d' := d - 1) (As := [.int ((Int8.ofInt (-13)).toInt32)]) (rest := []) (r' := (none, hp q14)) (e_X1_put (d := d - 1) (by omega) ((Int8.ofInt (-13)).toInt32) q13 _ hq14) (by omega) wm_X1_put wi_X1_put wv_X1_put km_1_45 (kc rfl rfl) (Nat.le_of_ble_eq_true rfl) rfl rfl rfl (Nat.le_of_ble_eq_true rfl) ⟨Nat.le_of_ble_eq_true rfl, Nat.le_of_ble_eq_true rfl⟩ (by decide +kernel) ?_
                show Ev l d mi_X1_part 152 [some (.ref 5), some (.int p0)] [] (hp q14) 0 0 _
                refine Ev.goto (off := 59) (tgt := 211) (by decide +kernel) (by decide) ?_
                cases hf
                exact Ev.vret rfl (by decide +kernel) (Nat.le_refl _) (Nat.le_refl _)
        · have hf := (if_neg b7).symm.trans hf
          refine Ev.blk (pc' := 106) [(.aload_n 0, 0, 0, 0), (.iload_n 1, 0, 0, 0), (.bipush (-6), 0, 0, 0)] (by decide +kernel) trivial rfl (?_)
          show Ev l d mi_X1_part 106 [some (.ref 5), some (.int p0)] [.int ((Int8.ofInt (-6)).toInt32), .int p0, .ref 5] (hp q6.2) 0 0 _
          obtain ⟨q15, hq15, hf⟩ := bd_some hf
          refine Ev.callV (o := 5) (M' := mi_X1_pair) (d' := d - 1) (As := [.int p0, .int ((Int8.ofInt (-6)).toInt32)]) (rest := []) (r' := (none, hp q15)) (h_X1_pair p0 ((Int8.ofInt (-6)).toInt32) q6.2 _ hq15) (by omega) wm_X1_pair wi_X1_pair wv_X1_pair km_1_70 (kc rfl rfl) (Nat.le_of_ble_eq_true rfl) rfl rfl rfl (Nat.le_of_ble_eq_true rfl) ⟨Nat.le_of_ble_eq_true rfl, Nat.le_of_ble_eq_true rfl⟩ (by decide +kernel) ?_
          show Ev l d mi_X1_part 109 [some (.ref 5), some (.int p0)] [] (hp q15) 0 0 _
          refine Ev.goto (off := 102) (tgt := 211) (by decide +kernel) (by decide) ?_
          cases hf
          exact Ev.vret rfl (by decide +kernel) (Nat.le_refl _) (Nat.le_refl _)
      · have hf := (if_neg b5).symm.trans hf
        refine Ev.blk (pc' := 84) [(.aload_n 0, 0, 0, 0), (.iload_n 1, 0, 0, 0), (.bipush (-5), 0, 0, 0)] (by decide +kernel) trivial rfl (?_)
        show Ev l d mi_X1_part 84 [some (.ref 5), some (.int p0)] [.int ((Int8.ofInt (-5)).toInt32), .int p0, .ref 5] (hp q4.2) 0 0 _
        obtain ⟨q16, hq16, hf⟩ := bd_some hf
        refine Ev.callV (o := 5) (M' := mi_X1_pair) (d' := d - 1) (As := [.int p0, .int ((Int8.ofInt (-5)).toInt32)]) (rest := []) (r' := (none, hp q16)) (h_X1_pair p0 ((Int8.ofInt (-5)).toInt32) q4.2 _ hq16) (by omega) wm_X1_pair wi_X1_pair wv_X1_pair km_1_70 (kc rfl rfl) (Nat.le_of_ble_eq_true rfl) rfl rfl rfl (Nat.le_of_ble_eq_true rfl) ⟨Nat.le_of_ble_eq_true rfl, Nat.le_of_ble_eq_true rfl⟩ (by decide +kernel) ?_
        show Ev l d mi_X1_part 87 [some (.ref 5), some (.int p0)] [] (hp q16) 0 0 _
        refine Ev.goto (off := 124) (tgt := 211) (by decide +kernel) (by decide) ?_
        cases hf
        exact Ev.vret rfl (by decide +kernel) (Nat.le_refl _) (Nat.le_refl _)
    · have hf := (if_neg b3).symm.trans hf
      refine Ev.blk (pc' := 43) [(.aload_n 0, 0, 0, 0), (.iload_n 1, 0, 0, 0)] (by decide +kernel) trivial rfl (?_)
      show Ev l d mi_X1_part 43 [some (.ref 5), some (.int p0)] [.int p0, .ref 5] (hp q2.2) 0 0 _
      obtain ⟨q17, hq17, hf⟩ := bd_some hf
      refine Ev.callV (o := 5) (M' := mi_X1_opens) (d' := d - 1) (As := [.int p0]) (rest := []) (r' := (some (.int q17.1), hp q17.2)) (e_X1_opens (d := d - 1) (by omega) p0 q2.2 _ hq17) (by omega) wm_X1_opens wi_X1_opens wv_X1_opens km_1_56 (kc rfl rfl) (Nat.le_of_ble_eq_true rfl) rfl rfl rfl (Nat.le_of_ble_eq_true rfl) ⟨Nat.le_of_ble_eq_true rfl, Nat.le_of_ble_eq_true rfl⟩ (by decide +kernel) ?_
      show Ev l d mi_X1_part 46 [some (.ref 5), some (.int p0)] [.int q17.1] (hp q17.2) 0 0 _
      refine Ev.if_eq (off := 165) (tgt := 211) (by decide +kernel) (by decide) (fun b18 => ?_) (fun b18 => ?_)
      · have hf := (if_pos b18).symm.trans hf
        cases hf
        exact Ev.vret rfl (by decide +kernel) (Nat.le_refl _) (Nat.le_refl _)
      · have hf := (if_neg b18).symm.trans hf
        refine Ev.blk (pc' := 53) [(.aload_n 0, 0, 0, 0), (.iload_n 1, 0, 0, 0), (.iconst 1, 0, 0, 0), (.iadd, 0, 0, 0)] (by decide +kernel) trivial rfl (?_)
        show Ev l d mi_X1_part 53 [some (.ref 5), some (.int p0)] [.int (p0 + (Int32.ofInt 1)), .ref 5] (hp q17.2) 0 0 _
        obtain ⟨q19, hq19, hf⟩ := bd_some hf
        refine Ev.callV (o := 5) (M' := mi_X1_sum) (d' := d - 1) (As := [.int (p0 + (Int32.ofInt 1))]) (rest := []) (r' := (none, hp q19)) (h_X1_sum (p0 + (Int32.ofInt 1)) q17.2 _ hq19) (by omega) wm_X1_sum wi_X1_sum wv_X1_sum km_1_60 (kc rfl rfl) (Nat.le_of_ble_eq_true rfl) rfl rfl rfl (Nat.le_of_ble_eq_true rfl) ⟨Nat.le_of_ble_eq_true rfl, Nat.le_of_ble_eq_true rfl⟩ (by decide +kernel) ?_
        show Ev l d mi_X1_part 56 [some (.ref 5), some (.int p0)] [] (hp q19) 0 0 _
        refine Ev.blk (pc' := 62) [(.aload_n 0, 0, 0, 0), (.getfield 19, 0, 1, 0), (.bipush 41, 0, 0, 0)] (by decide +kernel) ⟨kf_1_19, trivial⟩ rfl (And.intro (kc rfl rfl) (Exists.intro 3 (And.intro rfl (?_))))
        show Ev l d mi_X1_part 62 [some (.ref 5), some (.int p0)] [.int ((Int8.ofInt 41).toInt32), .ref 3] (hp q19) 0 0 _
        obtain ⟨q20, hq20, hf⟩ := bd_some hf
        refine Ev.callV (o := 3) (M' := mi_X5_takeSign) (d' := d - 1) (As := [.int ((Int8.ofInt 41).toInt32)]) (rest := []) (r' := (none, hp q20)) (e_X5_takeSign (d := d - 1) (by omega) ((Int8.ofInt 41).toInt32) q19 _ hq20) (by omega) wm_X5_takeSign wi_X5_takeSign wv_X5_takeSign km_1_63 (kc rfl rfl) (Nat.le_of_ble_eq_true rfl) rfl rfl rfl (Nat.le_of_ble_eq_true rfl) ⟨Nat.le_of_ble_eq_true rfl, Nat.le_of_ble_eq_true rfl⟩ (by decide +kernel) ?_
        show Ev l d mi_X1_part 65 [some (.ref 5), some (.int p0)] [] (hp q20) 0 0 _
        refine Ev.goto (off := 146) (tgt := 211) (by decide +kernel) (by decide) ?_
        cases hf
        exact Ev.vret rfl (by decide +kernel) (Nat.le_refl _) (Nat.le_refl _)
  · have hf := (if_pos b1).symm.trans hf
    refine Ev.blk (pc' := 20) [(.aload_n 0, 0, 0, 0), (.aload_n 0, 0, 0, 0), (.getfield 19, 0, 1, 0), (.iconst 0, 0, 0, 0), (.sipush 9999, 0, 0, 0)] (by decide +kernel) ⟨kf_1_19, trivial⟩ rfl (And.intro (kc rfl rfl) (Exists.intro 3 (And.intro rfl (?_))))
    show Ev l d mi_X1_part 20 [some (.ref 5), some (.int p0)] [.int ((Int16.ofInt 9999).toInt32), .int (Int32.ofInt 0), .ref 3, .ref 5] (hp s) 0 0 _
    obtain ⟨q21, hq21, hf⟩ := bd_some hf
    refine Ev.callV (o := 3) (M' := mi_X5_takeNumber) (d' := d - 1) (As := [.int (Int32.ofInt 0), .int ((Int16.ofInt 9999).toInt32)]) (rest := [.ref 5]) (r' := (some (.int q21.1), hp q21.2)) (e_X5_takeNumber (d := d - 1) (by omega) (Int32.ofInt 0) ((Int16.ofInt 9999).toInt32) s _ hq21) (by omega) wm_X5_takeNumber wi_X5_takeNumber wv_X5_takeNumber km_1_52 (kc rfl rfl) (Nat.le_of_ble_eq_true rfl) rfl rfl rfl (Nat.le_of_ble_eq_true rfl) ⟨Nat.le_of_ble_eq_true rfl, Nat.le_of_ble_eq_true rfl⟩ (by decide +kernel) ?_
    show Ev l d mi_X1_part 23 [some (.ref 5), some (.int p0)] [.int q21.1, .ref 5] (hp q21.2) 0 0 _
    obtain ⟨q22, hq22, hf⟩ := bd_some hf
    refine Ev.callV (o := 5) (M' := mi_X1_put) (d' := d - 1) (As := [.int q21.1]) (rest := []) (r' := (none, hp q22)) (e_X1_put (d := d - 1) (by omega) q21.1 q21.2 _ hq22) (by omega) wm_X1_put wi_X1_put wv_X1_put km_1_45 (kc rfl rfl) (Nat.le_of_ble_eq_true rfl) rfl rfl rfl (Nat.le_of_ble_eq_true rfl) ⟨Nat.le_of_ble_eq_true rfl, Nat.le_of_ble_eq_true rfl⟩ (by decide +kernel) ?_
    show Ev l d mi_X1_part 26 [some (.ref 5), some (.int p0)] [] (hp q22) 0 0 _
    refine Ev.goto (off := 185) (tgt := 211) (by decide +kernel) (by decide) ?_
    cases hf
    exact Ev.vret rfl (by decide +kernel) (Nat.le_refl _) (Nat.le_refl _)
def f_X1_product_j57 (rc_X1_part : Int32 → ST → Option (ST)) (k7 : Int32 → Int32 → ST → Option (ST)) (x1 : Int32) (x2 : Int32) (y0 : Int32) (s : ST) : Option (ST) := (f_X5_step s).bind (fun q9 => (rc_X1_part x1 q9).bind (fun q10 => (f_X1_put y0 q10).bind (fun q11 => k7 x1 (x2 + Int32.ofInt 1) q11)))
set_option maxHeartbeats 2000000 in
set_option maxRecDepth 20000 in
theorem e_X1_product_j57 {l : Launch} {d : Nat} (hd : 7 ≤ d) (rc_X1_part : Int32 → ST → Option (ST)) (h_X1_part : ∀ (p0 : Int32) (s : ST) (r : ST), rc_X1_part p0 s = some r → Cl l (d - 1) mi_X1_part [.ref 5, .int p0] (hp s) (none, hp r)) (k7 : Int32 → Int32 → ST → Option (ST)) (hk7 : ∀ (x1 : Int32) (x2 : Int32) (s : ST) (r : ST), k7 x1 x2 s = some r → Ev l d mi_X1_product 7 [some (.ref 5), some (.int x1), some (.int x2), none] [] (hp s) 0 0 (none, hp r)) (x1 : Int32) (x2 : Int32) (y0 : Int32) (s : ST) (r : ST) (hf : f_X1_product_j57 rc_X1_part k7 x1 x2 y0 s = some r) : Ev l d mi_X1_product 57 [some (.ref 5), some (.int x1), some (.int x2), none] [.int y0] (hp s) 0 0 (none, hp r) := by
  unfold f_X1_product_j57 at hf
  refine Ev.blk (pc' := 62) [(.istore_n 3, 0, 0, 0), (.aload_n 0, 0, 0, 0), (.getfield 19, 0, 1, 0)] (by decide +kernel) ⟨kf_1_19, trivial⟩ rfl (And.intro (Nat.le_of_ble_eq_true rfl) (And.intro (kc rfl rfl) (Exists.intro 3 (And.intro rfl (?_)))))
  show Ev l d mi_X1_product 62 [some (.ref 5), some (.int x1), some (.int x2), some (.int y0)] [.ref 3] (hp s) 0 0 _
  obtain ⟨q9, hq9, hf⟩ := bd_some hf
  refine Ev.callV (o := 3) (M' := mi_X5_step) (d' := d - 1) (As := []) (rest := []) (r' := (none, hp q9)) (e_X5_step (d := d - 1) (by omega) s _ hq9) (by omega) wm_X5_step wi_X5_step wv_X5_step km_1_42 (kc rfl rfl) (Nat.le_of_ble_eq_true rfl) rfl rfl rfl (Nat.le_of_ble_eq_true rfl) ⟨Nat.le_of_ble_eq_true rfl, Nat.le_of_ble_eq_true rfl⟩ (by decide +kernel) ?_
  show Ev l d mi_X1_product 65 [some (.ref 5), some (.int x1), some (.int x2), some (.int y0)] [] (hp q9) 0 0 _
  refine Ev.blk (pc' := 67) [(.aload_n 0, 0, 0, 0), (.iload_n 1, 0, 0, 0)] (by decide +kernel) trivial rfl (?_)
  show Ev l d mi_X1_product 67 [some (.ref 5), some (.int x1), some (.int x2), some (.int y0)] [.int x1, .ref 5] (hp q9) 0 0 _
  obtain ⟨q10, hq10, hf⟩ := bd_some hf
  refine Ev.callV (o := 5) (M' := mi_X1_part) (d' := d - 1) (As := [.int x1]) (rest := []) (r' := (none, hp q10)) (h_X1_part x1 q9 _ hq10) (by omega) wm_X1_part wi_X1_part wv_X1_part km_1_46 (kc rfl rfl) (Nat.le_of_ble_eq_true rfl) rfl rfl rfl (Nat.le_of_ble_eq_true rfl) ⟨Nat.le_of_ble_eq_true rfl, Nat.le_of_ble_eq_true rfl⟩ (by decide +kernel) ?_
  show Ev l d mi_X1_product 70 [some (.ref 5), some (.int x1), some (.int x2), some (.int y0)] [] (hp q10) 0 0 _
  refine Ev.blk (pc' := 72) [(.aload_n 0, 0, 0, 0), (.iload_n 3, 0, 0, 0)] (by decide +kernel) trivial rfl (?_)
  show Ev l d mi_X1_product 72 [some (.ref 5), some (.int x1), some (.int x2), some (.int y0)] [.int y0, .ref 5] (hp q10) 0 0 _
  obtain ⟨q11, hq11, hf⟩ := bd_some hf
  refine Ev.callV (o := 5) (M' := mi_X1_put) (d' := d - 1) (As := [.int y0]) (rest := []) (r' := (none, hp q11)) (e_X1_put (d := d - 1) (by omega) y0 q10 _ hq11) (by omega) wm_X1_put wi_X1_put wv_X1_put km_1_45 (kc rfl rfl) (Nat.le_of_ble_eq_true rfl) rfl rfl rfl (Nat.le_of_ble_eq_true rfl) ⟨Nat.le_of_ble_eq_true rfl, Nat.le_of_ble_eq_true rfl⟩ (by decide +kernel) ?_
  show Ev l d mi_X1_product 75 [some (.ref 5), some (.int x1), some (.int x2), some (.int y0)] [] (hp q11) 0 0 _
  refine Ev.blk (pc' := 78) [(.iinc 2 1, 0, 0, 0)] (by decide +kernel) trivial rfl (And.intro (Nat.le_of_ble_eq_true rfl) (?_))
  show Ev l d mi_X1_product 78 [some (.ref 5), some (.int x1), some (.int (x2 + Int32.ofInt 1)), some (.int y0)] [] (hp q11) 0 0 _
  refine Ev.goto (off := -71) (tgt := 7) (by decide +kernel) (by decide) ?_
  exact Ev.wk (hk7 x1 (x2 + Int32.ofInt 1) q11 _ hf) (And.intro (Or.inr rfl) (And.intro (Or.inr rfl) (And.intro (Or.inr rfl) (And.intro (Or.inl rfl) (trivial)))))
def f_X1_product_j38 (rc_X1_part : Int32 → ST → Option (ST)) (k7 : Int32 → Int32 → ST → Option (ST)) (x1 : Int32) (x2 : Int32) (s : ST) : Option (ST) := (f_X5_isSign ((Int8.ofInt 42).toInt32) s).bind (fun q7 => (if q7.1 = 0 then (f_X1_product_j57 rc_X1_part k7) x1 x2 ((Int8.ofInt (-4)).toInt32) q7.2 else (f_X1_product_j57 rc_X1_part k7) x1 x2 ((Int8.ofInt (-3)).toInt32) q7.2))
set_option maxHeartbeats 2000000 in
set_option maxRecDepth 20000 in
theorem e_X1_product_j38 {l : Launch} {d : Nat} (hd : 7 ≤ d) (rc_X1_part : Int32 → ST → Option (ST)) (h_X1_part : ∀ (p0 : Int32) (s : ST) (r : ST), rc_X1_part p0 s = some r → Cl l (d - 1) mi_X1_part [.ref 5, .int p0] (hp s) (none, hp r)) (k7 : Int32 → Int32 → ST → Option (ST)) (hk7 : ∀ (x1 : Int32) (x2 : Int32) (s : ST) (r : ST), k7 x1 x2 s = some r → Ev l d mi_X1_product 7 [some (.ref 5), some (.int x1), some (.int x2), none] [] (hp s) 0 0 (none, hp r)) (x1 : Int32) (x2 : Int32) (s : ST) (r : ST) (hf : f_X1_product_j38 rc_X1_part k7 x1 x2 s = some r) : Ev l d mi_X1_product 38 [some (.ref 5), some (.int x1), some (.int x2), none] [] (hp s) 0 0 (none, hp r) := by
  unfold f_X1_product_j38 at hf
  refine Ev.blk (pc' := 44) [(.aload_n 0, 0, 0, 0), (.getfield 19, 0, 1, 0), (.bipush 42, 0, 0, 0)] (by decide +kernel) ⟨kf_1_19, trivial⟩ rfl (And.intro (kc rfl rfl) (Exists.intro 3 (And.intro rfl (?_))))
  show Ev l d mi_X1_product 44 [some (.ref 5), some (.int x1), some (.int x2), none] [.int ((Int8.ofInt 42).toInt32), .ref 3] (hp s) 0 0 _
  obtain ⟨q7, hq7, hf⟩ := bd_some hf
  refine Ev.callV (o := 3) (M' := mi_X5_isSign) (d' := d - 1) (As := [.int ((Int8.ofInt 42).toInt32)]) (rest := []) (r' := (some (.int q7.1), hp q7.2)) (e_X5_isSign (d := d - 1) (by omega) ((Int8.ofInt 42).toInt32) s _ hq7) (by omega) wm_X5_isSign wi_X5_isSign wv_X5_isSign km_1_36 (kc rfl rfl) (Nat.le_of_ble_eq_true rfl) rfl rfl rfl (Nat.le_of_ble_eq_true rfl) ⟨Nat.le_of_ble_eq_true rfl, Nat.le_of_ble_eq_true rfl⟩ (by decide +kernel) ?_
  show Ev l d mi_X1_product 47 [some (.ref 5), some (.int x1), some (.int x2), none] [.int q7.1] (hp q7.2) 0 0 _
  refine Ev.if_eq (off := 8) (tgt := 55) (by decide +kernel) (by decide) (fun b8 => ?_) (fun b8 => ?_)
  · have hf := (if_pos b8).symm.trans hf
    refine Ev.blk (pc' := 57) [(.bipush (-4), 0, 0, 0)] (by decide +kernel) trivial rfl (?_)
    show Ev l d mi_X1_product 57 [some (.ref 5), some (.int x1), some (.int x2), none] [.int ((Int8.ofInt (-4)).toInt32)] (hp q7.2) 0 0 _
    exact (e_X1_product_j57 hd rc_X1_part h_X1_part k7 hk7) x1 x2 ((Int8.ofInt (-4)).toInt32) q7.2 _ hf
  · have hf := (if_neg b8).symm.trans hf
    refine Ev.blk (pc' := 52) [(.bipush (-3), 0, 0, 0)] (by decide +kernel) trivial rfl (?_)
    show Ev l d mi_X1_product 52 [some (.ref 5), some (.int x1), some (.int x2), none] [.int ((Int8.ofInt (-3)).toInt32)] (hp q7.2) 0 0 _
    refine Ev.goto (off := 5) (tgt := 57) (by decide +kernel) (by decide) ?_
    exact (e_X1_product_j57 hd rc_X1_part h_X1_part k7 hk7) x1 x2 ((Int8.ofInt (-3)).toInt32) q7.2 _ hf
def f_X1_product_L7 (rc_X1_part : Int32 → ST → Option (ST)) : Nat → Int32 → Int32 → ST → Option (ST)
  | 0, _, _, _ => none
  | n + 1, x1, x2, s => (if ((Int16.ofInt 1600).toInt32) ≤ x2 then some s else (f_X5_isSign ((Int8.ofInt 42).toInt32) s).bind (fun q3 => (if q3.1 = 0 then (f_X5_isSign ((Int8.ofInt 47).toInt32) q3.2).bind (fun q5 => (if q5.1 = 0 then some q5.2 else (f_X1_product_j38 rc_X1_part (f_X1_product_L7 rc_X1_part n)) x1 x2 q5.2)) else (f_X1_product_j38 rc_X1_part (f_X1_product_L7 rc_X1_part n)) x1 x2 q3.2)))
set_option maxHeartbeats 2000000 in
set_option maxRecDepth 20000 in
theorem e_X1_product_L7 {l : Launch} {d : Nat} (hd : 7 ≤ d) (rc_X1_part : Int32 → ST → Option (ST)) (h_X1_part : ∀ (p0 : Int32) (s : ST) (r : ST), rc_X1_part p0 s = some r → Cl l (d - 1) mi_X1_part [.ref 5, .int p0] (hp s) (none, hp r)) : ∀ (n : Nat) (x1 : Int32) (x2 : Int32) (s : ST) (r : ST), f_X1_product_L7 rc_X1_part n x1 x2 s = some r → Ev l d mi_X1_product 7 [some (.ref 5), some (.int x1), some (.int x2), none] [] (hp s) 0 0 (none, hp r) := by
  intro n
  induction n with
  | zero =>
    intro x1 x2 s r hf
    cases hf
  | succ n ih =>
    intro x1 x2 s r hf
    unfold f_X1_product_L7 at hf
    refine Ev.blk (pc' := 11) [(.iload_n 2, 0, 0, 0), (.sipush 1600, 0, 0, 0)] (by decide +kernel) trivial rfl (?_)
    show Ev l d mi_X1_product 11 [some (.ref 5), some (.int x1), some (.int x2), none] [.int ((Int16.ofInt 1600).toInt32), .int x2] (hp s) 0 0 _
    refine Ev.icmp_ge (off := 70) (tgt := 81) (by decide +kernel) (by decide) (fun b2 => ?_) (fun b2 => ?_)
    · have hf := (if_pos b2).symm.trans hf
      cases hf
      exact Ev.vret rfl (by decide +kernel) (Nat.le_refl _) (Nat.le_refl _)
    · have hf := (if_neg b2).symm.trans hf
      refine Ev.blk (pc' := 20) [(.aload_n 0, 0, 0, 0), (.getfield 19, 0, 1, 0), (.bipush 42, 0, 0, 0)] (by decide +kernel) ⟨kf_1_19, trivial⟩ rfl (And.intro (kc rfl rfl) (Exists.intro 3 (And.intro rfl (?_))))
      show Ev l d mi_X1_product 20 [some (.ref 5), some (.int x1), some (.int x2), none] [.int ((Int8.ofInt 42).toInt32), .ref 3] (hp s) 0 0 _
      obtain ⟨q3, hq3, hf⟩ := bd_some hf
      refine Ev.callV (o := 3) (M' := mi_X5_isSign) (d' := d - 1) (As := [.int ((Int8.ofInt 42).toInt32)]) (rest := []) (r' := (some (.int q3.1), hp q3.2)) (e_X5_isSign (d := d - 1) (by omega) ((Int8.ofInt 42).toInt32) s _ hq3) (by omega) wm_X5_isSign wi_X5_isSign wv_X5_isSign km_1_36 (kc rfl rfl) (Nat.le_of_ble_eq_true rfl) rfl rfl rfl (Nat.le_of_ble_eq_true rfl) ⟨Nat.le_of_ble_eq_true rfl, Nat.le_of_ble_eq_true rfl⟩ (by decide +kernel) ?_
      show Ev l d mi_X1_product 23 [some (.ref 5), some (.int x1), some (.int x2), none] [.int q3.1] (hp q3.2) 0 0 _
      refine Ev.if_ne (off := 15) (tgt := 38) (by decide +kernel) (by decide) (fun b4 => ?_) (fun b4 => ?_)
      · have hf := (if_neg b4).symm.trans hf
        exact (e_X1_product_j38 hd rc_X1_part h_X1_part (f_X1_product_L7 rc_X1_part n) ih) x1 x2 q3.2 _ hf
      · have hf := (if_pos b4).symm.trans hf
        refine Ev.blk (pc' := 32) [(.aload_n 0, 0, 0, 0), (.getfield 19, 0, 1, 0), (.bipush 47, 0, 0, 0)] (by decide +kernel) ⟨kf_1_19, trivial⟩ rfl (And.intro (kc rfl rfl) (Exists.intro 3 (And.intro rfl (?_))))
        show Ev l d mi_X1_product 32 [some (.ref 5), some (.int x1), some (.int x2), none] [.int ((Int8.ofInt 47).toInt32), .ref 3] (hp q3.2) 0 0 _
        obtain ⟨q5, hq5, hf⟩ := bd_some hf
        refine Ev.callV (o := 3) (M' := mi_X5_isSign) (d' := d - 1) (As := [.int ((Int8.ofInt 47).toInt32)]) (rest := []) (r' := (some (.int q5.1), hp q5.2)) (e_X5_isSign (d := d - 1) (by omega) ((Int8.ofInt 47).toInt32) q3.2 _ hq5) (by omega) wm_X5_isSign wi_X5_isSign wv_X5_isSign km_1_36 (kc rfl rfl) (Nat.le_of_ble_eq_true rfl) rfl rfl rfl (Nat.le_of_ble_eq_true rfl) ⟨Nat.le_of_ble_eq_true rfl, Nat.le_of_ble_eq_true rfl⟩ (by decide +kernel) ?_
        show Ev l d mi_X1_product 35 [some (.ref 5), some (.int x1), some (.int x2), none] [.int q5.1] (hp q5.2) 0 0 _
        refine Ev.if_eq (off := 46) (tgt := 81) (by decide +kernel) (by decide) (fun b6 => ?_) (fun b6 => ?_)
        · have hf := (if_pos b6).symm.trans hf
          cases hf
          exact Ev.vret rfl (by decide +kernel) (Nat.le_refl _) (Nat.le_refl _)
        · have hf := (if_neg b6).symm.trans hf
          exact (e_X1_product_j38 hd rc_X1_part h_X1_part (f_X1_product_L7 rc_X1_part n) ih) x1 x2 q5.2 _ hf
def f_X1_product (rc_X1_part : Int32 → ST → Option (ST)) (p0 : Int32) (s : ST) : Option (ST) := (rc_X1_part p0 s).bind (fun q1 => (f_X1_product_L7 rc_X1_part fuel) p0 (Int32.ofInt 0) q1)
set_option maxHeartbeats 2000000 in
set_option maxRecDepth 20000 in
theorem e_X1_product {l : Launch} {d : Nat} (hd : 7 ≤ d) (rc_X1_part : Int32 → ST → Option (ST)) (h_X1_part : ∀ (p0 : Int32) (s : ST) (r : ST), rc_X1_part p0 s = some r → Cl l (d - 1) mi_X1_part [.ref 5, .int p0] (hp s) (none, hp r)) (p0 : Int32) (s : ST) (r : ST) (hf : f_X1_product rc_X1_part p0 s = some r) : Cl l d mi_X1_product [.ref 5, .int p0] (hp s) (none, hp r) := by
  refine Ev.entry (by decide +kernel) rfl rfl ?_
  show Ev l d mi_X1_product 0 [some (.ref 5), some (.int p0), none, none] [] (hp s) 0 0 _
  unfold f_X1_product at hf
  refine Ev.blk (pc' := 2) [(.aload_n 0, 0, 0, 0), (.iload_n 1, 0, 0, 0)] (by decide +kernel) trivial rfl (?_)
  show Ev l d mi_X1_product 2 [some (.ref 5), some (.int p0), none, none] [.int p0, .ref 5] (hp s) 0 0 _
  obtain ⟨q1, hq1, hf⟩ := bd_some hf
  refine Ev.callV (o := 5) (M' := mi_X1_part) (d' := d - 1) (As := [.int p0]) (rest := []) (r' := (none, hp q1)) (h_X1_part p0 s _ hq1) (by omega) wm_X1_part wi_X1_part wv_X1_part km_1_46 (kc rfl rfl) (Nat.le_of_ble_eq_true rfl) rfl rfl rfl (Nat.le_of_ble_eq_true rfl) ⟨Nat.le_of_ble_eq_true rfl, Nat.le_of_ble_eq_true rfl⟩ (by decide +kernel) ?_
  show Ev l d mi_X1_product 5 [some (.ref 5), some (.int p0), none, none] [] (hp q1) 0 0 _
  refine Ev.blk (pc' := 7) [(.iconst 0, 0, 0, 0), (.istore_n 2, 0, 0, 0)] (by decide +kernel) trivial rfl (And.intro (Nat.le_of_ble_eq_true rfl) (?_))
  show Ev l d mi_X1_product 7 [some (.ref 5), some (.int p0), some (.int (Int32.ofInt 0)), none] [] (hp q1) 0 0 _
  exact (e_X1_product_L7 hd rc_X1_part h_X1_part fuel) p0 (Int32.ofInt 0) q1 _ hf
def f_X1_sum_j56 (rc_X1_product : Int32 → ST → Option (ST)) (k7 : Int32 → Int32 → ST → Option (ST)) (x1 : Int32) (x2 : Int32) (y0 : Int32) (s : ST) : Option (ST) := (f_X5_step s).bind (fun q9 => (rc_X1_product x1 q9).bind (fun q10 => (f_X1_put y0 q10).bind (fun q11 => k7 x1 (x2 + Int32.ofInt 1) q11)))
set_option maxHeartbeats 2000000 in
set_option maxRecDepth 20000 in
theorem e_X1_sum_j56 {l : Launch} {d : Nat} (hd : 7 ≤ d) (rc_X1_product : Int32 → ST → Option (ST)) (h_X1_product : ∀ (p0 : Int32) (s : ST) (r : ST), rc_X1_product p0 s = some r → Cl l (d - 1) mi_X1_product [.ref 5, .int p0] (hp s) (none, hp r)) (k7 : Int32 → Int32 → ST → Option (ST)) (hk7 : ∀ (x1 : Int32) (x2 : Int32) (s : ST) (r : ST), k7 x1 x2 s = some r → Ev l d mi_X1_sum 7 [some (.ref 5), some (.int x1), some (.int x2), none] [] (hp s) 0 0 (none, hp r)) (x1 : Int32) (x2 : Int32) (y0 : Int32) (s : ST) (r : ST) (hf : f_X1_sum_j56 rc_X1_product k7 x1 x2 y0 s = some r) : Ev l d mi_X1_sum 56 [some (.ref 5), some (.int x1), some (.int x2), none] [.int y0] (hp s) 0 0 (none, hp r) := by
  unfold f_X1_sum_j56 at hf
  refine Ev.blk (pc' := 61) [(.istore_n 3, 0, 0, 0), (.aload_n 0, 0, 0, 0), (.getfield 19, 0, 1, 0)] (by decide +kernel) ⟨kf_1_19, trivial⟩ rfl (And.intro (Nat.le_of_ble_eq_true rfl) (And.intro (kc rfl rfl) (Exists.intro 3 (And.intro rfl (?_)))))
  show Ev l d mi_X1_sum 61 [some (.ref 5), some (.int x1), some (.int x2), some (.int y0)] [.ref 3] (hp s) 0 0 _
  obtain ⟨q9, hq9, hf⟩ := bd_some hf
  refine Ev.callV (o := 3) (M' := mi_X5_step) (d' := d - 1) (As := []) (rest := []) (r' := (none, hp q9)) (e_X5_step (d := d - 1) (by omega) s _ hq9) (by omega) wm_X5_step wi_X5_step wv_X5_step km_1_42 (kc rfl rfl) (Nat.le_of_ble_eq_true rfl) rfl rfl rfl (Nat.le_of_ble_eq_true rfl) ⟨Nat.le_of_ble_eq_true rfl, Nat.le_of_ble_eq_true rfl⟩ (by decide +kernel) ?_
  show Ev l d mi_X1_sum 64 [some (.ref 5), some (.int x1), some (.int x2), some (.int y0)] [] (hp q9) 0 0 _
  refine Ev.blk (pc' := 66) [(.aload_n 0, 0, 0, 0), (.iload_n 1, 0, 0, 0)] (by decide +kernel) trivial rfl (?_)
  show Ev l d mi_X1_sum 66 [some (.ref 5), some (.int x1), some (.int x2), some (.int y0)] [.int x1, .ref 5] (hp q9) 0 0 _
  obtain ⟨q10, hq10, hf⟩ := bd_some hf
  refine Ev.callV (o := 5) (M' := mi_X1_product) (d' := d - 1) (As := [.int x1]) (rest := []) (r' := (none, hp q10)) (h_X1_product x1 q9 _ hq10) (by omega) wm_X1_product wi_X1_product wv_X1_product km_1_33 (kc rfl rfl) (Nat.le_of_ble_eq_true rfl) rfl rfl rfl (Nat.le_of_ble_eq_true rfl) ⟨Nat.le_of_ble_eq_true rfl, Nat.le_of_ble_eq_true rfl⟩ (by decide +kernel) ?_
  show Ev l d mi_X1_sum 69 [some (.ref 5), some (.int x1), some (.int x2), some (.int y0)] [] (hp q10) 0 0 _
  refine Ev.blk (pc' := 71) [(.aload_n 0, 0, 0, 0), (.iload_n 3, 0, 0, 0)] (by decide +kernel) trivial rfl (?_)
  show Ev l d mi_X1_sum 71 [some (.ref 5), some (.int x1), some (.int x2), some (.int y0)] [.int y0, .ref 5] (hp q10) 0 0 _
  obtain ⟨q11, hq11, hf⟩ := bd_some hf
  refine Ev.callV (o := 5) (M' := mi_X1_put) (d' := d - 1) (As := [.int y0]) (rest := []) (r' := (none, hp q11)) (e_X1_put (d := d - 1) (by omega) y0 q10 _ hq11) (by omega) wm_X1_put wi_X1_put wv_X1_put km_1_45 (kc rfl rfl) (Nat.le_of_ble_eq_true rfl) rfl rfl rfl (Nat.le_of_ble_eq_true rfl) ⟨Nat.le_of_ble_eq_true rfl, Nat.le_of_ble_eq_true rfl⟩ (by decide +kernel) ?_
  show Ev l d mi_X1_sum 74 [some (.ref 5), some (.int x1), some (.int x2), some (.int y0)] [] (hp q11) 0 0 _
  refine Ev.blk (pc' := 77) [(.iinc 2 1, 0, 0, 0)] (by decide +kernel) trivial rfl (And.intro (Nat.le_of_ble_eq_true rfl) (?_))
  show Ev l d mi_X1_sum 77 [some (.ref 5), some (.int x1), some (.int (x2 + Int32.ofInt 1)), some (.int y0)] [] (hp q11) 0 0 _
  refine Ev.goto (off := -70) (tgt := 7) (by decide +kernel) (by decide) ?_
  exact Ev.wk (hk7 x1 (x2 + Int32.ofInt 1) q11 _ hf) (And.intro (Or.inr rfl) (And.intro (Or.inr rfl) (And.intro (Or.inr rfl) (And.intro (Or.inl rfl) (trivial)))))
def f_X1_sum_j38 (rc_X1_product : Int32 → ST → Option (ST)) (k7 : Int32 → Int32 → ST → Option (ST)) (x1 : Int32) (x2 : Int32) (s : ST) : Option (ST) := (f_X5_isSign ((Int8.ofInt 43).toInt32) s).bind (fun q7 => (if q7.1 = 0 then (f_X1_sum_j56 rc_X1_product k7) x1 x2 ((Int8.ofInt (-2)).toInt32) q7.2 else (f_X1_sum_j56 rc_X1_product k7) x1 x2 (Int32.ofInt (-1)) q7.2))
set_option maxHeartbeats 2000000 in
set_option maxRecDepth 20000 in
theorem e_X1_sum_j38 {l : Launch} {d : Nat} (hd : 7 ≤ d) (rc_X1_product : Int32 → ST → Option (ST)) (h_X1_product : ∀ (p0 : Int32) (s : ST) (r : ST), rc_X1_product p0 s = some r → Cl l (d - 1) mi_X1_product [.ref 5, .int p0] (hp s) (none, hp r)) (k7 : Int32 → Int32 → ST → Option (ST)) (hk7 : ∀ (x1 : Int32) (x2 : Int32) (s : ST) (r : ST), k7 x1 x2 s = some r → Ev l d mi_X1_sum 7 [some (.ref 5), some (.int x1), some (.int x2), none] [] (hp s) 0 0 (none, hp r)) (x1 : Int32) (x2 : Int32) (s : ST) (r : ST) (hf : f_X1_sum_j38 rc_X1_product k7 x1 x2 s = some r) : Ev l d mi_X1_sum 38 [some (.ref 5), some (.int x1), some (.int x2), none] [] (hp s) 0 0 (none, hp r) := by
  unfold f_X1_sum_j38 at hf
  refine Ev.blk (pc' := 44) [(.aload_n 0, 0, 0, 0), (.getfield 19, 0, 1, 0), (.bipush 43, 0, 0, 0)] (by decide +kernel) ⟨kf_1_19, trivial⟩ rfl (And.intro (kc rfl rfl) (Exists.intro 3 (And.intro rfl (?_))))
  show Ev l d mi_X1_sum 44 [some (.ref 5), some (.int x1), some (.int x2), none] [.int ((Int8.ofInt 43).toInt32), .ref 3] (hp s) 0 0 _
  obtain ⟨q7, hq7, hf⟩ := bd_some hf
  refine Ev.callV (o := 3) (M' := mi_X5_isSign) (d' := d - 1) (As := [.int ((Int8.ofInt 43).toInt32)]) (rest := []) (r' := (some (.int q7.1), hp q7.2)) (e_X5_isSign (d := d - 1) (by omega) ((Int8.ofInt 43).toInt32) s _ hq7) (by omega) wm_X5_isSign wi_X5_isSign wv_X5_isSign km_1_36 (kc rfl rfl) (Nat.le_of_ble_eq_true rfl) rfl rfl rfl (Nat.le_of_ble_eq_true rfl) ⟨Nat.le_of_ble_eq_true rfl, Nat.le_of_ble_eq_true rfl⟩ (by decide +kernel) ?_
  show Ev l d mi_X1_sum 47 [some (.ref 5), some (.int x1), some (.int x2), none] [.int q7.1] (hp q7.2) 0 0 _
  refine Ev.if_eq (off := 7) (tgt := 54) (by decide +kernel) (by decide) (fun b8 => ?_) (fun b8 => ?_)
  · have hf := (if_pos b8).symm.trans hf
    refine Ev.blk (pc' := 56) [(.bipush (-2), 0, 0, 0)] (by decide +kernel) trivial rfl (?_)
    show Ev l d mi_X1_sum 56 [some (.ref 5), some (.int x1), some (.int x2), none] [.int ((Int8.ofInt (-2)).toInt32)] (hp q7.2) 0 0 _
    exact (e_X1_sum_j56 hd rc_X1_product h_X1_product k7 hk7) x1 x2 ((Int8.ofInt (-2)).toInt32) q7.2 _ hf
  · have hf := (if_neg b8).symm.trans hf
    refine Ev.blk (pc' := 51) [(.iconst (-1), 0, 0, 0)] (by decide +kernel) trivial rfl (?_)
    show Ev l d mi_X1_sum 51 [some (.ref 5), some (.int x1), some (.int x2), none] [.int (Int32.ofInt (-1))] (hp q7.2) 0 0 _
    refine Ev.goto (off := 5) (tgt := 56) (by decide +kernel) (by decide) ?_
    exact (e_X1_sum_j56 hd rc_X1_product h_X1_product k7 hk7) x1 x2 (Int32.ofInt (-1)) q7.2 _ hf
def f_X1_sum_L7 (rc_X1_product : Int32 → ST → Option (ST)) : Nat → Int32 → Int32 → ST → Option (ST)
  | 0, _, _, _ => none
  | n + 1, x1, x2, s => (if ((Int16.ofInt 1600).toInt32) ≤ x2 then some s else (f_X5_isSign ((Int8.ofInt 43).toInt32) s).bind (fun q3 => (if q3.1 = 0 then (f_X5_isSign ((Int8.ofInt 45).toInt32) q3.2).bind (fun q5 => (if q5.1 = 0 then some q5.2 else (f_X1_sum_j38 rc_X1_product (f_X1_sum_L7 rc_X1_product n)) x1 x2 q5.2)) else (f_X1_sum_j38 rc_X1_product (f_X1_sum_L7 rc_X1_product n)) x1 x2 q3.2)))
set_option maxHeartbeats 2000000 in
set_option maxRecDepth 20000 in
theorem e_X1_sum_L7 {l : Launch} {d : Nat} (hd : 7 ≤ d) (rc_X1_product : Int32 → ST → Option (ST)) (h_X1_product : ∀ (p0 : Int32) (s : ST) (r : ST), rc_X1_product p0 s = some r → Cl l (d - 1) mi_X1_product [.ref 5, .int p0] (hp s) (none, hp r)) : ∀ (n : Nat) (x1 : Int32) (x2 : Int32) (s : ST) (r : ST), f_X1_sum_L7 rc_X1_product n x1 x2 s = some r → Ev l d mi_X1_sum 7 [some (.ref 5), some (.int x1), some (.int x2), none] [] (hp s) 0 0 (none, hp r) := by
  intro n
  induction n with
  | zero =>
    intro x1 x2 s r hf
    cases hf
  | succ n ih =>
    intro x1 x2 s r hf
    unfold f_X1_sum_L7 at hf
    refine Ev.blk (pc' := 11) [(.iload_n 2, 0, 0, 0), (.sipush 1600, 0, 0, 0)] (by decide +kernel) trivial rfl (?_)
    show Ev l d mi_X1_sum 11 [some (.ref 5), some (.int x1), some (.int x2), none] [.int ((Int16.ofInt 1600).toInt32), .int x2] (hp s) 0 0 _
    refine Ev.icmp_ge (off := 69) (tgt := 80) (by decide +kernel) (by decide) (fun b2 => ?_) (fun b2 => ?_)
    · have hf := (if_pos b2).symm.trans hf
      cases hf
      exact Ev.vret rfl (by decide +kernel) (Nat.le_refl _) (Nat.le_refl _)
    · have hf := (if_neg b2).symm.trans hf
      refine Ev.blk (pc' := 20) [(.aload_n 0, 0, 0, 0), (.getfield 19, 0, 1, 0), (.bipush 43, 0, 0, 0)] (by decide +kernel) ⟨kf_1_19, trivial⟩ rfl (And.intro (kc rfl rfl) (Exists.intro 3 (And.intro rfl (?_))))
      show Ev l d mi_X1_sum 20 [some (.ref 5), some (.int x1), some (.int x2), none] [.int ((Int8.ofInt 43).toInt32), .ref 3] (hp s) 0 0 _
      obtain ⟨q3, hq3, hf⟩ := bd_some hf
      refine Ev.callV (o := 3) (M' := mi_X5_isSign) (d' := d - 1) (As := [.int ((Int8.ofInt 43).toInt32)]) (rest := []) (r' := (some (.int q3.1), hp q3.2)) (e_X5_isSign (d := d - 1) (by omega) ((Int8.ofInt 43).toInt32) s _ hq3) (by omega) wm_X5_isSign wi_X5_isSign wv_X5_isSign km_1_36 (kc rfl rfl) (Nat.le_of_ble_eq_true rfl) rfl rfl rfl (Nat.le_of_ble_eq_true rfl) ⟨Nat.le_of_ble_eq_true rfl, Nat.le_of_ble_eq_true rfl⟩ (by decide +kernel) ?_
      show Ev l d mi_X1_sum 23 [some (.ref 5), some (.int x1), some (.int x2), none] [.int q3.1] (hp q3.2) 0 0 _
      refine Ev.if_ne (off := 15) (tgt := 38) (by decide +kernel) (by decide) (fun b4 => ?_) (fun b4 => ?_)
      · have hf := (if_neg b4).symm.trans hf
        exact (e_X1_sum_j38 hd rc_X1_product h_X1_product (f_X1_sum_L7 rc_X1_product n) ih) x1 x2 q3.2 _ hf
      · have hf := (if_pos b4).symm.trans hf
        refine Ev.blk (pc' := 32) [(.aload_n 0, 0, 0, 0), (.getfield 19, 0, 1, 0), (.bipush 45, 0, 0, 0)] (by decide +kernel) ⟨kf_1_19, trivial⟩ rfl (And.intro (kc rfl rfl) (Exists.intro 3 (And.intro rfl (?_))))
        show Ev l d mi_X1_sum 32 [some (.ref 5), some (.int x1), some (.int x2), none] [.int ((Int8.ofInt 45).toInt32), .ref 3] (hp q3.2) 0 0 _
        obtain ⟨q5, hq5, hf⟩ := bd_some hf
        refine Ev.callV (o := 3) (M' := mi_X5_isSign) (d' := d - 1) (As := [.int ((Int8.ofInt 45).toInt32)]) (rest := []) (r' := (some (.int q5.1), hp q5.2)) (e_X5_isSign (d := d - 1) (by omega) ((Int8.ofInt 45).toInt32) q3.2 _ hq5) (by omega) wm_X5_isSign wi_X5_isSign wv_X5_isSign km_1_36 (kc rfl rfl) (Nat.le_of_ble_eq_true rfl) rfl rfl rfl (Nat.le_of_ble_eq_true rfl) ⟨Nat.le_of_ble_eq_true rfl, Nat.le_of_ble_eq_true rfl⟩ (by decide +kernel) ?_
        show Ev l d mi_X1_sum 35 [some (.ref 5), some (.int x1), some (.int x2), none] [.int q5.1] (hp q5.2) 0 0 _
        refine Ev.if_eq (off := 45) (tgt := 80) (by decide +kernel) (by decide) (fun b6 => ?_) (fun b6 => ?_)
        · have hf := (if_pos b6).symm.trans hf
          cases hf
          exact Ev.vret rfl (by decide +kernel) (Nat.le_refl _) (Nat.le_refl _)
        · have hf := (if_neg b6).symm.trans hf
          exact (e_X1_sum_j38 hd rc_X1_product h_X1_product (f_X1_sum_L7 rc_X1_product n) ih) x1 x2 q5.2 _ hf
def f_X1_sum (rc_X1_product : Int32 → ST → Option (ST)) (p0 : Int32) (s : ST) : Option (ST) := (rc_X1_product p0 s).bind (fun q1 => (f_X1_sum_L7 rc_X1_product fuel) p0 (Int32.ofInt 0) q1)
set_option maxHeartbeats 2000000 in
set_option maxRecDepth 20000 in
theorem e_X1_sum {l : Launch} {d : Nat} (hd : 7 ≤ d) (rc_X1_product : Int32 → ST → Option (ST)) (h_X1_product : ∀ (p0 : Int32) (s : ST) (r : ST), rc_X1_product p0 s = some r → Cl l (d - 1) mi_X1_product [.ref 5, .int p0] (hp s) (none, hp r)) (p0 : Int32) (s : ST) (r : ST) (hf : f_X1_sum rc_X1_product p0 s = some r) : Cl l d mi_X1_sum [.ref 5, .int p0] (hp s) (none, hp r) := by
  refine Ev.entry (by decide +kernel) rfl rfl ?_
  show Ev l d mi_X1_sum 0 [some (.ref 5), some (.int p0), none, none] [] (hp s) 0 0 _
  unfold f_X1_sum at hf
  refine Ev.blk (pc' := 2) [(.aload_n 0, 0, 0, 0), (.iload_n 1, 0, 0, 0)] (by decide +kernel) trivial rfl (?_)
  show Ev l d mi_X1_sum 2 [some (.ref 5), some (.int p0), none, none] [.int p0, .ref 5] (hp s) 0 0 _
  obtain ⟨q1, hq1, hf⟩ := bd_some hf
  refine Ev.callV (o := 5) (M' := mi_X1_product) (d' := d - 1) (As := [.int p0]) (rest := []) (r' := (none, hp q1)) (h_X1_product p0 s _ hq1) (by omega) wm_X1_product wi_X1_product wv_X1_product km_1_33 (kc rfl rfl) (Nat.le_of_ble_eq_true rfl) rfl rfl rfl (Nat.le_of_ble_eq_true rfl) ⟨Nat.le_of_ble_eq_true rfl, Nat.le_of_ble_eq_true rfl⟩ (by decide +kernel) ?_
  show Ev l d mi_X1_sum 5 [some (.ref 5), some (.int p0), none, none] [] (hp q1) 0 0 _
  refine Ev.blk (pc' := 7) [(.iconst 0, 0, 0, 0), (.istore_n 2, 0, 0, 0)] (by decide +kernel) trivial rfl (And.intro (Nat.le_of_ble_eq_true rfl) (?_))
  show Ev l d mi_X1_sum 7 [some (.ref 5), some (.int p0), some (.int (Int32.ofInt 0)), none] [] (hp q1) 0 0 _
  exact (e_X1_sum_L7 hd rc_X1_product h_X1_product fuel) p0 (Int32.ofInt 0) q1 _ hf
def t2_part : Nat → Int32 → ST → Option ST
  | 0, _, _ => none
  | n + 1, a, s => f_X1_part (f_X1_sum (f_X1_product (t2_part n))) (f_X1_pair (f_X1_sum (f_X1_product (t2_part n)))) (t2_part n) a s
theorem te2_sumOf {l : Launch} {d : Nat} {n : Nat} (hd : 12 ≤ d) (ih : ∀ (a : Int32) (s : ST) (r : ST), t2_part n a s = some r → Cl l (d - 1 - 1) mi_X1_part [.ref 5, .int a] (hp s) (none, hp r)) (a : Int32) (s : ST) (r : ST) (h : f_X1_sum (f_X1_product (t2_part n)) a s = some r) : Cl l d mi_X1_sum [.ref 5, .int a] (hp s) (none, hp r) :=
  e_X1_sum (by omega) (f_X1_product (t2_part n)) (fun p0 s r h => e_X1_product (d := d - 1) (by omega) (t2_part n) ih p0 s r h) a s r h
theorem te2_part {l : Launch} : ∀ (n d : Nat), 12 + 4 * n ≤ d → ∀ (a : Int32) (s : ST) (r : ST), t2_part n a s = some r → Cl l d mi_X1_part [.ref 5, .int a] (hp s) (none, hp r) := by
  intro n
  induction n with
  | zero =>
    intro d hd a s r hf
    cases hf
  | succ n ih =>
    intro d hd a s r hf
    exact e_X1_part (by omega) (f_X1_sum (f_X1_product (t2_part n))) (fun p0 s r h => te2_sumOf (d := d - 1) (by omega) (fun a s r h => ih _ (by omega) a s r h) p0 s r h) (f_X1_pair (f_X1_sum (f_X1_product (t2_part n)))) (fun p0 p1 s r h => e_X1_pair (d := d - 1) (by omega) (f_X1_sum (f_X1_product (t2_part n))) (fun p0 s r h => te2_sumOf (d := d - 1 - 1) (by omega) (fun a s r h => ih _ (by omega) a s r h) p0 s r h) p0 p1 s r h) (t2_part n) (fun p0 s r h => ih (d - 1) (by omega) p0 s r h) a s r hf
def t_X1_sum (a : Int32) (s : ST) : Option ST := f_X1_sum (f_X1_product (t2_part 12)) a s
theorem te_X1_sum {l : Launch} {d : Nat} (hd : 67 ≤ d) (a : Int32) (s : ST) (r : ST) (hf : t_X1_sum a s = some r) : Cl l d mi_X1_sum [.ref 5, .int a] (hp s) (none, hp r) := te2_sumOf (by omega) (fun a s r h => te2_part 12 _ (by omega) a s r h) a s r hf
def f_X1_comparing (s : ST) : Option (Int32 × ST) := (f_X5_isSign ((Int8.ofInt 60).toInt32) s).bind (fun q1 => (if q1.1 = 0 then (f_X5_isSign ((Int8.ofInt 62).toInt32) q1.2).bind (fun q3 => (if q3.1 = 0 then (f_X5_isSign ((Int8.ofInt 61).toInt32) q3.2).bind (fun q5 => (if q5.1 = 0 then (f_X5_failForm q5.2).bind (fun q7 => some (((Int8.ofInt (-9)).toInt32), q7)) else some (((Int8.ofInt (-9)).toInt32), q5.2))) else some (((Int8.ofInt (-8)).toInt32), q3.2))) else some (((Int8.ofInt (-7)).toInt32), q1.2)))
set_option maxHeartbeats 2000000 in
set_option maxRecDepth 20000 in
theorem e_X1_comparing {l : Launch} {d : Nat} (hd : 3 ≤ d) (s : ST) (r : Int32 × ST) (hf : f_X1_comparing s = some r) : Cl l d mi_X1_comparing [.ref 5] (hp s) (some (.int r.1), hp r.2) := by
  refine Ev.entry (by decide +kernel) rfl rfl ?_
  show Ev l d mi_X1_comparing 0 [some (.ref 5)] [] (hp s) 0 0 _
  unfold f_X1_comparing at hf
  refine Ev.blk (pc' := 6) [(.aload_n 0, 0, 0, 0), (.getfield 19, 0, 1, 0), (.bipush 60, 0, 0, 0)] (by decide +kernel) ⟨kf_1_19, trivial⟩ rfl (And.intro (kc rfl rfl) (Exists.intro 3 (And.intro rfl (?_))))
  show Ev l d mi_X1_comparing 6 [some (.ref 5)] [.int ((Int8.ofInt 60).toInt32), .ref 3] (hp s) 0 0 _
  obtain ⟨q1, hq1, hf⟩ := bd_some hf
  refine Ev.callV (o := 3) (M' := mi_X5_isSign) (d' := d - 1) (As := [.int ((Int8.ofInt 60).toInt32)]) (rest := []) (r' := (some (.int q1.1), hp q1.2)) (e_X5_isSign (d := d - 1) (by omega) ((Int8.ofInt 60).toInt32) s _ hq1) (by omega) wm_X5_isSign wi_X5_isSign wv_X5_isSign km_1_36 (kc rfl rfl) (Nat.le_of_ble_eq_true rfl) rfl rfl rfl (Nat.le_of_ble_eq_true rfl) ⟨Nat.le_of_ble_eq_true rfl, Nat.le_of_ble_eq_true rfl⟩ (by decide +kernel) ?_
  show Ev l d mi_X1_comparing 9 [some (.ref 5)] [.int q1.1] (hp q1.2) 0 0 _
  refine Ev.if_eq (off := 6) (tgt := 15) (by decide +kernel) (by decide) (fun b2 => ?_) (fun b2 => ?_)
  · have hf := (if_pos b2).symm.trans hf
    refine Ev.blk (pc' := 21) [(.aload_n 0, 0, 0, 0), (.getfield 19, 0, 1, 0), (.bipush 62, 0, 0, 0)] (by decide +kernel) ⟨kf_1_19, trivial⟩ rfl (And.intro (kc rfl rfl) (Exists.intro 3 (And.intro rfl (?_))))
    show Ev l d mi_X1_comparing 21 [some (.ref 5)] [.int ((Int8.ofInt 62).toInt32), .ref 3] (hp q1.2) 0 0 _
    obtain ⟨q3, hq3, hf⟩ := bd_some hf
    refine Ev.callV (o := 3) (M' := mi_X5_isSign) (d' := d - 1) (As := [.int ((Int8.ofInt 62).toInt32)]) (rest := []) (r' := (some (.int q3.1), hp q3.2)) (e_X5_isSign (d := d - 1) (by omega) ((Int8.ofInt 62).toInt32) q1.2 _ hq3) (by omega) wm_X5_isSign wi_X5_isSign wv_X5_isSign km_1_36 (kc rfl rfl) (Nat.le_of_ble_eq_true rfl) rfl rfl rfl (Nat.le_of_ble_eq_true rfl) ⟨Nat.le_of_ble_eq_true rfl, Nat.le_of_ble_eq_true rfl⟩ (by decide +kernel) ?_
    show Ev l d mi_X1_comparing 24 [some (.ref 5)] [.int q3.1] (hp q3.2) 0 0 _
    refine Ev.if_eq (off := 6) (tgt := 30) (by decide +kernel) (by decide) (fun b4 => ?_) (fun b4 => ?_)
    · have hf := (if_pos b4).symm.trans hf
      refine Ev.blk (pc' := 36) [(.aload_n 0, 0, 0, 0), (.getfield 19, 0, 1, 0), (.bipush 61, 0, 0, 0)] (by decide +kernel) ⟨kf_1_19, trivial⟩ rfl (And.intro (kc rfl rfl) (Exists.intro 3 (And.intro rfl (?_))))
      show Ev l d mi_X1_comparing 36 [some (.ref 5)] [.int ((Int8.ofInt 61).toInt32), .ref 3] (hp q3.2) 0 0 _
      obtain ⟨q5, hq5, hf⟩ := bd_some hf
      refine Ev.callV (o := 3) (M' := mi_X5_isSign) (d' := d - 1) (As := [.int ((Int8.ofInt 61).toInt32)]) (rest := []) (r' := (some (.int q5.1), hp q5.2)) (e_X5_isSign (d := d - 1) (by omega) ((Int8.ofInt 61).toInt32) q3.2 _ hq5) (by omega) wm_X5_isSign wi_X5_isSign wv_X5_isSign km_1_36 (kc rfl rfl) (Nat.le_of_ble_eq_true rfl) rfl rfl rfl (Nat.le_of_ble_eq_true rfl) ⟨Nat.le_of_ble_eq_true rfl, Nat.le_of_ble_eq_true rfl⟩ (by decide +kernel) ?_
      show Ev l d mi_X1_comparing 39 [some (.ref 5)] [.int q5.1] (hp q5.2) 0 0 _
      refine Ev.if_ne (off := 10) (tgt := 49) (by decide +kernel) (by decide) (fun b6 => ?_) (fun b6 => ?_)
      · have hf := (if_neg b6).symm.trans hf
        refine Ev.blk (pc' := 51) [(.bipush (-9), 0, 0, 0)] (by decide +kernel) trivial rfl (?_)
        show Ev l d mi_X1_comparing 51 [some (.ref 5)] [.int ((Int8.ofInt (-9)).toInt32)] (hp q5.2) 0 0 _
        cases hf
        exact Ev.iret .int rfl rfl (by decide +kernel) (Nat.le_refl _) (Nat.le_refl _)
      · have hf := (if_pos b6).symm.trans hf
        refine Ev.blk (pc' := 46) [(.aload_n 0, 0, 0, 0), (.getfield 19, 0, 1, 0)] (by decide +kernel) ⟨kf_1_19, trivial⟩ rfl (And.intro (kc rfl rfl) (Exists.intro 3 (And.intro rfl (?_))))
        show Ev l d mi_X1_comparing 46 [some (.ref 5)] [.ref 3] (hp q5.2) 0 0 _
        obtain ⟨q7, hq7, hf⟩ := bd_some hf
        refine Ev.callV (o := 3) (M' := mi_X5_failForm) (d' := d - 1) (As := []) (rest := []) (r' := (none, hp q7)) (e_X5_failForm (d := d - 1) (by omega) q5.2 _ hq7) (by omega) wm_X5_failForm wi_X5_failForm wv_X5_failForm km_1_80 (kc rfl rfl) (Nat.le_of_ble_eq_true rfl) rfl rfl rfl (Nat.le_of_ble_eq_true rfl) ⟨Nat.le_of_ble_eq_true rfl, Nat.le_of_ble_eq_true rfl⟩ (by decide +kernel) ?_
        show Ev l d mi_X1_comparing 49 [some (.ref 5)] [] (hp q7) 0 0 _
        refine Ev.blk (pc' := 51) [(.bipush (-9), 0, 0, 0)] (by decide +kernel) trivial rfl (?_)
        show Ev l d mi_X1_comparing 51 [some (.ref 5)] [.int ((Int8.ofInt (-9)).toInt32)] (hp q7) 0 0 _
        cases hf
        exact Ev.iret .int rfl rfl (by decide +kernel) (Nat.le_refl _) (Nat.le_refl _)
    · have hf := (if_neg b4).symm.trans hf
      refine Ev.blk (pc' := 29) [(.bipush (-8), 0, 0, 0)] (by decide +kernel) trivial rfl (?_)
      show Ev l d mi_X1_comparing 29 [some (.ref 5)] [.int ((Int8.ofInt (-8)).toInt32)] (hp q3.2) 0 0 _
      cases hf
      exact Ev.iret .int rfl rfl (by decide +kernel) (Nat.le_refl _) (Nat.le_refl _)
  · have hf := (if_neg b2).symm.trans hf
    refine Ev.blk (pc' := 14) [(.bipush (-7), 0, 0, 0)] (by decide +kernel) trivial rfl (?_)
    show Ev l d mi_X1_comparing 14 [some (.ref 5)] [.int ((Int8.ofInt (-7)).toInt32)] (hp q1.2) 0 0 _
    cases hf
    exact Ev.iret .int rfl rfl (by decide +kernel) (Nat.le_refl _) (Nat.le_refl _)
def f_X1_both_L7 (rc_X1_truth : Int32 → ST → Option (ST)) : Nat → Int32 → Int32 → ST → Option (ST)
  | 0, _, _, _ => none
  | n + 1, x1, x2, s => (if ((Int16.ofInt 1600).toInt32) ≤ x2 then some s else (f_X5_isWord ((Int8.ofInt 28).toInt32) s).bind (fun q3 => (if q3.1 = 0 then some q3.2 else (f_X5_step q3.2).bind (fun q5 => (rc_X1_truth x1 q5).bind (fun q6 => (f_X1_put ((Int8.ofInt (-10)).toInt32) q6).bind (fun q7 => (f_X1_both_L7 rc_X1_truth n) x1 (x2 + Int32.ofInt 1) q7))))))
set_option maxHeartbeats 2000000 in
set_option maxRecDepth 20000 in
theorem e_X1_both_L7 {l : Launch} {d : Nat} (hd : 7 ≤ d) (rc_X1_truth : Int32 → ST → Option (ST)) (h_X1_truth : ∀ (p0 : Int32) (s : ST) (r : ST), rc_X1_truth p0 s = some r → Cl l (d - 1) mi_X1_truth [.ref 5, .int p0] (hp s) (none, hp r)) : ∀ (n : Nat) (x1 : Int32) (x2 : Int32) (s : ST) (r : ST), f_X1_both_L7 rc_X1_truth n x1 x2 s = some r → Ev l d mi_X1_both 7 [some (.ref 5), some (.int x1), some (.int x2)] [] (hp s) 0 0 (none, hp r) := by
  intro n
  induction n with
  | zero =>
    intro x1 x2 s r hf
    cases hf
  | succ n ih =>
    intro x1 x2 s r hf
    unfold f_X1_both_L7 at hf
    refine Ev.blk (pc' := 11) [(.iload_n 2, 0, 0, 0), (.sipush 1600, 0, 0, 0)] (by decide +kernel) trivial rfl (?_)
    show Ev l d mi_X1_both 11 [some (.ref 5), some (.int x1), some (.int x2)] [.int ((Int16.ofInt 1600).toInt32), .int x2] (hp s) 0 0 _
    refine Ev.icmp_ge (off := 39) (tgt := 50) (by decide +kernel) (by decide) (fun b2 => ?_) (fun b2 => ?_)
    · have hf := (if_pos b2).symm.trans hf
      cases hf
      exact Ev.vret rfl (by decide +kernel) (Nat.le_refl _) (Nat.le_refl _)
    · have hf := (if_neg b2).symm.trans hf
      refine Ev.blk (pc' := 20) [(.aload_n 0, 0, 0, 0), (.getfield 19, 0, 1, 0), (.bipush 28, 0, 0, 0)] (by decide +kernel) ⟨kf_1_19, trivial⟩ rfl (And.intro (kc rfl rfl) (Exists.intro 3 (And.intro rfl (?_))))
      show Ev l d mi_X1_both 20 [some (.ref 5), some (.int x1), some (.int x2)] [.int ((Int8.ofInt 28).toInt32), .ref 3] (hp s) 0 0 _
      obtain ⟨q3, hq3, hf⟩ := bd_some hf
      refine Ev.callV (o := 3) (M' := mi_X5_isWord) (d' := d - 1) (As := [.int ((Int8.ofInt 28).toInt32)]) (rest := []) (r' := (some (.int q3.1), hp q3.2)) (e_X5_isWord (d := d - 1) (by omega) ((Int8.ofInt 28).toInt32) s _ hq3) (by omega) wm_X5_isWord wi_X5_isWord wv_X5_isWord km_1_67 (kc rfl rfl) (Nat.le_of_ble_eq_true rfl) rfl rfl rfl (Nat.le_of_ble_eq_true rfl) ⟨Nat.le_of_ble_eq_true rfl, Nat.le_of_ble_eq_true rfl⟩ (by decide +kernel) ?_
      show Ev l d mi_X1_both 23 [some (.ref 5), some (.int x1), some (.int x2)] [.int q3.1] (hp q3.2) 0 0 _
      refine Ev.if_eq (off := 27) (tgt := 50) (by decide +kernel) (by decide) (fun b4 => ?_) (fun b4 => ?_)
      · have hf := (if_pos b4).symm.trans hf
        cases hf
        exact Ev.vret rfl (by decide +kernel) (Nat.le_refl _) (Nat.le_refl _)
      · have hf := (if_neg b4).symm.trans hf
        refine Ev.blk (pc' := 30) [(.aload_n 0, 0, 0, 0), (.getfield 19, 0, 1, 0)] (by decide +kernel) ⟨kf_1_19, trivial⟩ rfl (And.intro (kc rfl rfl) (Exists.intro 3 (And.intro rfl (?_))))
        show Ev l d mi_X1_both 30 [some (.ref 5), some (.int x1), some (.int x2)] [.ref 3] (hp q3.2) 0 0 _
        obtain ⟨q5, hq5, hf⟩ := bd_some hf
        refine Ev.callV (o := 3) (M' := mi_X5_step) (d' := d - 1) (As := []) (rest := []) (r' := (none, hp q5)) (e_X5_step (d := d - 1) (by omega) q3.2 _ hq5) (by omega) wm_X5_step wi_X5_step wv_X5_step km_1_42 (kc rfl rfl) (Nat.le_of_ble_eq_true rfl) rfl rfl rfl (Nat.le_of_ble_eq_true rfl) ⟨Nat.le_of_ble_eq_true rfl, Nat.le_of_ble_eq_true rfl⟩ (by decide +kernel) ?_
        show Ev l d mi_X1_both 33 [some (.ref 5), some (.int x1), some (.int x2)] [] (hp q5) 0 0 _
        refine Ev.blk (pc' := 35) [(.aload_n 0, 0, 0, 0), (.iload_n 1, 0, 0, 0)] (by decide +kernel) trivial rfl (?_)
        show Ev l d mi_X1_both 35 [some (.ref 5), some (.int x1), some (.int x2)] [.int x1, .ref 5] (hp q5) 0 0 _
        obtain ⟨q6, hq6, hf⟩ := bd_some hf
        refine Ev.callV (o := 5) (M' := mi_X1_truth) (d' := d - 1) (As := [.int x1]) (rest := []) (r' := (none, hp q6)) (h_X1_truth x1 q5 _ hq6) (by omega) wm_X1_truth wi_X1_truth wv_X1_truth km_1_92 (kc rfl rfl) (Nat.le_of_ble_eq_true rfl) rfl rfl rfl (Nat.le_of_ble_eq_true rfl) ⟨Nat.le_of_ble_eq_true rfl, Nat.le_of_ble_eq_true rfl⟩ (by decide +kernel) ?_
        show Ev l d mi_X1_both 38 [some (.ref 5), some (.int x1), some (.int x2)] [] (hp q6) 0 0 _
        refine Ev.blk (pc' := 41) [(.aload_n 0, 0, 0, 0), (.bipush (-10), 0, 0, 0)] (by decide +kernel) trivial rfl (?_)
        show Ev l d mi_X1_both 41 [some (.ref 5), some (.int x1), some (.int x2)] [.int ((Int8.ofInt (-10)).toInt32), .ref 5] (hp q6) 0 0 _
        obtain ⟨q7, hq7, hf⟩ := bd_some hf
        refine Ev.callV (o := 5) (M' := mi_X1_put) (d' := d - 1) (As := [.int ((Int8.ofInt (-10)).toInt32)]) (rest := []) (r' := (none, hp q7)) (e_X1_put (d := d - 1) (by omega) ((Int8.ofInt (-10)).toInt32) q6 _ hq7) (by omega) wm_X1_put wi_X1_put wv_X1_put km_1_45 (kc rfl rfl) (Nat.le_of_ble_eq_true rfl) rfl rfl rfl (Nat.le_of_ble_eq_true rfl) ⟨Nat.le_of_ble_eq_true rfl, Nat.le_of_ble_eq_true rfl⟩ (by decide +kernel) ?_
        show Ev l d mi_X1_both 44 [some (.ref 5), some (.int x1), some (.int x2)] [] (hp q7) 0 0 _
        refine Ev.blk (pc' := 47) [(.iinc 2 1, 0, 0, 0)] (by decide +kernel) trivial rfl (And.intro (Nat.le_of_ble_eq_true rfl) (?_))
        show Ev l d mi_X1_both 47 [some (.ref 5), some (.int x1), some (.int (x2 + Int32.ofInt 1))] [] (hp q7) 0 0 _
        refine Ev.goto (off := -40) (tgt := 7) (by decide +kernel) (by decide) ?_
        exact ih x1 (x2 + Int32.ofInt 1) q7 _ hf
def f_X1_both (rc_X1_truth : Int32 → ST → Option (ST)) (p0 : Int32) (s : ST) : Option (ST) := (rc_X1_truth p0 s).bind (fun q1 => (f_X1_both_L7 rc_X1_truth fuel) p0 (Int32.ofInt 0) q1)
set_option maxHeartbeats 2000000 in
set_option maxRecDepth 20000 in
theorem e_X1_both {l : Launch} {d : Nat} (hd : 7 ≤ d) (rc_X1_truth : Int32 → ST → Option (ST)) (h_X1_truth : ∀ (p0 : Int32) (s : ST) (r : ST), rc_X1_truth p0 s = some r → Cl l (d - 1) mi_X1_truth [.ref 5, .int p0] (hp s) (none, hp r)) (p0 : Int32) (s : ST) (r : ST) (hf : f_X1_both rc_X1_truth p0 s = some r) : Cl l d mi_X1_both [.ref 5, .int p0] (hp s) (none, hp r) := by
  refine Ev.entry (by decide +kernel) rfl rfl ?_
  show Ev l d mi_X1_both 0 [some (.ref 5), some (.int p0), none] [] (hp s) 0 0 _
  unfold f_X1_both at hf
  refine Ev.blk (pc' := 2) [(.aload_n 0, 0, 0, 0), (.iload_n 1, 0, 0, 0)] (by decide +kernel) trivial rfl (?_)
  show Ev l d mi_X1_both 2 [some (.ref 5), some (.int p0), none] [.int p0, .ref 5] (hp s) 0 0 _
  obtain ⟨q1, hq1, hf⟩ := bd_some hf
  refine Ev.callV (o := 5) (M' := mi_X1_truth) (d' := d - 1) (As := [.int p0]) (rest := []) (r' := (none, hp q1)) (h_X1_truth p0 s _ hq1) (by omega) wm_X1_truth wi_X1_truth wv_X1_truth km_1_92 (kc rfl rfl) (Nat.le_of_ble_eq_true rfl) rfl rfl rfl (Nat.le_of_ble_eq_true rfl) ⟨Nat.le_of_ble_eq_true rfl, Nat.le_of_ble_eq_true rfl⟩ (by decide +kernel) ?_
  show Ev l d mi_X1_both 5 [some (.ref 5), some (.int p0), none] [] (hp q1) 0 0 _
  refine Ev.blk (pc' := 7) [(.iconst 0, 0, 0, 0), (.istore_n 2, 0, 0, 0)] (by decide +kernel) trivial rfl (And.intro (Nat.le_of_ble_eq_true rfl) (?_))
  show Ev l d mi_X1_both 7 [some (.ref 5), some (.int p0), some (.int (Int32.ofInt 0))] [] (hp q1) 0 0 _
  exact (e_X1_both_L7 hd rc_X1_truth h_X1_truth fuel) p0 (Int32.ofInt 0) q1 _ hf
def f_X1_test_L7 (rc_X1_both : Int32 → ST → Option (ST)) : Nat → Int32 → Int32 → ST → Option (ST)
  | 0, _, _, _ => none
  | n + 1, x1, x2, s => (if ((Int16.ofInt 1600).toInt32) ≤ x2 then some s else (f_X5_isWord ((Int8.ofInt 27).toInt32) s).bind (fun q3 => (if q3.1 = 0 then some q3.2 else (f_X5_step q3.2).bind (fun q5 => (rc_X1_both x1 q5).bind (fun q6 => (f_X1_put ((Int8.ofInt (-11)).toInt32) q6).bind (fun q7 => (f_X1_test_L7 rc_X1_both n) x1 (x2 + Int32.ofInt 1) q7))))))
set_option maxHeartbeats 2000000 in
set_option maxRecDepth 20000 in
theorem e_X1_test_L7 {l : Launch} {d : Nat} (hd : 7 ≤ d) (rc_X1_both : Int32 → ST → Option (ST)) (h_X1_both : ∀ (p0 : Int32) (s : ST) (r : ST), rc_X1_both p0 s = some r → Cl l (d - 1) mi_X1_both [.ref 5, .int p0] (hp s) (none, hp r)) : ∀ (n : Nat) (x1 : Int32) (x2 : Int32) (s : ST) (r : ST), f_X1_test_L7 rc_X1_both n x1 x2 s = some r → Ev l d mi_X1_test 7 [some (.ref 5), some (.int x1), some (.int x2)] [] (hp s) 0 0 (none, hp r) := by
  intro n
  induction n with
  | zero =>
    intro x1 x2 s r hf
    cases hf
  | succ n ih =>
    intro x1 x2 s r hf
    unfold f_X1_test_L7 at hf
    refine Ev.blk (pc' := 11) [(.iload_n 2, 0, 0, 0), (.sipush 1600, 0, 0, 0)] (by decide +kernel) trivial rfl (?_)
    show Ev l d mi_X1_test 11 [some (.ref 5), some (.int x1), some (.int x2)] [.int ((Int16.ofInt 1600).toInt32), .int x2] (hp s) 0 0 _
    refine Ev.icmp_ge (off := 39) (tgt := 50) (by decide +kernel) (by decide) (fun b2 => ?_) (fun b2 => ?_)
    · have hf := (if_pos b2).symm.trans hf
      cases hf
      exact Ev.vret rfl (by decide +kernel) (Nat.le_refl _) (Nat.le_refl _)
    · have hf := (if_neg b2).symm.trans hf
      refine Ev.blk (pc' := 20) [(.aload_n 0, 0, 0, 0), (.getfield 19, 0, 1, 0), (.bipush 27, 0, 0, 0)] (by decide +kernel) ⟨kf_1_19, trivial⟩ rfl (And.intro (kc rfl rfl) (Exists.intro 3 (And.intro rfl (?_))))
      show Ev l d mi_X1_test 20 [some (.ref 5), some (.int x1), some (.int x2)] [.int ((Int8.ofInt 27).toInt32), .ref 3] (hp s) 0 0 _
      obtain ⟨q3, hq3, hf⟩ := bd_some hf
      refine Ev.callV (o := 3) (M' := mi_X5_isWord) (d' := d - 1) (As := [.int ((Int8.ofInt 27).toInt32)]) (rest := []) (r' := (some (.int q3.1), hp q3.2)) (e_X5_isWord (d := d - 1) (by omega) ((Int8.ofInt 27).toInt32) s _ hq3) (by omega) wm_X5_isWord wi_X5_isWord wv_X5_isWord km_1_67 (kc rfl rfl) (Nat.le_of_ble_eq_true rfl) rfl rfl rfl (Nat.le_of_ble_eq_true rfl) ⟨Nat.le_of_ble_eq_true rfl, Nat.le_of_ble_eq_true rfl⟩ (by decide +kernel) ?_
      show Ev l d mi_X1_test 23 [some (.ref 5), some (.int x1), some (.int x2)] [.int q3.1] (hp q3.2) 0 0 _
      refine Ev.if_eq (off := 27) (tgt := 50) (by decide +kernel) (by decide) (fun b4 => ?_) (fun b4 => ?_)
      · have hf := (if_pos b4).symm.trans hf
        cases hf
        exact Ev.vret rfl (by decide +kernel) (Nat.le_refl _) (Nat.le_refl _)
      · have hf := (if_neg b4).symm.trans hf
        refine Ev.blk (pc' := 30) [(.aload_n 0, 0, 0, 0), (.getfield 19, 0, 1, 0)] (by decide +kernel) ⟨kf_1_19, trivial⟩ rfl (And.intro (kc rfl rfl) (Exists.intro 3 (And.intro rfl (?_))))
        show Ev l d mi_X1_test 30 [some (.ref 5), some (.int x1), some (.int x2)] [.ref 3] (hp q3.2) 0 0 _
        obtain ⟨q5, hq5, hf⟩ := bd_some hf
        refine Ev.callV (o := 3) (M' := mi_X5_step) (d' := d - 1) (As := []) (rest := []) (r' := (none, hp q5)) (e_X5_step (d := d - 1) (by omega) q3.2 _ hq5) (by omega) wm_X5_step wi_X5_step wv_X5_step km_1_42 (kc rfl rfl) (Nat.le_of_ble_eq_true rfl) rfl rfl rfl (Nat.le_of_ble_eq_true rfl) ⟨Nat.le_of_ble_eq_true rfl, Nat.le_of_ble_eq_true rfl⟩ (by decide +kernel) ?_
        show Ev l d mi_X1_test 33 [some (.ref 5), some (.int x1), some (.int x2)] [] (hp q5) 0 0 _
        refine Ev.blk (pc' := 35) [(.aload_n 0, 0, 0, 0), (.iload_n 1, 0, 0, 0)] (by decide +kernel) trivial rfl (?_)
        show Ev l d mi_X1_test 35 [some (.ref 5), some (.int x1), some (.int x2)] [.int x1, .ref 5] (hp q5) 0 0 _
        obtain ⟨q6, hq6, hf⟩ := bd_some hf
        refine Ev.callV (o := 5) (M' := mi_X1_both) (d' := d - 1) (As := [.int x1]) (rest := []) (r' := (none, hp q6)) (h_X1_both x1 q5 _ hq6) (by omega) wm_X1_both wi_X1_both wv_X1_both km_1_89 (kc rfl rfl) (Nat.le_of_ble_eq_true rfl) rfl rfl rfl (Nat.le_of_ble_eq_true rfl) ⟨Nat.le_of_ble_eq_true rfl, Nat.le_of_ble_eq_true rfl⟩ (by decide +kernel) ?_
        show Ev l d mi_X1_test 38 [some (.ref 5), some (.int x1), some (.int x2)] [] (hp q6) 0 0 _
        refine Ev.blk (pc' := 41) [(.aload_n 0, 0, 0, 0), (.bipush (-11), 0, 0, 0)] (by decide +kernel) trivial rfl (?_)
        show Ev l d mi_X1_test 41 [some (.ref 5), some (.int x1), some (.int x2)] [.int ((Int8.ofInt (-11)).toInt32), .ref 5] (hp q6) 0 0 _
        obtain ⟨q7, hq7, hf⟩ := bd_some hf
        refine Ev.callV (o := 5) (M' := mi_X1_put) (d' := d - 1) (As := [.int ((Int8.ofInt (-11)).toInt32)]) (rest := []) (r' := (none, hp q7)) (e_X1_put (d := d - 1) (by omega) ((Int8.ofInt (-11)).toInt32) q6 _ hq7) (by omega) wm_X1_put wi_X1_put wv_X1_put km_1_45 (kc rfl rfl) (Nat.le_of_ble_eq_true rfl) rfl rfl rfl (Nat.le_of_ble_eq_true rfl) ⟨Nat.le_of_ble_eq_true rfl, Nat.le_of_ble_eq_true rfl⟩ (by decide +kernel) ?_
        show Ev l d mi_X1_test 44 [some (.ref 5), some (.int x1), some (.int x2)] [] (hp q7) 0 0 _
        refine Ev.blk (pc' := 47) [(.iinc 2 1, 0, 0, 0)] (by decide +kernel) trivial rfl (And.intro (Nat.le_of_ble_eq_true rfl) (?_))
        show Ev l d mi_X1_test 47 [some (.ref 5), some (.int x1), some (.int (x2 + Int32.ofInt 1))] [] (hp q7) 0 0 _
        refine Ev.goto (off := -40) (tgt := 7) (by decide +kernel) (by decide) ?_
        exact ih x1 (x2 + Int32.ofInt 1) q7 _ hf
def f_X1_test (rc_X1_both : Int32 → ST → Option (ST)) (p0 : Int32) (s : ST) : Option (ST) := (rc_X1_both p0 s).bind (fun q1 => (f_X1_test_L7 rc_X1_both fuel) p0 (Int32.ofInt 0) q1)
set_option maxHeartbeats 2000000 in
set_option maxRecDepth 20000 in
theorem e_X1_test {l : Launch} {d : Nat} (hd : 7 ≤ d) (rc_X1_both : Int32 → ST → Option (ST)) (h_X1_both : ∀ (p0 : Int32) (s : ST) (r : ST), rc_X1_both p0 s = some r → Cl l (d - 1) mi_X1_both [.ref 5, .int p0] (hp s) (none, hp r)) (p0 : Int32) (s : ST) (r : ST) (hf : f_X1_test rc_X1_both p0 s = some r) : Cl l d mi_X1_test [.ref 5, .int p0] (hp s) (none, hp r) := by
  refine Ev.entry (by decide +kernel) rfl rfl ?_
  show Ev l d mi_X1_test 0 [some (.ref 5), some (.int p0), none] [] (hp s) 0 0 _
  unfold f_X1_test at hf
  refine Ev.blk (pc' := 2) [(.aload_n 0, 0, 0, 0), (.iload_n 1, 0, 0, 0)] (by decide +kernel) trivial rfl (?_)
  show Ev l d mi_X1_test 2 [some (.ref 5), some (.int p0), none] [.int p0, .ref 5] (hp s) 0 0 _
  obtain ⟨q1, hq1, hf⟩ := bd_some hf
  refine Ev.callV (o := 5) (M' := mi_X1_both) (d' := d - 1) (As := [.int p0]) (rest := []) (r' := (none, hp q1)) (h_X1_both p0 s _ hq1) (by omega) wm_X1_both wi_X1_both wv_X1_both km_1_89 (kc rfl rfl) (Nat.le_of_ble_eq_true rfl) rfl rfl rfl (Nat.le_of_ble_eq_true rfl) ⟨Nat.le_of_ble_eq_true rfl, Nat.le_of_ble_eq_true rfl⟩ (by decide +kernel) ?_
  show Ev l d mi_X1_test 5 [some (.ref 5), some (.int p0), none] [] (hp q1) 0 0 _
  refine Ev.blk (pc' := 7) [(.iconst 0, 0, 0, 0), (.istore_n 2, 0, 0, 0)] (by decide +kernel) trivial rfl (And.intro (Nat.le_of_ble_eq_true rfl) (?_))
  show Ev l d mi_X1_test 7 [some (.ref 5), some (.int p0), some (.int (Int32.ofInt 0))] [] (hp q1) 0 0 _
  exact (e_X1_test_L7 hd rc_X1_both h_X1_both fuel) p0 (Int32.ofInt 0) q1 _ hf
def f_X1_truth (rc_X1_test : Int32 → ST → Option (ST)) (rc_X1_truth : Int32 → ST → Option (ST)) (p0 : Int32) (s : ST) : Option (ST) := (f_X5_isWord ((Int8.ofInt 29).toInt32) s).bind (fun q1 => (if q1.1 = 0 then (f_X5_isSign ((Int8.ofInt 91).toInt32) q1.2).bind (fun q3 => (if q3.1 = 0 then (f_X5_isWord ((Int8.ofInt 30).toInt32) q3.2).bind (fun q5 => (if q5.1 = 0 then (t_X1_sum p0 q5.2).bind (fun q7 => (f_X1_comparing q7).bind (fun q8 => (f_X5_step q8.2).bind (fun q9 => (t_X1_sum p0 q9).bind (fun q10 => (f_X1_put q8.1 q10).bind (fun q11 => some q11))))) else (f_X1_put (Int32.ofInt 1) q5.2).bind (fun q12 => (f_X5_step q12).bind (fun q13 => some q13)))) else (f_X1_opens p0 q3.2).bind (fun q14 => (if q14.1 = 0 then some q14.2 else (rc_X1_test (p0 + (Int32.ofInt 1)) q14.2).bind (fun q16 => (f_X5_takeSign ((Int8.ofInt 93).toInt32) q16).bind (fun q17 => some q17)))))) else (f_X1_opens p0 q1.2).bind (fun q18 => (if q18.1 = 0 then some q18.2 else (rc_X1_truth (p0 + (Int32.ofInt 1)) q18.2).bind (fun q20 => (f_X1_put ((Int8.ofInt (-12)).toInt32) q20).bind (fun q21 => some q21))))))
set_option maxHeartbeats 2000000 in
set_option maxRecDepth 20000 in
theorem e_X1_truth {l : Launch} {d : Nat} (hd : 68 ≤ d) (rc_X1_test : Int32 → ST → Option (ST)) (h_X1_test : ∀ (p0 : Int32) (s : ST) (r : ST), rc_X1_test p0 s = some r → Cl l (d - 1) mi_X1_test [.ref 5, .int p0] (hp s) (none, hp r)) (rc_X1_truth : Int32 → ST → Option (ST)) (h_X1_truth : ∀ (p0 : Int32) (s : ST) (r : ST), rc_X1_truth p0 s = some r → Cl l (d - 1) mi_X1_truth [.ref 5, .int p0] (hp s) (none, hp r)) (p0 : Int32) (s : ST) (r : ST) (hf : f_X1_truth rc_X1_test rc_X1_truth p0 s = some r) : Cl l d mi_X1_truth [.ref 5, .int p0] (hp s) (none, hp r) := by
  refine Ev.entry (by decide +kernel) rfl rfl ?_
  show Ev l d mi_X1_truth 0 [some (.ref 5), some (.int p0), none] [] (hp s) 0 0 _
  unfold f_X1_truth at hf
  refine Ev.blk (pc' := 6) [(.aload_n 0, 0, 0, 0), (.getfield 19, 0, 1, 0), (.bipush 29, 0, 0, 0)] (by decide +kernel) ⟨kf_1_19, trivial⟩ rfl (And.intro (kc rfl rfl) (Exists.intro 3 (And.intro rfl (?_))))
  show Ev l d mi_X1_truth 6 [some (.ref 5), some (.int p0), none] [.int ((Int8.ofInt 29).toInt32), .ref 3] (hp s) 0 0 _
  obtain ⟨q1, hq1, hf⟩ := bd_some hf
  refine Ev.callV (o := 3) (M' := mi_X5_isWord) (d' := d - 1) (As := [.int ((Int8.ofInt 29).toInt32)]) (rest := []) (r' := (some (.int q1.1), hp q1.2)) (e_X5_isWord (d := d - 1) (by omega) ((Int8.ofInt 29).toInt32) s _ hq1) (by omega) wm_X5_isWord wi_X5_isWord wv_X5_isWord km_1_67 (kc rfl rfl) (Nat.le_of_ble_eq_true rfl) rfl rfl rfl (Nat.le_of_ble_eq_true rfl) ⟨Nat.le_of_ble_eq_true rfl, Nat.le_of_ble_eq_true rfl⟩ (by decide +kernel) ?_
  show Ev l d mi_X1_truth 9 [some (.ref 5), some (.int p0), none] [.int q1.1] (hp q1.2) 0 0 _
  refine Ev.if_eq (off := 27) (tgt := 36) (by decide +kernel) (by decide) (fun b2 => ?_) (fun b2 => ?_)
  · have hf := (if_pos b2).symm.trans hf
    refine Ev.blk (pc' := 42) [(.aload_n 0, 0, 0, 0), (.getfield 19, 0, 1, 0), (.bipush 91, 0, 0, 0)] (by decide +kernel) ⟨kf_1_19, trivial⟩ rfl (And.intro (kc rfl rfl) (Exists.intro 3 (And.intro rfl (?_))))
    show Ev l d mi_X1_truth 42 [some (.ref 5), some (.int p0), none] [.int ((Int8.ofInt 91).toInt32), .ref 3] (hp q1.2) 0 0 _
    obtain ⟨q3, hq3, hf⟩ := bd_some hf
    refine Ev.callV (o := 3) (M' := mi_X5_isSign) (d' := d - 1) (As := [.int ((Int8.ofInt 91).toInt32)]) (rest := []) (r' := (some (.int q3.1), hp q3.2)) (e_X5_isSign (d := d - 1) (by omega) ((Int8.ofInt 91).toInt32) q1.2 _ hq3) (by omega) wm_X5_isSign wi_X5_isSign wv_X5_isSign km_1_36 (kc rfl rfl) (Nat.le_of_ble_eq_true rfl) rfl rfl rfl (Nat.le_of_ble_eq_true rfl) ⟨Nat.le_of_ble_eq_true rfl, Nat.le_of_ble_eq_true rfl⟩ (by decide +kernel) ?_
    show Ev l d mi_X1_truth 45 [some (.ref 5), some (.int p0), none] [.int q3.1] (hp q3.2) 0 0 _
    refine Ev.if_eq (off := 30) (tgt := 75) (by decide +kernel) (by decide) (fun b4 => ?_) (fun b4 => ?_)
    · have hf := (if_pos b4).symm.trans hf
      refine Ev.blk (pc' := 81) [(.aload_n 0, 0, 0, 0), (.getfield 19, 0, 1, 0), (.bipush 30, 0, 0, 0)] (by decide +kernel) ⟨kf_1_19, trivial⟩ rfl (And.intro (kc rfl rfl) (Exists.intro 3 (And.intro rfl (?_))))
      show Ev l d mi_X1_truth 81 [some (.ref 5), some (.int p0), none] [.int ((Int8.ofInt 30).toInt32), .ref 3] (hp q3.2) 0 0 _
      obtain ⟨q5, hq5, hf⟩ := bd_some hf
      refine Ev.callV (o := 3) (M' := mi_X5_isWord) (d' := d - 1) (As := [.int ((Int8.ofInt 30).toInt32)]) (rest := []) (r' := (some (.int q5.1), hp q5.2)) (e_X5_isWord (d := d - 1) (by omega) ((Int8.ofInt 30).toInt32) q3.2 _ hq5) (by omega) wm_X5_isWord wi_X5_isWord wv_X5_isWord km_1_67 (kc rfl rfl) (Nat.le_of_ble_eq_true rfl) rfl rfl rfl (Nat.le_of_ble_eq_true rfl) ⟨Nat.le_of_ble_eq_true rfl, Nat.le_of_ble_eq_true rfl⟩ (by decide +kernel) ?_
      show Ev l d mi_X1_truth 84 [some (.ref 5), some (.int p0), none] [.int q5.1] (hp q5.2) 0 0 _
      refine Ev.if_eq (off := 18) (tgt := 102) (by decide +kernel) (by decide) (fun b6 => ?_) (fun b6 => ?_)
      · have hf := (if_pos b6).symm.trans hf
        refine Ev.blk (pc' := 104) [(.aload_n 0, 0, 0, 0), (.iload_n 1, 0, 0, 0)] (by decide +kernel) trivial rfl (?_)
        show Ev l d mi_X1_truth 104 [some (.ref 5), some (.int p0), none] [.int p0, .ref 5] (hp q5.2) 0 0 _
        obtain ⟨q7, hq7, hf⟩ := bd_some hf
        refine Ev.callV (o := 5) (M' := mi_X1_sum) (d' := d - 1) (As := [.int p0]) (rest := []) (r' := (none, hp q7)) (te_X1_sum (d := d - 1) (by omega) p0 q5.2 _ hq7) (by omega) wm_X1_sum wi_X1_sum wv_X1_sum km_1_60 (kc rfl rfl) (Nat.le_of_ble_eq_true rfl) rfl rfl rfl (Nat.le_of_ble_eq_true rfl) ⟨Nat.le_of_ble_eq_true rfl, Nat.le_of_ble_eq_true rfl⟩ (by decide +kernel) ?_
        show Ev l d mi_X1_truth 107 [some (.ref 5), some (.int p0), none] [] (hp q7) 0 0 _
        refine Ev.blk (pc' := 108) [(.aload_n 0, 0, 0, 0)] (by decide +kernel) trivial rfl (?_)
        show Ev l d mi_X1_truth 108 [some (.ref 5), some (.int p0), none] [.ref 5] (hp q7) 0 0 _
        obtain ⟨q8, hq8, hf⟩ := bd_some hf
        refine Ev.callV (o := 5) (M' := mi_X1_comparing) (d' := d - 1) (As := []) (rest := []) (r' := (some (.int q8.1), hp q8.2)) (e_X1_comparing (d := d - 1) (by omega) q7 _ hq8) (by omega) wm_X1_comparing wi_X1_comparing wv_X1_comparing km_1_98 (kc rfl rfl) (Nat.le_of_ble_eq_true rfl) rfl rfl rfl (Nat.le_of_ble_eq_true rfl) ⟨Nat.le_of_ble_eq_true rfl, Nat.le_of_ble_eq_true rfl⟩ (by decide +kernel) ?_
        show Ev l d mi_X1_truth 111 [some (.ref 5), some (.int p0), none] [.int q8.1] (hp q8.2) 0 0 _
        refine Ev.blk (pc' := 116) [(.istore_n 2, 0, 0, 0), (.aload_n 0, 0, 0, 0), (.getfield 19, 0, 1, 0)] (by decide +kernel) ⟨kf_1_19, trivial⟩ rfl (And.intro (Nat.le_of_ble_eq_true rfl) (And.intro (kc rfl rfl) (Exists.intro 3 (And.intro rfl (?_)))))
        show Ev l d mi_X1_truth 116 [some (.ref 5), some (.int p0), some (.int q8.1)] [.ref 3] (hp q8.2) 0 0 _
        obtain ⟨q9, hq9, hf⟩ := bd_some hf
        refine Ev.callV (o := 3) (M' := mi_X5_step) (d' := d - 1) (As := []) (rest := []) (r' := (none, hp q9)) (e_X5_step (d := d - 1) (by omega) q8.2 _ hq9) (by omega) wm_X5_step wi_X5_step wv_X5_step km_1_42 (kc rfl rfl) (Nat.le_of_ble_eq_true rfl) rfl rfl rfl (Nat.le_of_ble_eq_true rfl) ⟨Nat.le_of_ble_eq_true rfl, Nat.le_of_ble_eq_true rfl⟩ (by decide +kernel) ?_
        show Ev l d mi_X1_truth 119 [some (.ref 5), some (.int p0), some (.int q8.1)] [] (hp q9) 0 0 _
        refine Ev.blk (pc' := 121) [(.aload_n 0, 0, 0, 0), (.iload_n 1, 0, 0, 0)] (by decide +kernel) trivial rfl (?_)
        show Ev l d mi_X1_truth 121 [some (.ref 5), some (.int p0), some (.int q8.1)] [.int p0, .ref 5] (hp q9) 0 0 _
        obtain ⟨q10, hq10, hf⟩ := bd_some hf
        refine Ev.callV (o := 5) (M' := mi_X1_sum) (d' := d - 1) (As := [.int p0]) (rest := []) (r' := (none, hp q10)) (te_X1_sum (d := d - 1) (by omega) p0 q9 _ hq10) (by omega) wm_X1_sum wi_X1_sum wv_X1_sum km_1_60 (kc rfl rfl) (Nat.le_of_ble_eq_true rfl) rfl rfl rfl (Nat.le_of_ble_eq_true rfl) ⟨Nat.le_of_ble_eq_true rfl, Nat.le_of_ble_eq_true rfl⟩ (by decide +kernel) ?_
        show Ev l d mi_X1_truth 124 [some (.ref 5), some (.int p0), some (.int q8.1)] [] (hp q10) 0 0 _
        refine Ev.blk (pc' := 126) [(.aload_n 0, 0, 0, 0), (.iload_n 2, 0, 0, 0)] (by decide +kernel) trivial rfl (?_)
        show Ev l d mi_X1_truth 126 [some (.ref 5), some (.int p0), some (.int q8.1)] [.int q8.1, .ref 5] (hp q10) 0 0 _
        obtain ⟨q11, hq11, hf⟩ := bd_some hf
        refine Ev.callV (o := 5) (M' := mi_X1_put) (d' := d - 1) (As := [.int q8.1]) (rest := []) (r' := (none, hp q11)) (e_X1_put (d := d - 1) (by omega) q8.1 q10 _ hq11) (by omega) wm_X1_put wi_X1_put wv_X1_put km_1_45 (kc rfl rfl) (Nat.le_of_ble_eq_true rfl) rfl rfl rfl (Nat.le_of_ble_eq_true rfl) ⟨Nat.le_of_ble_eq_true rfl, Nat.le_of_ble_eq_true rfl⟩ (by decide +kernel) ?_
        show Ev l d mi_X1_truth 129 [some (.ref 5), some (.int p0), some (.int q8.1)] [] (hp q11) 0 0 _
        cases hf
        exact Ev.vret rfl (by decide +kernel) (Nat.le_refl _) (Nat.le_refl _)
      · have hf := (if_neg b6).symm.trans hf
        refine Ev.blk (pc' := 89) [(.aload_n 0, 0, 0, 0), (.iconst 1, 0, 0, 0)] (by decide +kernel) trivial rfl (?_)
        show Ev l d mi_X1_truth 89 [some (.ref 5), some (.int p0), none] [.int (Int32.ofInt 1), .ref 5] (hp q5.2) 0 0 _
        obtain ⟨q12, hq12, hf⟩ := bd_some hf
        refine Ev.callV (o := 5) (M' := mi_X1_put) (d' := d - 1) (As := [.int (Int32.ofInt 1)]) (rest := []) (r' := (none, hp q12)) (e_X1_put (d := d - 1) (by omega) (Int32.ofInt 1) q5.2 _ hq12) (by omega) wm_X1_put wi_X1_put wv_X1_put km_1_45 (kc rfl rfl) (Nat.le_of_ble_eq_true rfl) rfl rfl rfl (Nat.le_of_ble_eq_true rfl) ⟨Nat.le_of_ble_eq_true rfl, Nat.le_of_ble_eq_true rfl⟩ (by decide +kernel) ?_
        show Ev l d mi_X1_truth 92 [some (.ref 5), some (.int p0), none] [] (hp q12) 0 0 _
        refine Ev.blk (pc' := 96) [(.aload_n 0, 0, 0, 0), (.getfield 19, 0, 1, 0)] (by decide +kernel) ⟨kf_1_19, trivial⟩ rfl (And.intro (kc rfl rfl) (Exists.intro 3 (And.intro rfl (?_))))
        show Ev l d mi_X1_truth 96 [some (.ref 5), some (.int p0), none] [.ref 3] (hp q12) 0 0 _
        obtain ⟨q13, hq13, hf⟩ := bd_some hf
        refine Ev.callV (o := 3) (M' := mi_X5_step) (d' := d - 1) (As := []) (rest := []) (r' := (none, hp q13)) (e_X5_step (d := d - 1) (by omega) q12 _ hq13) (by omega) wm_X5_step wi_X5_step wv_X5_step km_1_42 (kc rfl rfl) (Nat.le_of_ble_eq_true rfl) rfl rfl rfl (Nat.le_of_ble_eq_true rfl) ⟨Nat.le_of_ble_eq_true rfl, Nat.le_of_ble_eq_true rfl⟩ (by decide +kernel) ?_
        show Ev l d mi_X1_truth 99 [some (.ref 5), some (.int p0), none] [] (hp q13) 0 0 _
        refine Ev.goto (off := 30) (tgt := 129) (by decide +kernel) (by decide) ?_
        cases hf
        exact Ev.vret rfl (by decide +kernel) (Nat.le_refl _) (Nat.le_refl _)
    · have hf := (if_neg b4).symm.trans hf
      refine Ev.blk (pc' := 50) [(.aload_n 0, 0, 0, 0), (.iload_n 1, 0, 0, 0)] (by decide +kernel) trivial rfl (?_)
      show Ev l d mi_X1_truth 50 [some (.ref 5), some (.int p0), none] [.int p0, .ref 5] (hp q3.2) 0 0 _
      obtain ⟨q14, hq14, hf⟩ := bd_some hf
      refine Ev.callV (o := 5) (M' := mi_X1_opens) (d' := d - 1) (As := [.int p0]) (rest := []) (r' := (some (.int q14.1), hp q14.2)) (e_X1_opens (d := d - 1) (by omega) p0 q3.2 _ hq14) (by omega) wm_X1_opens wi_X1_opens wv_X1_opens km_1_56 (kc rfl rfl) (Nat.le_of_ble_eq_true rfl) rfl rfl rfl (Nat.le_of_ble_eq_true rfl) ⟨Nat.le_of_ble_eq_true rfl, Nat.le_of_ble_eq_true rfl⟩ (by decide +kernel) ?_
      show Ev l d mi_X1_truth 53 [some (.ref 5), some (.int p0), none] [.int q14.1] (hp q14.2) 0 0 _
      refine Ev.if_eq (off := 76) (tgt := 129) (by decide +kernel) (by decide) (fun b15 => ?_) (fun b15 => ?_)
      · have hf := (if_pos b15).symm.trans hf
        cases hf
        exact Ev.vret rfl (by decide +kernel) (Nat.le_refl _) (Nat.le_refl _)
      · have hf := (if_neg b15).symm.trans hf
        refine Ev.blk (pc' := 60) [(.aload_n 0, 0, 0, 0), (.iload_n 1, 0, 0, 0), (.iconst 1, 0, 0, 0), (.iadd, 0, 0, 0)] (by decide +kernel) trivial rfl (?_)
        show Ev l d mi_X1_truth 60 [some (.ref 5), some (.int p0), none] [.int (p0 + (Int32.ofInt 1)), .ref 5] (hp q14.2) 0 0 _
        obtain ⟨q16, hq16, hf⟩ := bd_some hf
        refine Ev.callV (o := 5) (M' := mi_X1_test) (d' := d - 1) (As := [.int (p0 + (Int32.ofInt 1))]) (rest := []) (r' := (none, hp q16)) (h_X1_test (p0 + (Int32.ofInt 1)) q14.2 _ hq16) (by omega) wm_X1_test wi_X1_test wv_X1_test km_1_95 (kc rfl rfl) (Nat.le_of_ble_eq_true rfl) rfl rfl rfl (Nat.le_of_ble_eq_true rfl) ⟨Nat.le_of_ble_eq_true rfl, Nat.le_of_ble_eq_true rfl⟩ (by decide +kernel) ?_
        show Ev l d mi_X1_truth 63 [some (.ref 5), some (.int p0), none] [] (hp q16) 0 0 _
        refine Ev.blk (pc' := 69) [(.aload_n 0, 0, 0, 0), (.getfield 19, 0, 1, 0), (.bipush 93, 0, 0, 0)] (by decide +kernel) ⟨kf_1_19, trivial⟩ rfl (And.intro (kc rfl rfl) (Exists.intro 3 (And.intro rfl (?_))))
        show Ev l d mi_X1_truth 69 [some (.ref 5), some (.int p0), none] [.int ((Int8.ofInt 93).toInt32), .ref 3] (hp q16) 0 0 _
        obtain ⟨q17, hq17, hf⟩ := bd_some hf
        refine Ev.callV (o := 3) (M' := mi_X5_takeSign) (d' := d - 1) (As := [.int ((Int8.ofInt 93).toInt32)]) (rest := []) (r' := (none, hp q17)) (e_X5_takeSign (d := d - 1) (by omega) ((Int8.ofInt 93).toInt32) q16 _ hq17) (by omega) wm_X5_takeSign wi_X5_takeSign wv_X5_takeSign km_1_63 (kc rfl rfl) (Nat.le_of_ble_eq_true rfl) rfl rfl rfl (Nat.le_of_ble_eq_true rfl) ⟨Nat.le_of_ble_eq_true rfl, Nat.le_of_ble_eq_true rfl⟩ (by decide +kernel) ?_
        show Ev l d mi_X1_truth 72 [some (.ref 5), some (.int p0), none] [] (hp q17) 0 0 _
        refine Ev.goto (off := 57) (tgt := 129) (by decide +kernel) (by decide) ?_
        cases hf
        exact Ev.vret rfl (by decide +kernel) (Nat.le_refl _) (Nat.le_refl _)
  · have hf := (if_neg b2).symm.trans hf
    refine Ev.blk (pc' := 14) [(.aload_n 0, 0, 0, 0), (.iload_n 1, 0, 0, 0)] (by decide +kernel) trivial rfl (?_)
    show Ev l d mi_X1_truth 14 [some (.ref 5), some (.int p0), none] [.int p0, .ref 5] (hp q1.2) 0 0 _
    obtain ⟨q18, hq18, hf⟩ := bd_some hf
    refine Ev.callV (o := 5) (M' := mi_X1_opens) (d' := d - 1) (As := [.int p0]) (rest := []) (r' := (some (.int q18.1), hp q18.2)) (e_X1_opens (d := d - 1) (by omega) p0 q1.2 _ hq18) (by omega) wm_X1_opens wi_X1_opens wv_X1_opens km_1_56 (kc rfl rfl) (Nat.le_of_ble_eq_true rfl) rfl rfl rfl (Nat.le_of_ble_eq_true rfl) ⟨Nat.le_of_ble_eq_true rfl, Nat.le_of_ble_eq_true rfl⟩ (by decide +kernel) ?_
    show Ev l d mi_X1_truth 17 [some (.ref 5), some (.int p0), none] [.int q18.1] (hp q18.2) 0 0 _
    refine Ev.if_eq (off := 112) (tgt := 129) (by decide +kernel) (by decide) (fun b19 => ?_) (fun b19 => ?_)
    · have hf := (if_pos b19).symm.trans hf
      cases hf
      exact Ev.vret rfl (by decide +kernel) (Nat.le_refl _) (Nat.le_refl _)
    · have hf := (if_neg b19).symm.trans hf
      refine Ev.blk (pc' := 24) [(.aload_n 0, 0, 0, 0), (.iload_n 1, 0, 0, 0), (.iconst 1, 0, 0, 0), (.iadd, 0, 0, 0)] (by decide +kernel) trivial rfl (?_)
      show Ev l d mi_X1_truth 24 [some (.ref 5), some (.int p0), none] [.int (p0 + (Int32.ofInt 1)), .ref 5] (hp q18.2) 0 0 _
      obtain ⟨q20, hq20, hf⟩ := bd_some hf
      refine Ev.callV (o := 5) (M' := mi_X1_truth) (d' := d - 1) (As := [.int (p0 + (Int32.ofInt 1))]) (rest := []) (r' := (none, hp q20)) (h_X1_truth (p0 + (Int32.ofInt 1)) q18.2 _ hq20) (by omega) wm_X1_truth wi_X1_truth wv_X1_truth km_1_92 (kc rfl rfl) (Nat.le_of_ble_eq_true rfl) rfl rfl rfl (Nat.le_of_ble_eq_true rfl) ⟨Nat.le_of_ble_eq_true rfl, Nat.le_of_ble_eq_true rfl⟩ (by decide +kernel) ?_
      show Ev l d mi_X1_truth 27 [some (.ref 5), some (.int p0), none] [] (hp q20) 0 0 _
      refine Ev.blk (pc' := 30) [(.aload_n 0, 0, 0, 0), (.bipush (-12), 0, 0, 0)] (by decide +kernel) trivial rfl (?_)
      show Ev l d mi_X1_truth 30 [some (.ref 5), some (.int p0), none] [.int ((Int8.ofInt (-12)).toInt32), .ref 5] (hp q20) 0 0 _
      obtain ⟨q21, hq21, hf⟩ := bd_some hf
      refine Ev.callV (o := 5) (M' := mi_X1_put) (d' := d - 1) (As := [.int ((Int8.ofInt (-12)).toInt32)]) (rest := []) (r' := (none, hp q21)) (e_X1_put (d := d - 1) (by omega) ((Int8.ofInt (-12)).toInt32) q20 _ hq21) (by omega) wm_X1_put wi_X1_put wv_X1_put km_1_45 (kc rfl rfl) (Nat.le_of_ble_eq_true rfl) rfl rfl rfl (Nat.le_of_ble_eq_true rfl) ⟨Nat.le_of_ble_eq_true rfl, Nat.le_of_ble_eq_true rfl⟩ (by decide +kernel) ?_
      show Ev l d mi_X1_truth 33 [some (.ref 5), some (.int p0), none] [] (hp q21) 0 0 _
      refine Ev.goto (off := 96) (tgt := 129) (by decide +kernel) (by decide) ?_
      cases hf
      exact Ev.vret rfl (by decide +kernel) (Nat.le_refl _) (Nat.le_refl _)
def t2_truth : Nat → Int32 → ST → Option ST
  | 0, _, _ => none
  | n + 1, a, s => f_X1_truth (f_X1_test (f_X1_both (t2_truth n))) (t2_truth n) a s
theorem te2_testOf {l : Launch} {d : Nat} {n : Nat} (hd : 71 ≤ d) (ih : ∀ (a : Int32) (s : ST) (r : ST), t2_truth n a s = some r → Cl l (d - 1 - 1) mi_X1_truth [.ref 5, .int a] (hp s) (none, hp r)) (a : Int32) (s : ST) (r : ST) (h : f_X1_test (f_X1_both (t2_truth n)) a s = some r) : Cl l d mi_X1_test [.ref 5, .int a] (hp s) (none, hp r) :=
  e_X1_test (by omega) (f_X1_both (t2_truth n)) (fun p0 s r h => e_X1_both (d := d - 1) (by omega) (t2_truth n) ih p0 s r h) a s r h
theorem te2_truth {l : Launch} : ∀ (n d : Nat), 71 + 3 * n ≤ d → ∀ (a : Int32) (s : ST) (r : ST), t2_truth n a s = some r → Cl l d mi_X1_truth [.ref 5, .int a] (hp s) (none, hp r) := by
  intro n
  induction n with
  | zero =>
    intro d hd a s r hf
    cases hf
  | succ n ih =>
    intro d hd a s r hf
    exact e_X1_truth (by omega) (f_X1_test (f_X1_both (t2_truth n))) (fun p0 s r h => te2_testOf (d := d - 1) (by omega) (fun a s r h => ih _ (by omega) a s r h) p0 s r h) (t2_truth n) (fun p0 s r h => ih (d - 1) (by omega) p0 s r h) a s r hf
def t_X1_test (a : Int32) (s : ST) : Option ST := f_X1_test (f_X1_both (t2_truth 12)) a s
theorem te_X1_test {l : Launch} {d : Nat} (hd : 117 ≤ d) (a : Int32) (s : ST) (r : ST) (hf : t_X1_test a s = some r) : Cl l d mi_X1_test [.ref 5, .int a] (hp s) (none, hp r) := te2_testOf (by omega) (fun a s r h => te2_truth 12 _ (by omega) a s r h) a s r hf
