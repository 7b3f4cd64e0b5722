/-! THE LANDED CLASS: functions and proofs, by program (wip/gen_class.py): X9_sow X9_deeper X9_see X9_isAsSeen X9_played X9_readPlaces X9_reached X9_actDay X9_play X9_tend X9_days X9_draw X9_chance X9_undo X9_seed X9_answer X9_ask X9_marked X9_write X9_writePair X9_image X9_octet X9_isImage X9_takeImage X9_on X9_status -/
def f_X9_sow (p0 : Int32) (p1 : Int32) (s : ST) : Option (Int32 × ST) := (if p1 < 0 then some ((Int32.ofInt (-1)), s) else (if (Int32.ofInt 2) < p1 then some ((Int32.ofInt (-1)), s) else (f_X9_canCome p0 (Int32.ofInt 0) ((Int8.ofInt 20).toInt32) s).bind (fun q3 => (if q3.1 = 0 then some ((Int32.ofInt (-1)), q3.2) else (f_X9_gatherHarm p0 q3.2).bind (fun q5 => (f_X9_leastHarmed q5).bind (fun q6 => (if p1 = 0 then some ((q6.1 - q6.1 / (Int32.ofInt 5) * (Int32.ofInt 5)), q6.2) else (if p1 = 1 then some ((q6.1 / (Int32.ofInt 5)), q6.2) else (gd (ib q6.1 25) (some ((if (Int32.ofInt 999999) < (q6.2.1 64 q6.1.toNatClampNeg) then (Int32.ofInt 999999) else (q6.2.1 64 q6.1.toNatClampNeg)), q6.2)))))))))))
set_option maxHeartbeats 2000000 in
set_option maxRecDepth 20000 in
theorem e_X9_sow {l : Launch} {d : Nat} (hd : 26 ≤ d) (p0 : Int32) (p1 : Int32) (s : ST) (r : Int32 × ST) (hf : f_X9_sow p0 p1 s = some r) : Cl l d mi_X9_sow [.ref 0, .int p0, .int p1] (hp s) (some (.int r.1), hp r.2) := by
  refine Ev.entry (by decide +kernel) rfl rfl ?_
  show Ev l d mi_X9_sow 0 [some (.ref 0), some (.int p0), some (.int p1), none] [] (hp s) 0 0 _
  unfold f_X9_sow at hf
  refine Ev.blk (pc' := 1) [(.iload_n 2, 0, 0, 0)] (by decide +kernel) trivial rfl (?_)
  show Ev l d mi_X9_sow 1 [some (.ref 0), some (.int p0), some (.int p1), none] [.int p1] (hp s) 0 0 _
  refine Ev.if_lt (off := 19) (tgt := 20) (by decide +kernel) (by decide) (fun b1 => ?_) (fun b1 => ?_)
  · have hf := (if_pos b1).symm.trans hf
    refine Ev.blk (pc' := 21) [(.iconst (-1), 0, 0, 0)] (by decide +kernel) trivial rfl (?_)
    show Ev l d mi_X9_sow 21 [some (.ref 0), some (.int p0), some (.int p1), none] [.int (Int32.ofInt (-1))] (hp s) 0 0 _
    cases hf
    exact Ev.iret .int rfl rfl (by decide +kernel) (Nat.le_refl _) (Nat.le_refl _)
  · have hf := (if_neg b1).symm.trans hf
    refine Ev.blk (pc' := 6) [(.iload_n 2, 0, 0, 0), (.iconst 2, 0, 0, 0)] (by decide +kernel) trivial rfl (?_)
    show Ev l d mi_X9_sow 6 [some (.ref 0), some (.int p0), some (.int p1), none] [.int (Int32.ofInt 2), .int p1] (hp s) 0 0 _
    refine Ev.icmp_gt (off := 14) (tgt := 20) (by decide +kernel) (by decide) (fun b2 => ?_) (fun b2 => ?_)
    · have hf := (if_pos b2).symm.trans hf
      refine Ev.blk (pc' := 21) [(.iconst (-1), 0, 0, 0)] (by decide +kernel) trivial rfl (?_)
      show Ev l d mi_X9_sow 21 [some (.ref 0), some (.int p0), some (.int p1), none] [.int (Int32.ofInt (-1))] (hp s) 0 0 _
      cases hf
      exact Ev.iret .int rfl rfl (by decide +kernel) (Nat.le_refl _) (Nat.le_refl _)
    · have hf := (if_neg b2).symm.trans hf
      refine Ev.blk (pc' := 14) [(.aload_n 0, 0, 0, 0), (.iload_n 1, 0, 0, 0), (.iconst 0, 0, 0, 0), (.bipush 20, 0, 0, 0)] (by decide +kernel) trivial rfl (?_)
      show Ev l d mi_X9_sow 14 [some (.ref 0), some (.int p0), some (.int p1), none] [.int ((Int8.ofInt 20).toInt32), .int (Int32.ofInt 0), .int p0, .ref 0] (hp s) 0 0 _
      obtain ⟨q3, hq3, hf⟩ := bd_some hf
      refine Ev.callV (o := 0) (M' := mi_X9_canCome) (d' := d - 1) (As := [.int p0, .int (Int32.ofInt 0), .int ((Int8.ofInt 20).toInt32)]) (rest := []) (r' := (some (.int q3.1), hp q3.2)) (e_X9_canCome (d := d - 1) (by omega) p0 (Int32.ofInt 0) ((Int8.ofInt 20).toInt32) s _ hq3) (by omega) wm_X9_canCome wi_X9_canCome wv_X9_canCome km_9_267 (kc rfl rfl) (Nat.le_of_ble_eq_true rfl) rfl rfl rfl (Nat.le_of_ble_eq_true rfl) ⟨Nat.le_of_ble_eq_true rfl, Nat.le_of_ble_eq_true rfl⟩ (by decide +kernel) ?_
      show Ev l d mi_X9_sow 17 [some (.ref 0), some (.int p0), some (.int p1), none] [.int q3.1] (hp q3.2) 0 0 _
      refine Ev.if_ne (off := 5) (tgt := 22) (by decide +kernel) (by decide) (fun b4 => ?_) (fun b4 => ?_)
      · have hf := (if_neg b4).symm.trans hf
        refine Ev.blk (pc' := 24) [(.aload_n 0, 0, 0, 0), (.iload_n 1, 0, 0, 0)] (by decide +kernel) trivial rfl (?_)
        show Ev l d mi_X9_sow 24 [some (.ref 0), some (.int p0), some (.int p1), none] [.int p0, .ref 0] (hp q3.2) 0 0 _
        obtain ⟨q5, hq5, hf⟩ := bd_some hf
        refine Ev.callV (o := 0) (M' := mi_X9_gatherHarm) (d' := d - 1) (As := [.int p0]) (rest := []) (r' := (none, hp q5)) (e_X9_gatherHarm (d := d - 1) (by omega) p0 q3.2 _ hq5) (by omega) wm_X9_gatherHarm wi_X9_gatherHarm wv_X9_gatherHarm km_9_280 (kc rfl rfl) (Nat.le_of_ble_eq_true rfl) rfl rfl rfl (Nat.le_of_ble_eq_true rfl) ⟨Nat.le_of_ble_eq_true rfl, Nat.le_of_ble_eq_true rfl⟩ (by decide +kernel) ?_
        show Ev l d mi_X9_sow 27 [some (.ref 0), some (.int p0), some (.int p1), none] [] (hp q5) 0 0 _
        refine Ev.blk (pc' := 28) [(.aload_n 0, 0, 0, 0)] (by decide +kernel) trivial rfl (?_)
        show Ev l d mi_X9_sow 28 [some (.ref 0), some (.int p0), some (.int p1), none] [.ref 0] (hp q5) 0 0 _
        obtain ⟨q6, hq6, hf⟩ := bd_some hf
        refine Ev.callV (o := 0) (M' := mi_X9_leastHarmed) (d' := d - 1) (As := []) (rest := []) (r' := (some (.int q6.1), hp q6.2)) (e_X9_leastHarmed (d := d - 1) (by omega) q5 _ hq6) (by omega) wm_X9_leastHarmed wi_X9_leastHarmed wv_X9_leastHarmed km_9_283 (kc rfl rfl) (Nat.le_of_ble_eq_true rfl) rfl rfl rfl (Nat.le_of_ble_eq_true rfl) ⟨Nat.le_of_ble_eq_true rfl, Nat.le_of_ble_eq_true rfl⟩ (by decide +kernel) ?_
        show Ev l d mi_X9_sow 31 [some (.ref 0), some (.int p0), some (.int p1), none] [.int q6.1] (hp q6.2) 0 0 _
        refine Ev.blk (pc' := 33) [(.istore_n 3, 0, 0, 0), (.iload_n 2, 0, 0, 0)] (by decide +kernel) trivial rfl (And.intro (Nat.le_of_ble_eq_true rfl) (?_))
        show Ev l d mi_X9_sow 33 [some (.ref 0), some (.int p0), some (.int p1), some (.int q6.1)] [.int p1] (hp q6.2) 0 0 _
        by_cases b7 : p1 = 0
        · have hf := (if_pos b7).symm.trans hf
          refine Ev.lswitch (dflt := 35) (ps := #[(0, 27), (1, 31)]) (len := 27) (tgt := 60) (by decide +kernel) (by decide) (by rw [b7]; decide) ?_
          refine Ev.blk (pc' := 63) [(.iload_n 3, 0, 0, 0), (.iconst 5, 0, 0, 0), (.irem, 0, 0, 0)] (by decide +kernel) trivial rfl (And.intro (by decide) (?_))
          show Ev l d mi_X9_sow 63 [some (.ref 0), some (.int p0), some (.int p1), some (.int q6.1)] [.int (q6.1 - q6.1 / (Int32.ofInt 5) * (Int32.ofInt 5))] (hp q6.2) 0 0 _
          cases hf
          exact Ev.iret .int rfl rfl (by decide +kernel) (Nat.le_refl _) (Nat.le_refl _)
        · have hf := (if_neg b7).symm.trans hf
          by_cases b8 : p1 = 1
          · have hf := (if_pos b8).symm.trans hf
            refine Ev.lswitch (dflt := 35) (ps := #[(0, 27), (1, 31)]) (len := 27) (tgt := 64) (by decide +kernel) (by decide) (by rw [b8]; decide) ?_
            refine Ev.blk (pc' := 67) [(.iload_n 3, 0, 0, 0), (.iconst 5, 0, 0, 0), (.idiv, 0, 0, 0)] (by decide +kernel) trivial rfl (And.intro (by decide) (?_))
            show Ev l d mi_X9_sow 67 [some (.ref 0), some (.int p0), some (.int p1), some (.int q6.1)] [.int (q6.1 / (Int32.ofInt 5))] (hp q6.2) 0 0 _
            cases hf
            exact Ev.iret .int rfl rfl (by decide +kernel) (Nat.le_refl _) (Nat.le_refl _)
          · have hf := (if_neg b8).symm.trans hf
            refine Ev.lswitch (dflt := 35) (ps := #[(0, 27), (1, 31)]) (len := 27) (tgt := 68) (by decide +kernel) (by decide) (by have e0 := sw_ne b7 (c := (0)) (by decide); have e1 := sw_ne b8 (c := (1)) (by decide); simp [Op.lookupswitch.offset, Ne.symm e0, Ne.symm e1]) ?_
            obtain ⟨c9, hf⟩ := gd_some hf
            refine Ev.blk (pc' := 77) [(.aload_n 0, 0, 0, 0), (.getfield 102, 0, 9, 19), (.iload_n 3, 0, 0, 0), (.iaload, 0, 0, 0), (.ldc_w 286, 999999, 0, 0)] (by decide +kernel) ⟨kf_9_102, ⟨kc_9_286, trivial⟩⟩ rfl (And.intro (kc rfl rfl) (Exists.intro 64 (And.intro rfl (And.intro (kc rfl rfl) (And.intro (ib_ok c9) (?_))))))
            show Ev l d mi_X9_sow 77 [some (.ref 0), some (.int p0), some (.int p1), some (.int q6.1)] [.int (Int32.ofInt 999999), .int (q6.2.1 64 q6.1.toNatClampNeg)] (hp q6.2) 0 0 _
            refine Ev.mmin km_9_287 wt_J9_min_7cf53 wini_12 wm_J9_min_7cf53.1 (by omega) (Nat.le_of_ble_eq_true rfl) ⟨Nat.le_refl _, Nat.le_refl _⟩ (by decide +kernel) ?_
            show Ev l d mi_X9_sow 80 [some (.ref 0), some (.int p0), some (.int p1), some (.int q6.1)] [.int (if (Int32.ofInt 999999) < (q6.2.1 64 q6.1.toNatClampNeg) then (Int32.ofInt 999999) else (q6.2.1 64 q6.1.toNatClampNeg))] (hp q6.2) 0 0 _
            cases hf
            exact Ev.iret .int rfl rfl (by decide +kernel) (Nat.le_refl _) (Nat.le_refl _)
      · have hf := (if_pos b4).symm.trans hf
        refine Ev.blk (pc' := 21) [(.iconst (-1), 0, 0, 0)] (by decide +kernel) trivial rfl (?_)
        show Ev l d mi_X9_sow 21 [some (.ref 0), some (.int p0), some (.int p1), none] [.int (Int32.ofInt (-1))] (hp q3.2) 0 0 _
        cases hf
        exact Ev.iret .int rfl rfl (by decide +kernel) (Nat.le_refl _) (Nat.le_refl _)
def f_X9_deeper (p0 : Int32) (p1 : Int32) (p2 : Int32) (s : ST) : Option (Int64 × ST) := (f_X9_isSide p0 s).bind (fun q1 => (if q1.1 = 0 then some ((Int64.ofInt (-1000000000000000)), q1.2) else (if p1 < (Int32.ofInt 1) then some ((Int64.ofInt (-1000000000000000)), q1.2) else (if (Int32.ofInt 2) < p1 then some ((Int64.ofInt (-1000000000000000)), q1.2) else (f_X9_canCome p2 (Int32.ofInt 0) ((Int8.ofInt 20).toInt32) q1.2).bind (fun q5 => (if q5.1 = 0 then some ((Int64.ofInt (-1000000000000000)), q5.2) else (f_X3_copy 46 36 q5.2).bind (fun q7 => (f_X3_passDays 46 p2 q7).bind (fun q8 => (f_X3_borne 46 q8).bind (fun q9 => (f_X3_copy 46 36 q9.2).bind (fun q10 => gd (ib p0 2) (lt (uI q10 47 p0.toNatClampNeg p1) (fun s12 => (f_X3_passDays 46 p2 s12).bind (fun q13 => (f_X3_borne 46 q13).bind (fun q14 => some ((q14.1 - q9.1).toInt64, q14.2)))))))))))))))
set_option maxHeartbeats 2000000 in
set_option maxRecDepth 20000 in
theorem e_X9_deeper {l : Launch} {d : Nat} (hd : 26 ≤ d) (p0 : Int32) (p1 : Int32) (p2 : Int32) (s : ST) (r : Int64 × ST) (hf : f_X9_deeper p0 p1 p2 s = some r) : Cl l d mi_X9_deeper [.ref 0, .int p0, .int p1, .int p2] (hp s) (some (.long r.1), hp r.2) := by
  refine Ev.entry (by decide +kernel) rfl rfl ?_
  show Ev l d mi_X9_deeper 0 [some (.ref 0), some (.int p0), some (.int p1), some (.int p2), none] [] (hp s) 0 0 _
  unfold f_X9_deeper at hf
  refine Ev.blk (pc' := 1) [(.iload_n 1, 0, 0, 0)] (by decide +kernel) trivial rfl (?_)
  show Ev l d mi_X9_deeper 1 [some (.ref 0), some (.int p0), some (.int p1), some (.int p2), none] [.int p0] (hp s) 0 0 _
  obtain ⟨q1, hq1, hf⟩ := bd_some hf
  refine Ev.callS (M' := mi_X9_isSide) (d' := d - 1) (As := [.int p0]) (rest := []) (r' := (some (.int q1.1), hp q1.2)) (e_X9_isSide (d := d - 1) (by omega) p0 s _ hq1) (by omega) wm_X9_isSide wt_X9_isSide km_9_247 rfl rfl rfl (Nat.le_of_ble_eq_true rfl) ⟨Nat.le_of_ble_eq_true rfl, Nat.le_of_ble_eq_true rfl⟩ (by decide +kernel) ?_
  show Ev l d mi_X9_deeper 4 [some (.ref 0), some (.int p0), some (.int p1), some (.int p2), none] [.int q1.1] (hp q1.2) 0 0 _
  refine Ev.if_eq (off := 24) (tgt := 28) (by decide +kernel) (by decide) (fun b2 => ?_) (fun b2 => ?_)
  · have hf := (if_pos b2).symm.trans hf
    refine Ev.blk (pc' := 31) [(.ldc2_w 253, (-1000000000000000), 0, 0)] (by decide +kernel) ⟨kl_9_253, trivial⟩ rfl (?_)
    show Ev l d mi_X9_deeper 31 [some (.ref 0), some (.int p0), some (.int p1), some (.int p2), none] [.long (Int64.ofInt (-1000000000000000))] (hp q1.2) 0 0 _
    cases hf
    exact Ev.lret rfl (by decide +kernel) (Nat.le_refl _) (Nat.le_refl _)
  · have hf := (if_neg b2).symm.trans hf
    refine Ev.blk (pc' := 9) [(.iload_n 2, 0, 0, 0), (.iconst 1, 0, 0, 0)] (by decide +kernel) trivial rfl (?_)
    show Ev l d mi_X9_deeper 9 [some (.ref 0), some (.int p0), some (.int p1), some (.int p2), none] [.int (Int32.ofInt 1), .int p1] (hp q1.2) 0 0 _
    refine Ev.icmp_lt (off := 19) (tgt := 28) (by decide +kernel) (by decide) (fun b3 => ?_) (fun b3 => ?_)
    · have hf := (if_pos b3).symm.trans hf
      refine Ev.blk (pc' := 31) [(.ldc2_w 253, (-1000000000000000), 0, 0)] (by decide +kernel) ⟨kl_9_253, trivial⟩ rfl (?_)
      show Ev l d mi_X9_deeper 31 [some (.ref 0), some (.int p0), some (.int p1), some (.int p2), none] [.long (Int64.ofInt (-1000000000000000))] (hp q1.2) 0 0 _
      cases hf
      exact Ev.lret rfl (by decide +kernel) (Nat.le_refl _) (Nat.le_refl _)
    · have hf := (if_neg b3).symm.trans hf
      refine Ev.blk (pc' := 14) [(.iload_n 2, 0, 0, 0), (.iconst 2, 0, 0, 0)] (by decide +kernel) trivial rfl (?_)
      show Ev l d mi_X9_deeper 14 [some (.ref 0), some (.int p0), some (.int p1), some (.int p2), none] [.int (Int32.ofInt 2), .int p1] (hp q1.2) 0 0 _
      refine Ev.icmp_gt (off := 14) (tgt := 28) (by decide +kernel) (by decide) (fun b4 => ?_) (fun b4 => ?_)
      · have hf := (if_pos b4).symm.trans hf
        refine Ev.blk (pc' := 31) [(.ldc2_w 253, (-1000000000000000), 0, 0)] (by decide +kernel) ⟨kl_9_253, trivial⟩ rfl (?_)
        show Ev l d mi_X9_deeper 31 [some (.ref 0), some (.int p0), some (.int p1), some (.int p2), none] [.long (Int64.ofInt (-1000000000000000))] (hp q1.2) 0 0 _
        cases hf
        exact Ev.lret rfl (by decide +kernel) (Nat.le_refl _) (Nat.le_refl _)
      · have hf := (if_neg b4).symm.trans hf
        refine Ev.blk (pc' := 22) [(.aload_n 0, 0, 0, 0), (.iload_n 3, 0, 0, 0), (.iconst 0, 0, 0, 0), (.bipush 20, 0, 0, 0)] (by decide +kernel) trivial rfl (?_)
        show Ev l d mi_X9_deeper 22 [some (.ref 0), some (.int p0), some (.int p1), some (.int p2), none] [.int ((Int8.ofInt 20).toInt32), .int (Int32.ofInt 0), .int p2, .ref 0] (hp q1.2) 0 0 _
        obtain ⟨q5, hq5, hf⟩ := bd_some hf
        refine Ev.callV (o := 0) (M' := mi_X9_canCome) (d' := d - 1) (As := [.int p2, .int (Int32.ofInt 0), .int ((Int8.ofInt 20).toInt32)]) (rest := []) (r' := (some (.int q5.1), hp q5.2)) (e_X9_canCome (d := d - 1) (by omega) p2 (Int32.ofInt 0) ((Int8.ofInt 20).toInt32) q1.2 _ hq5) (by omega) wm_X9_canCome wi_X9_canCome wv_X9_canCome km_9_267 (kc rfl rfl) (Nat.le_of_ble_eq_true rfl) rfl rfl rfl (Nat.le_of_ble_eq_true rfl) ⟨Nat.le_of_ble_eq_true rfl, Nat.le_of_ble_eq_true rfl⟩ (by decide +kernel) ?_
        show Ev l d mi_X9_deeper 25 [some (.ref 0), some (.int p0), some (.int p1), some (.int p2), none] [.int q5.1] (hp q5.2) 0 0 _
        refine Ev.if_ne (off := 7) (tgt := 32) (by decide +kernel) (by decide) (fun b6 => ?_) (fun b6 => ?_)
        · have hf := (if_neg b6).symm.trans hf
          refine Ev.blk (pc' := 40) [(.aload_n 0, 0, 0, 0), (.getfield 60, 0, 9, 7), (.aload_n 0, 0, 0, 0), (.getfield 56, 0, 9, 6)] (by decide +kernel) ⟨kf_9_60, ⟨kf_9_56, trivial⟩⟩ rfl (And.intro (kc rfl rfl) (Exists.intro 46 (And.intro rfl (And.intro (kc rfl rfl) (Exists.intro 36 (And.intro rfl (?_)))))))
          show Ev l d mi_X9_deeper 40 [some (.ref 0), some (.int p0), some (.int p1), some (.int p2), none] [.ref 36, .ref 46] (hp q5.2) 0 0 _
          obtain ⟨q7, hq7, hf⟩ := bd_some hf
          refine Ev.callV (o := 46) (M' := mi_X3_copy) (d' := d - 1) (As := [.ref 36]) (rest := []) (r' := (none, hp q7)) (e_X3_copy (d := d - 1) (by omega) 46 36 q5.2 _ hq7) (by omega) wm_X3_copy wi_X3_copy wv_X3_copy km_9_235 (kc rfl rfl) (Nat.le_of_ble_eq_true rfl) rfl rfl rfl (Nat.le_of_ble_eq_true rfl) ⟨Nat.le_of_ble_eq_true rfl, Nat.le_of_ble_eq_true rfl⟩ (by decide +kernel) ?_
          show Ev l d mi_X9_deeper 43 [some (.ref 0), some (.int p0), some (.int p1), some (.int p2), none] [] (hp q7) 0 0 _
          refine Ev.blk (pc' := 48) [(.aload_n 0, 0, 0, 0), (.getfield 60, 0, 9, 7), (.iload_n 3, 0, 0, 0)] (by decide +kernel) ⟨kf_9_60, trivial⟩ rfl (And.intro (kc rfl rfl) (Exists.intro 46 (And.intro rfl (?_))))
          show Ev l d mi_X9_deeper 48 [some (.ref 0), some (.int p0), some (.int p1), some (.int p2), none] [.int p2, .ref 46] (hp q7) 0 0 _
          obtain ⟨q8, hq8, hf⟩ := bd_some hf
          refine Ev.callV (o := 46) (M' := mi_X3_passDays) (d' := d - 1) (As := [.int p2]) (rest := []) (r' := (none, hp q8)) (e_X3_passDays (d := d - 1) (by omega) 46 p2 q7 _ hq8) (by omega) wm_X3_passDays wi_X3_passDays wv_X3_passDays km_9_271 (kc rfl rfl) (Nat.le_of_ble_eq_true rfl) rfl rfl rfl (Nat.le_of_ble_eq_true rfl) ⟨Nat.le_of_ble_eq_true rfl, Nat.le_of_ble_eq_true rfl⟩ (by decide +kernel) ?_
          show Ev l d mi_X9_deeper 51 [some (.ref 0), some (.int p0), some (.int p1), some (.int p2), none] [] (hp q8) 0 0 _
          refine Ev.blk (pc' := 55) [(.aload_n 0, 0, 0, 0), (.getfield 60, 0, 9, 7)] (by decide +kernel) ⟨kf_9_60, trivial⟩ rfl (And.intro (kc rfl rfl) (Exists.intro 46 (And.intro rfl (?_))))
          show Ev l d mi_X9_deeper 55 [some (.ref 0), some (.int p0), some (.int p1), some (.int p2), none] [.ref 46] (hp q8) 0 0 _
          obtain ⟨q9, hq9, hf⟩ := bd_some hf
          refine Ev.callV (o := 46) (M' := mi_X3_borne) (d' := d - 1) (As := []) (rest := []) (r' := (some (.int q9.1), hp q9.2)) (e_X3_borne (d := d - 1) (by omega) 46 q8 _ hq9) (by omega) wm_X3_borne wi_X3_borne wv_X3_borne km_9_160 (kc rfl rfl) (Nat.le_of_ble_eq_true rfl) rfl rfl rfl (Nat.le_of_ble_eq_true rfl) ⟨Nat.le_of_ble_eq_true rfl, Nat.le_of_ble_eq_true rfl⟩ (by decide +kernel) ?_
          show Ev l d mi_X9_deeper 58 [some (.ref 0), some (.int p0), some (.int p1), some (.int p2), none] [.int q9.1] (hp q9.2) 0 0 _
          refine Ev.blk (pc' := 68) [(.istore 4, 0, 0, 0), (.aload_n 0, 0, 0, 0), (.getfield 60, 0, 9, 7), (.aload_n 0, 0, 0, 0), (.getfield 56, 0, 9, 6)] (by decide +kernel) ⟨kf_9_60, ⟨kf_9_56, trivial⟩⟩ rfl (And.intro (Nat.le_of_ble_eq_true rfl) (And.intro (kc rfl rfl) (Exists.intro 46 (And.intro rfl (And.intro (kc rfl rfl) (Exists.intro 36 (And.intro rfl (?_))))))))
          show Ev l d mi_X9_deeper 68 [some (.ref 0), some (.int p0), some (.int p1), some (.int p2), some (.int q9.1)] [.ref 36, .ref 46] (hp q9.2) 0 0 _
          obtain ⟨q10, hq10, hf⟩ := bd_some hf
          refine Ev.callV (o := 46) (M' := mi_X3_copy) (d' := d - 1) (As := [.ref 36]) (rest := []) (r' := (none, hp q10)) (e_X3_copy (d := d - 1) (by omega) 46 36 q9.2 _ hq10) (by omega) wm_X3_copy wi_X3_copy wv_X3_copy km_9_235 (kc rfl rfl) (Nat.le_of_ble_eq_true rfl) rfl rfl rfl (Nat.le_of_ble_eq_true rfl) ⟨Nat.le_of_ble_eq_true rfl, Nat.le_of_ble_eq_true rfl⟩ (by decide +kernel) ?_
          show Ev l d mi_X9_deeper 71 [some (.ref 0), some (.int p0), some (.int p1), some (.int p2), some (.int q9.1)] [] (hp q10) 0 0 _
          obtain ⟨c11, hf⟩ := gd_some hf
          obtain ⟨s12, hs12, hf⟩ := lt_some hf
          refine Ev.blk (pc' := 86) [(.aload_n 0, 0, 0, 0), (.getfield 60, 0, 9, 7), (.getfield 292, 0, 3, 3), (.iload_n 1, 0, 0, 0), (.iload_n 2, 0, 0, 0), (.iastore, 0, 0, 0), (.aload_n 0, 0, 0, 0), (.getfield 60, 0, 9, 7), (.iload_n 3, 0, 0, 0)] (by decide +kernel) ⟨kf_9_60, ⟨kf_9_292, ⟨kf_9_60, trivial⟩⟩⟩ rfl (And.intro (kc rfl rfl) (Exists.intro 46 (And.intro rfl (And.intro (kc rfl rfl) (Exists.intro 47 (And.intro rfl (And.intro (kc rfl rfl) (And.intro (ib_ok c11) (And.intro (kc rfl rfl) (Exists.intro 46 (And.intro rfl (?_))))))))))))
          show Ev l d mi_X9_deeper 86 [some (.ref 0), some (.int p0), some (.int p1), some (.int p2), some (.int q9.1)] [.int p2, .ref 46] (hp (uI q10 47 p0.toNatClampNeg p1)) 0 0 _
          rw [← hs12]
          obtain ⟨q13, hq13, hf⟩ := bd_some hf
          refine Ev.callV (o := 46) (M' := mi_X3_passDays) (d' := d - 1) (As := [.int p2]) (rest := []) (r' := (none, hp q13)) (e_X3_passDays (d := d - 1) (by omega) 46 p2 s12 _ hq13) (by omega) wm_X3_passDays wi_X3_passDays wv_X3_passDays km_9_271 (kc rfl rfl) (Nat.le_of_ble_eq_true rfl) rfl rfl rfl (Nat.le_of_ble_eq_true rfl) ⟨Nat.le_of_ble_eq_true rfl, Nat.le_of_ble_eq_true rfl⟩ (by decide +kernel) ?_
          show Ev l d mi_X9_deeper 89 [some (.ref 0), some (.int p0), some (.int p1), some (.int p2), some (.int q9.1)] [] (hp q13) 0 0 _
          refine Ev.blk (pc' := 93) [(.aload_n 0, 0, 0, 0), (.getfield 60, 0, 9, 7)] (by decide +kernel) ⟨kf_9_60, trivial⟩ rfl (And.intro (kc rfl rfl) (Exists.intro 46 (And.intro rfl (?_))))
          show Ev l d mi_X9_deeper 93 [some (.ref 0), some (.int p0), some (.int p1), some (.int p2), some (.int q9.1)] [.ref 46] (hp q13) 0 0 _
          obtain ⟨q14, hq14, hf⟩ := bd_some hf
          refine Ev.callV (o := 46) (M' := mi_X3_borne) (d' := d - 1) (As := []) (rest := []) (r' := (some (.int q14.1), hp q14.2)) (e_X3_borne (d := d - 1) (by omega) 46 q13 _ hq14) (by omega) wm_X3_borne wi_X3_borne wv_X3_borne km_9_160 (kc rfl rfl) (Nat.le_of_ble_eq_true rfl) rfl rfl rfl (Nat.le_of_ble_eq_true rfl) ⟨Nat.le_of_ble_eq_true rfl, Nat.le_of_ble_eq_true rfl⟩ (by decide +kernel) ?_
          show Ev l d mi_X9_deeper 96 [some (.ref 0), some (.int p0), some (.int p1), some (.int p2), some (.int q9.1)] [.int q14.1] (hp q14.2) 0 0 _
          refine Ev.blk (pc' := 100) [(.iload 4, 0, 0, 0), (.isub, 0, 0, 0), (.i2l, 0, 0, 0)] (by decide +kernel) trivial rfl (?_)
          show Ev l d mi_X9_deeper 100 [some (.ref 0), some (.int p0), some (.int p1), some (.int p2), some (.int q9.1)] [.long (q14.1 - q9.1).toInt64] (hp q14.2) 0 0 _
          cases hf
          exact Ev.lret rfl (by decide +kernel) (Nat.le_refl _) (Nat.le_refl _)
        · have hf := (if_pos b6).symm.trans hf
          refine Ev.blk (pc' := 31) [(.ldc2_w 253, (-1000000000000000), 0, 0)] (by decide +kernel) ⟨kl_9_253, trivial⟩ rfl (?_)
          show Ev l d mi_X9_deeper 31 [some (.ref 0), some (.int p0), some (.int p1), some (.int p2), none] [.long (Int64.ofInt (-1000000000000000))] (hp q5.2) 0 0 _
          cases hf
          exact Ev.lret rfl (by decide +kernel) (Nat.le_refl _) (Nat.le_refl _)
def f_X9_see_L42 (k72 : Int32 → Int32 → ST → Option (Int32 × ST)) : Nat → Int32 → Int32 → Int32 → ST → Option (Int32 × ST)
  | 0, _, _, _, _ => none
  | n + 1, x1, x2, x3, s => (if x2 = 0 then k72 x1 x2 s else (if x1 ≤ x3 then k72 x1 x2 s else (f_X7_byteAt ((Int32.ofInt 3) * x3) s).bind (fun q6 => (f_X9_isField q6.1 q6.2).bind (fun q7 => (f_X9_see_L42 k72 n) x1 q7.1 (x3 + Int32.ofInt 1) q7.2))))
set_option maxHeartbeats 2000000 in
set_option maxRecDepth 20000 in
theorem e_X9_see_L42 {l : Launch} {d : Nat} (hd : 3 ≤ d) (k72 : Int32 → Int32 → ST → Option (Int32 × ST)) (hk72 : ∀ (x1 : Int32) (x2 : Int32) (s : ST) (r : Int32 × ST), k72 x1 x2 s = some r → Ev l d mi_X9_see 72 [some (.ref 0), some (.int x1), some (.int x2), none] [] (hp s) 0 0 (some (.int r.1), hp r.2)) : ∀ (n : Nat) (x1 : Int32) (x2 : Int32) (x3 : Int32) (s : ST) (r : Int32 × ST), f_X9_see_L42 k72 n x1 x2 x3 s = some r → Ev l d mi_X9_see 42 [some (.ref 0), some (.int x1), some (.int x2), some (.int x3)] [] (hp s) 0 0 (some (.int r.1), hp r.2) := by
  intro n
  induction n with
  | zero =>
    intro x1 x2 x3 s r hf
    cases hf
  | succ n ih =>
    intro x1 x2 x3 s r hf
    unfold f_X9_see_L42 at hf
    refine Ev.blk (pc' := 43) [(.iload_n 2, 0, 0, 0)] (by decide +kernel) trivial rfl (?_)
    show Ev l d mi_X9_see 43 [some (.ref 0), some (.int x1), some (.int x2), some (.int x3)] [.int x2] (hp s) 0 0 _
    refine Ev.if_eq (off := 29) (tgt := 72) (by decide +kernel) (by decide) (fun b4 => ?_) (fun b4 => ?_)
    · have hf := (if_pos b4).symm.trans hf
      exact Ev.wk (hk72 x1 x2 s _ hf) (And.intro (Or.inr rfl) (And.intro (Or.inr rfl) (And.intro (Or.inr rfl) (And.intro (Or.inl rfl) (trivial)))))
    · have hf := (if_neg b4).symm.trans hf
      refine Ev.blk (pc' := 48) [(.iload_n 3, 0, 0, 0), (.iload_n 1, 0, 0, 0)] (by decide +kernel) trivial rfl (?_)
      show Ev l d mi_X9_see 48 [some (.ref 0), some (.int x1), some (.int x2), some (.int x3)] [.int x1, .int x3] (hp s) 0 0 _
      refine Ev.icmp_ge (off := 24) (tgt := 72) (by decide +kernel) (by decide) (fun b5 => ?_) (fun b5 => ?_)
      · have hf := (if_pos b5).symm.trans hf
        exact Ev.wk (hk72 x1 x2 s _ hf) (And.intro (Or.inr rfl) (And.intro (Or.inr rfl) (And.intro (Or.inr rfl) (And.intro (Or.inl rfl) (trivial)))))
      · have hf := (if_neg b5).symm.trans hf
        refine Ev.blk (pc' := 59) [(.aload_n 0, 0, 0, 0), (.aload_n 0, 0, 0, 0), (.getfield 12, 0, 9, 0), (.iconst 3, 0, 0, 0), (.iload_n 3, 0, 0, 0), (.imul, 0, 0, 0)] (by decide +kernel) ⟨kf_9_12, trivial⟩ rfl (And.intro (kc rfl rfl) (Exists.intro 1 (And.intro rfl (?_))))
        show Ev l d mi_X9_see 59 [some (.ref 0), some (.int x1), some (.int x2), some (.int x3)] [.int ((Int32.ofInt 3) * x3), .ref 1, .ref 0] (hp s) 0 0 _
        obtain ⟨q6, hq6, hf⟩ := bd_some hf
        refine Ev.callV (o := 1) (M' := mi_X7_byteAt) (d' := d - 1) (As := [.int ((Int32.ofInt 3) * x3)]) (rest := [.ref 0]) (r' := (some (.int q6.1), hp q6.2)) (e_X7_byteAt (d := d - 1) (by omega) ((Int32.ofInt 3) * x3) s _ hq6) (by omega) wm_X7_byteAt wi_X7_byteAt wv_X7_byteAt km_9_295 (kc rfl rfl) (Nat.le_of_ble_eq_true rfl) rfl rfl rfl (Nat.le_of_ble_eq_true rfl) ⟨Nat.le_of_ble_eq_true rfl, Nat.le_of_ble_eq_true rfl⟩ (by decide +kernel) ?_
        show Ev l d mi_X9_see 62 [some (.ref 0), some (.int x1), some (.int x2), some (.int x3)] [.int q6.1, .ref 0] (hp q6.2) 0 0 _
        obtain ⟨q7, hq7, hf⟩ := bd_some hf
        refine Ev.callV (o := 0) (M' := mi_X9_isField) (d' := d - 1) (As := [.int q6.1]) (rest := []) (r' := (some (.int q7.1), hp q7.2)) (e_X9_isField (d := d - 1) (by omega) q6.1 q6.2 _ hq7) (by omega) wm_X9_isField wi_X9_isField wv_X9_isField km_9_206 (kc rfl rfl) (Nat.le_of_ble_eq_true rfl) rfl rfl rfl (Nat.le_of_ble_eq_true rfl) ⟨Nat.le_of_ble_eq_true rfl, Nat.le_of_ble_eq_true rfl⟩ (by decide +kernel) ?_
        show Ev l d mi_X9_see 65 [some (.ref 0), some (.int x1), some (.int x2), some (.int x3)] [.int q7.1] (hp q7.2) 0 0 _
        refine Ev.blk (pc' := 69) [(.istore_n 2, 0, 0, 0), (.iinc 3 1, 0, 0, 0)] (by decide +kernel) trivial rfl (And.intro (Nat.le_of_ble_eq_true rfl) (And.intro (Nat.le_of_ble_eq_true rfl) (?_)))
        show Ev l d mi_X9_see 69 [some (.ref 0), some (.int x1), some (.int q7.1), some (.int (x3 + Int32.ofInt 1))] [] (hp q7.2) 0 0 _
        refine Ev.goto (off := -27) (tgt := 42) (by decide +kernel) (by decide) ?_
        exact ih x1 q7.1 (x3 + Int32.ofInt 1) q7.2 _ hf
def f_X9_see_j134 (x1 : Int32) (x2 : Int32) (s : ST) : Option (Int32 × ST) := lt (uI s 1 1 (Int32.ofInt 0)) (fun s17 => (if x2 = 0 then (f_X9_refuse (Int32.ofInt 1) s17).bind (fun q19 => some (q19.1, q19.2)) else some (x1, s17)))
set_option maxHeartbeats 2000000 in
set_option maxRecDepth 20000 in
theorem e_X9_see_j134 {l : Launch} {d : Nat} (hd : 3 ≤ d) (x1 : Int32) (x2 : Int32) (s : ST) (r : Int32 × ST) (hf : f_X9_see_j134 x1 x2 s = some r) : Ev l d mi_X9_see 134 [some (.ref 0), some (.int x1), some (.int x2), none] [] (hp s) 0 0 (some (.int r.1), hp r.2) := by
  unfold f_X9_see_j134 at hf
  obtain ⟨s17, hs17, hf⟩ := lt_some hf
  refine Ev.blk (pc' := 143) [(.aload_n 0, 0, 0, 0), (.getfield 12, 0, 9, 0), (.iconst 0, 0, 0, 0), (.putfield 105, 0, 7, 1), (.iload_n 2, 0, 0, 0)] (by decide +kernel) ⟨kf_9_12, ⟨⟨kf_9_105, Or.inl rfl⟩, trivial⟩⟩ rfl (And.intro (kc rfl rfl) (Exists.intro 1 (And.intro rfl (And.intro (kc rfl rfl) (?_)))))
  show Ev l d mi_X9_see 143 [some (.ref 0), some (.int x1), some (.int x2), none] [.int x2] (hp (uI s 1 1 (Int32.ofInt 0))) 0 0 _
  rw [← hs17]
  refine Ev.if_eq (off := 7) (tgt := 150) (by decide +kernel) (by decide) (fun b18 => ?_) (fun b18 => ?_)
  · have hf := (if_pos b18).symm.trans hf
    refine Ev.blk (pc' := 152) [(.aload_n 0, 0, 0, 0), (.iconst 1, 0, 0, 0)] (by decide +kernel) trivial rfl (?_)
    show Ev l d mi_X9_see 152 [some (.ref 0), some (.int x1), some (.int x2), none] [.int (Int32.ofInt 1), .ref 0] (hp s17) 0 0 _
    obtain ⟨q19, hq19, hf⟩ := bd_some hf
    refine Ev.callV (o := 0) (M' := mi_X9_refuse) (d' := d - 1) (As := [.int (Int32.ofInt 1)]) (rest := []) (r' := (some (.int q19.1), hp q19.2)) (e_X9_refuse (d := d - 1) (by omega) (Int32.ofInt 1) s17 _ hq19) (by omega) wm_X9_refuse wi_X9_refuse wv_X9_refuse km_9_108 (kc rfl rfl) (Nat.le_of_ble_eq_true rfl) rfl rfl rfl (Nat.le_of_ble_eq_true rfl) ⟨Nat.le_of_ble_eq_true rfl, Nat.le_of_ble_eq_true rfl⟩ (by decide +kernel) ?_
    show Ev l d mi_X9_see 155 [some (.ref 0), some (.int x1), some (.int x2), none] [.int q19.1] (hp q19.2) 0 0 _
    cases hf
    exact Ev.iret .int rfl rfl (by decide +kernel) (Nat.le_refl _) (Nat.le_refl _)
  · have hf := (if_neg b18).symm.trans hf
    refine Ev.blk (pc' := 147) [(.iload_n 1, 0, 0, 0)] (by decide +kernel) trivial rfl (?_)
    show Ev l d mi_X9_see 147 [some (.ref 0), some (.int x1), some (.int x2), none] [.int x1] (hp s17) 0 0 _
    refine Ev.goto (off := 8) (tgt := 155) (by decide +kernel) (by decide) ?_
    cases hf
    exact Ev.iret .int rfl rfl (by decide +kernel) (Nat.le_refl _) (Nat.le_refl _)
def f_X9_see_L78 (k129 : Int32 → Int32 → ST → Option (Int32 × ST)) : Nat → Int32 → Int32 → Int32 → ST → Option (Int32 × ST)
  | 0, _, _, _, _ => none
  | n + 1, x1, x2, x3, s => (if x1 ≤ x3 then k129 x1 x2 s else (if ((Int8.ofInt 16).toInt32) ≤ x3 then k129 x1 x2 s else (f_X7_byteAt ((Int32.ofInt 3) * x3) s).bind (fun q11 => gd (ib x3 16) (lt (uI q11.2 59 x3.toNatClampNeg q11.1) (fun s13 => (f_X7_pairAt (((Int32.ofInt 3) * x3) + (Int32.ofInt 1)) s13).bind (fun q14 => gd (ib x3 16) (lt (uI q14.2 60 x3.toNatClampNeg q14.1) (fun s16 => (f_X9_see_L78 k129 n) x1 x2 (x3 + Int32.ofInt 1) s16))))))))
set_option maxHeartbeats 2000000 in
set_option maxRecDepth 20000 in
theorem e_X9_see_L78 {l : Launch} {d : Nat} (hd : 3 ≤ d) (k129 : Int32 → Int32 → ST → Option (Int32 × ST)) (hk129 : ∀ (x1 : Int32) (x2 : Int32) (s : ST) (r : Int32 × ST), k129 x1 x2 s = some r → Ev l d mi_X9_see 129 [some (.ref 0), some (.int x1), some (.int x2), none] [] (hp s) 0 0 (some (.int r.1), hp r.2)) : ∀ (n : Nat) (x1 : Int32) (x2 : Int32) (x3 : Int32) (s : ST) (r : Int32 × ST), f_X9_see_L78 k129 n x1 x2 x3 s = some r → Ev l d mi_X9_see 78 [some (.ref 0), some (.int x1), some (.int x2), some (.int x3)] [] (hp s) 0 0 (some (.int r.1), hp r.2) := by
  intro n
  induction n with
  | zero =>
    intro x1 x2 x3 s r hf
    cases hf
  | succ n ih =>
    intro x1 x2 x3 s r hf
    unfold f_X9_see_L78 at hf
    refine Ev.blk (pc' := 80) [(.iload_n 3, 0, 0, 0), (.iload_n 1, 0, 0, 0)] (by decide +kernel) trivial rfl (?_)
    show Ev l d mi_X9_see 80 [some (.ref 0), some (.int x1), some (.int x2), some (.int x3)] [.int x1, .int x3] (hp s) 0 0 _
    refine Ev.icmp_ge (off := 49) (tgt := 129) (by decide +kernel) (by decide) (fun b9 => ?_) (fun b9 => ?_)
    · have hf := (if_pos b9).symm.trans hf
      exact Ev.wk (hk129 x1 x2 s _ hf) (And.intro (Or.inr rfl) (And.intro (Or.inr rfl) (And.intro (Or.inr rfl) (And.intro (Or.inl rfl) (trivial)))))
    · have hf := (if_neg b9).symm.trans hf
      refine Ev.blk (pc' := 86) [(.iload_n 3, 0, 0, 0), (.bipush 16, 0, 0, 0)] (by decide +kernel) trivial rfl (?_)
      show Ev l d mi_X9_see 86 [some (.ref 0), some (.int x1), some (.int x2), some (.int x3)] [.int ((Int8.ofInt 16).toInt32), .int x3] (hp s) 0 0 _
      refine Ev.icmp_ge (off := 43) (tgt := 129) (by decide +kernel) (by decide) (fun b10 => ?_) (fun b10 => ?_)
      · have hf := (if_pos b10).symm.trans hf
        exact Ev.wk (hk129 x1 x2 s _ hf) (And.intro (Or.inr rfl) (And.intro (Or.inr rfl) (And.intro (Or.inr rfl) (And.intro (Or.inl rfl) (trivial)))))
      · have hf := (if_neg b10).symm.trans hf
        refine Ev.blk (pc' := 101) [(.aload_n 0, 0, 0, 0), (.getfield 70, 0, 9, 9), (.iload_n 3, 0, 0, 0), (.aload_n 0, 0, 0, 0), (.getfield 12, 0, 9, 0), (.iconst 3, 0, 0, 0), (.iload_n 3, 0, 0, 0), (.imul, 0, 0, 0)] (by decide +kernel) ⟨kf_9_70, ⟨kf_9_12, trivial⟩⟩ rfl (And.intro (kc rfl rfl) (Exists.intro 59 (And.intro rfl (And.intro (kc rfl rfl) (Exists.intro 1 (And.intro rfl (?_)))))))
        show Ev l d mi_X9_see 101 [some (.ref 0), some (.int x1), some (.int x2), some (.int x3)] [.int ((Int32.ofInt 3) * x3), .ref 1, .int x3, .ref 59] (hp s) 0 0 _
        obtain ⟨q11, hq11, hf⟩ := bd_some hf
        refine Ev.callV (o := 1) (M' := mi_X7_byteAt) (d' := d - 1) (As := [.int ((Int32.ofInt 3) * x3)]) (rest := [.int x3, .ref 59]) (r' := (some (.int q11.1), hp q11.2)) (e_X7_byteAt (d := d - 1) (by omega) ((Int32.ofInt 3) * x3) s _ hq11) (by omega) wm_X7_byteAt wi_X7_byteAt wv_X7_byteAt km_9_295 (kc rfl rfl) (Nat.le_of_ble_eq_true rfl) rfl rfl rfl (Nat.le_of_ble_eq_true rfl) ⟨Nat.le_of_ble_eq_true rfl, Nat.le_of_ble_eq_true rfl⟩ (by decide +kernel) ?_
        show Ev l d mi_X9_see 104 [some (.ref 0), some (.int x1), some (.int x2), some (.int x3)] [.int q11.1, .int x3, .ref 59] (hp q11.2) 0 0 _
        obtain ⟨c12, hf⟩ := gd_some hf
        obtain ⟨s13, hs13, hf⟩ := lt_some hf
        refine Ev.blk (pc' := 119) [(.iastore, 0, 0, 0), (.aload_n 0, 0, 0, 0), (.getfield 74, 0, 9, 10), (.iload_n 3, 0, 0, 0), (.aload_n 0, 0, 0, 0), (.getfield 12, 0, 9, 0), (.iconst 3, 0, 0, 0), (.iload_n 3, 0, 0, 0), (.imul, 0, 0, 0), (.iconst 1, 0, 0, 0), (.iadd, 0, 0, 0)] (by decide +kernel) ⟨kf_9_74, ⟨kf_9_12, trivial⟩⟩ rfl (And.intro (kc rfl rfl) (And.intro (ib_ok c12) (And.intro (kc rfl rfl) (Exists.intro 60 (And.intro rfl (And.intro (kc rfl rfl) (Exists.intro 1 (And.intro rfl (?_)))))))))
        show Ev l d mi_X9_see 119 [some (.ref 0), some (.int x1), some (.int x2), some (.int x3)] [.int (((Int32.ofInt 3) * x3) + (Int32.ofInt 1)), .ref 1, .int x3, .ref 60] (hp (uI q11.2 59 x3.toNatClampNeg q11.1)) 0 0 _
        rw [← hs13]
        obtain ⟨q14, hq14, hf⟩ := bd_some hf
        refine Ev.callV (o := 1) (M' := mi_X7_pairAt) (d' := d - 1) (As := [.int (((Int32.ofInt 3) * x3) + (Int32.ofInt 1))]) (rest := [.int x3, .ref 60]) (r' := (some (.int q14.1), hp q14.2)) (e_X7_pairAt (d := d - 1) (by omega) (((Int32.ofInt 3) * x3) + (Int32.ofInt 1)) s13 _ hq14) (by omega) wm_X7_pairAt wi_X7_pairAt wv_X7_pairAt km_9_298 (kc rfl rfl) (Nat.le_of_ble_eq_true rfl) rfl rfl rfl (Nat.le_of_ble_eq_true rfl) ⟨Nat.le_of_ble_eq_true rfl, Nat.le_of_ble_eq_true rfl⟩ (by decide +kernel) ?_
        show Ev l d mi_X9_see 122 [some (.ref 0), some (.int x1), some (.int x2), some (.int x3)] [.int q14.1, .int x3, .ref 60] (hp q14.2) 0 0 _
        obtain ⟨c15, hf⟩ := gd_some hf
        obtain ⟨s16, hs16, hf⟩ := lt_some hf
        refine Ev.blk (pc' := 126) [(.iastore, 0, 0, 0), (.iinc 3 1, 0, 0, 0)] (by decide +kernel) trivial rfl (And.intro (kc rfl rfl) (And.intro (ib_ok c15) (And.intro (Nat.le_of_ble_eq_true rfl) (?_))))
        show Ev l d mi_X9_see 126 [some (.ref 0), some (.int x1), some (.int x2), some (.int (x3 + Int32.ofInt 1))] [] (hp (uI q14.2 60 x3.toNatClampNeg q14.1)) 0 0 _
        rw [← hs16]
        refine Ev.goto (off := -48) (tgt := 78) (by decide +kernel) (by decide) ?_
        exact ih x1 x2 (x3 + Int32.ofInt 1) s16 _ hf
def f_X9_see_j129 (x1 : Int32) (x2 : Int32) (s : ST) : Option (Int32 × ST) := lt (uI s 0 11 x1) (fun s20 => f_X9_see_j134 x1 x2 s20)
set_option maxHeartbeats 2000000 in
set_option maxRecDepth 20000 in
theorem e_X9_see_j129 {l : Launch} {d : Nat} (hd : 3 ≤ d) (x1 : Int32) (x2 : Int32) (s : ST) (r : Int32 × ST) (hf : f_X9_see_j129 x1 x2 s = some r) : Ev l d mi_X9_see 129 [some (.ref 0), some (.int x1), some (.int x2), none] [] (hp s) 0 0 (some (.int r.1), hp r.2) := by
  unfold f_X9_see_j129 at hf
  obtain ⟨s20, hs20, hf⟩ := lt_some hf
  refine Ev.blk (pc' := 134) [(.aload_n 0, 0, 0, 0), (.iload_n 1, 0, 0, 0), (.putfield 77, 0, 9, 11)] (by decide +kernel) ⟨⟨kf_9_77, Or.inl rfl⟩, trivial⟩ rfl (And.intro (kc rfl rfl) (?_))
  show Ev l d mi_X9_see 134 [some (.ref 0), some (.int x1), some (.int x2), none] [] (hp (uI s 0 11 x1)) 0 0 _
  rw [← hs20]
  exact (e_X9_see_j134 hd) x1 x2 s20 _ hf
def f_X9_see_j72 (x1 : Int32) (x2 : Int32) (s : ST) : Option (Int32 × ST) := (if x2 = 0 then f_X9_see_j134 x1 x2 s else (f_X9_see_L78 f_X9_see_j129 fuel) x1 x2 (Int32.ofInt 0) s)
set_option maxHeartbeats 2000000 in
set_option maxRecDepth 20000 in
theorem e_X9_see_j72 {l : Launch} {d : Nat} (hd : 3 ≤ d) (x1 : Int32) (x2 : Int32) (s : ST) (r : Int32 × ST) (hf : f_X9_see_j72 x1 x2 s = some r) : Ev l d mi_X9_see 72 [some (.ref 0), some (.int x1), some (.int x2), none] [] (hp s) 0 0 (some (.int r.1), hp r.2) := by
  unfold f_X9_see_j72 at hf
  refine Ev.blk (pc' := 73) [(.iload_n 2, 0, 0, 0)] (by decide +kernel) trivial rfl (?_)
  show Ev l d mi_X9_see 73 [some (.ref 0), some (.int x1), some (.int x2), none] [.int x2] (hp s) 0 0 _
  refine Ev.if_eq (off := 61) (tgt := 134) (by decide +kernel) (by decide) (fun b8 => ?_) (fun b8 => ?_)
  · have hf := (if_pos b8).symm.trans hf
    exact (e_X9_see_j134 hd) x1 x2 s _ hf
  · have hf := (if_neg b8).symm.trans hf
    refine Ev.blk (pc' := 78) [(.iconst 0, 0, 0, 0), (.istore_n 3, 0, 0, 0)] (by decide +kernel) trivial rfl (And.intro (Nat.le_of_ble_eq_true rfl) (?_))
    show Ev l d mi_X9_see 78 [some (.ref 0), some (.int x1), some (.int x2), some (.int (Int32.ofInt 0))] [] (hp s) 0 0 _
    exact (e_X9_see_L78 hd f_X9_see_j129 (e_X9_see_j129 hd) fuel) x1 x2 (Int32.ofInt 0) s _ hf
def f_X9_see_j39 (x1 : Int32) (y0 : Int32) (s : ST) : Option (Int32 × ST) := (f_X9_see_L42 f_X9_see_j72 fuel) x1 y0 (Int32.ofInt 0) s
set_option maxHeartbeats 2000000 in
set_option maxRecDepth 20000 in
theorem e_X9_see_j39 {l : Launch} {d : Nat} (hd : 3 ≤ d) (x1 : Int32) (y0 : Int32) (s : ST) (r : Int32 × ST) (hf : f_X9_see_j39 x1 y0 s = some r) : Ev l d mi_X9_see 39 [some (.ref 0), some (.int x1), none, none] [.int y0] (hp s) 0 0 (some (.int r.1), hp r.2) := by
  unfold f_X9_see_j39 at hf
  refine Ev.blk (pc' := 42) [(.istore_n 2, 0, 0, 0), (.iconst 0, 0, 0, 0), (.istore_n 3, 0, 0, 0)] (by decide +kernel) trivial rfl (And.intro (Nat.le_of_ble_eq_true rfl) (And.intro (Nat.le_of_ble_eq_true rfl) (?_)))
  show Ev l d mi_X9_see 42 [some (.ref 0), some (.int x1), some (.int y0), some (.int (Int32.ofInt 0))] [] (hp s) 0 0 _
  exact (e_X9_see_L42 hd f_X9_see_j72 (e_X9_see_j72 hd) fuel) x1 y0 (Int32.ofInt 0) s _ hf
def f_X9_see_j38 (x1 : Int32) (s : ST) : Option (Int32 × ST) := f_X9_see_j39 x1 (Int32.ofInt 0) s
set_option maxHeartbeats 2000000 in
set_option maxRecDepth 20000 in
theorem e_X9_see_j38 {l : Launch} {d : Nat} (hd : 3 ≤ d) (x1 : Int32) (s : ST) (r : Int32 × ST) (hf : f_X9_see_j38 x1 s = some r) : Ev l d mi_X9_see 38 [some (.ref 0), some (.int x1), none, none] [] (hp s) 0 0 (some (.int r.1), hp r.2) := by
  unfold f_X9_see_j38 at hf
  refine Ev.blk (pc' := 39) [(.iconst 0, 0, 0, 0)] (by decide +kernel) trivial rfl (?_)
  show Ev l d mi_X9_see 39 [some (.ref 0), some (.int x1), none, none] [.int (Int32.ofInt 0)] (hp s) 0 0 _
  exact (e_X9_see_j39 hd) x1 (Int32.ofInt 0) s _ hf
def f_X9_see (s : ST) : Option (Int32 × ST) := (if ((s.1 1 1) / (Int32.ofInt 3)) < (Int32.ofInt 1) then f_X9_see_j38 ((s.1 1 1) / (Int32.ofInt 3)) s else (if ((Int8.ofInt 16).toInt32) < ((s.1 1 1) / (Int32.ofInt 3)) then f_X9_see_j38 ((s.1 1 1) / (Int32.ofInt 3)) s else (if (((s.1 1 1) / (Int32.ofInt 3)) * (Int32.ofInt 3)) = (s.1 1 1) then f_X9_see_j39 ((s.1 1 1) / (Int32.ofInt 3)) (Int32.ofInt 1) s else f_X9_see_j38 ((s.1 1 1) / (Int32.ofInt 3)) s)))
set_option maxHeartbeats 2000000 in
set_option maxRecDepth 20000 in
theorem e_X9_see {l : Launch} {d : Nat} (hd : 3 ≤ d) (s : ST) (r : Int32 × ST) (hf : f_X9_see s = some r) : Cl l d mi_X9_see [.ref 0] (hp s) (some (.int r.1), hp r.2) := by
  refine Ev.entry (by decide +kernel) rfl rfl ?_
  show Ev l d mi_X9_see 0 [some (.ref 0), none, none, none] [] (hp s) 0 0 _
  unfold f_X9_see at hf
  refine Ev.blk (pc' := 12) [(.aload_n 0, 0, 0, 0), (.getfield 12, 0, 9, 0), (.getfield 105, 0, 7, 1), (.iconst 3, 0, 0, 0), (.idiv, 0, 0, 0), (.istore_n 1, 0, 0, 0), (.iload_n 1, 0, 0, 0), (.iconst 1, 0, 0, 0)] (by decide +kernel) ⟨kf_9_12, ⟨kf_9_105, trivial⟩⟩ rfl (And.intro (kc rfl rfl) (Exists.intro 1 (And.intro rfl (And.intro (kc rfl rfl) (And.intro (by decide) (And.intro (Nat.le_of_ble_eq_true rfl) (?_)))))))
  show Ev l d mi_X9_see 12 [some (.ref 0), some (.int ((s.1 1 1) / (Int32.ofInt 3))), none, none] [.int (Int32.ofInt 1), .int ((s.1 1 1) / (Int32.ofInt 3))] (hp s) 0 0 _
  refine Ev.icmp_lt (off := 26) (tgt := 38) (by decide +kernel) (by decide) (fun b1 => ?_) (fun b1 => ?_)
  · have hf := (if_pos b1).symm.trans hf
    exact (e_X9_see_j38 hd) ((s.1 1 1) / (Int32.ofInt 3)) s _ hf
  · have hf := (if_neg b1).symm.trans hf
    refine Ev.blk (pc' := 18) [(.iload_n 1, 0, 0, 0), (.bipush 16, 0, 0, 0)] (by decide +kernel) trivial rfl (?_)
    show Ev l d mi_X9_see 18 [some (.ref 0), some (.int ((s.1 1 1) / (Int32.ofInt 3))), none, none] [.int ((Int8.ofInt 16).toInt32), .int ((s.1 1 1) / (Int32.ofInt 3))] (hp s) 0 0 _
    refine Ev.icmp_gt (off := 20) (tgt := 38) (by decide +kernel) (by decide) (fun b2 => ?_) (fun b2 => ?_)
    · have hf := (if_pos b2).symm.trans hf
      exact (e_X9_see_j38 hd) ((s.1 1 1) / (Int32.ofInt 3)) s _ hf
    · have hf := (if_neg b2).symm.trans hf
      refine Ev.blk (pc' := 31) [(.iload_n 1, 0, 0, 0), (.iconst 3, 0, 0, 0), (.imul, 0, 0, 0), (.aload_n 0, 0, 0, 0), (.getfield 12, 0, 9, 0), (.getfield 105, 0, 7, 1)] (by decide +kernel) ⟨kf_9_12, ⟨kf_9_105, trivial⟩⟩ rfl (And.intro (kc rfl rfl) (Exists.intro 1 (And.intro rfl (And.intro (kc rfl rfl) (?_)))))
      show Ev l d mi_X9_see 31 [some (.ref 0), some (.int ((s.1 1 1) / (Int32.ofInt 3))), none, none] [.int (s.1 1 1), .int (((s.1 1 1) / (Int32.ofInt 3)) * (Int32.ofInt 3))] (hp s) 0 0 _
      refine Ev.icmp_ne (off := 7) (tgt := 38) (by decide +kernel) (by decide) (fun b3 => ?_) (fun b3 => ?_)
      · have hf := (if_neg b3).symm.trans hf
        exact (e_X9_see_j38 hd) ((s.1 1 1) / (Int32.ofInt 3)) s _ hf
      · have hf := (if_pos b3).symm.trans hf
        refine Ev.blk (pc' := 35) [(.iconst 1, 0, 0, 0)] (by decide +kernel) trivial rfl (?_)
        show Ev l d mi_X9_see 35 [some (.ref 0), some (.int ((s.1 1 1) / (Int32.ofInt 3))), none, none] [.int (Int32.ofInt 1)] (hp s) 0 0 _
        refine Ev.goto (off := 4) (tgt := 39) (by decide +kernel) (by decide) ?_
        exact (e_X9_see_j39 hd) ((s.1 1 1) / (Int32.ofInt 3)) (Int32.ofInt 1) s _ hf
def f_X9_isAsSeen_L29 : Nat → Int32 → ST → Option (Int32 × ST)
  | 0, _, _ => none
  | n + 1, x2, s => (if (s.1 0 11) ≤ x2 then some ((Int32.ofInt 1), s) else (if ((Int8.ofInt 16).toInt32) ≤ x2 then some ((Int32.ofInt 1), s) else gd (ib x2 16) ((f_X9_isField (s.1 59 x2.toNatClampNeg) s).bind (fun q7 => (if q7.1 = 0 then some ((Int32.ofInt 0), q7.2) else gd (ib (s.1 59 x2.toNatClampNeg) 6) (gd (ib x2 16) ((if (q7.2.1 49 (s.1 59 x2.toNatClampNeg).toNatClampNeg) = (q7.2.1 60 x2.toNatClampNeg) then (f_X9_isAsSeen_L29 n) (x2 + Int32.ofInt 1) q7.2 else some ((Int32.ofInt 0), q7.2)))))))))
set_option maxHeartbeats 2000000 in
set_option maxRecDepth 20000 in
theorem e_X9_isAsSeen_L29 {l : Launch} {d : Nat} (hd : 7 ≤ d) : ∀ (n : Nat) (x2 : Int32) (s : ST) (r : Int32 × ST), f_X9_isAsSeen_L29 n x2 s = some r → Ev l d mi_X9_isAsSeen 29 [some (.ref 0), none, some (.int x2), none] [] (hp s) 0 0 (some (.int r.1), hp r.2) := by
  intro n
  induction n with
  | zero =>
    intro x2 s r hf
    cases hf
  | succ n ih =>
    intro x2 s r hf
    unfold f_X9_isAsSeen_L29 at hf
    refine Ev.blk (pc' := 34) [(.iload_n 2, 0, 0, 0), (.aload_n 0, 0, 0, 0), (.getfield 77, 0, 9, 11)] (by decide +kernel) ⟨kf_9_77, trivial⟩ rfl (And.intro (kc rfl rfl) (?_))
    show Ev l d mi_X9_isAsSeen 34 [some (.ref 0), none, some (.int x2), none] [.int (s.1 0 11), .int x2] (hp s) 0 0 _
    refine Ev.icmp_ge (off := 50) (tgt := 84) (by decide +kernel) (by decide) (fun b4 => ?_) (fun b4 => ?_)
    · have hf := (if_pos b4).symm.trans hf
      refine Ev.blk (pc' := 85) [(.iconst 1, 0, 0, 0)] (by decide +kernel) trivial rfl (?_)
      show Ev l d mi_X9_isAsSeen 85 [some (.ref 0), none, some (.int x2), none] [.int (Int32.ofInt 1)] (hp s) 0 0 _
      cases hf
      exact Ev.iret .boolean rfl rfl (by decide +kernel) (Nat.le_refl _) (Nat.le_refl _)
    · have hf := (if_neg b4).symm.trans hf
      refine Ev.blk (pc' := 40) [(.iload_n 2, 0, 0, 0), (.bipush 16, 0, 0, 0)] (by decide +kernel) trivial rfl (?_)
      show Ev l d mi_X9_isAsSeen 40 [some (.ref 0), none, some (.int x2), none] [.int ((Int8.ofInt 16).toInt32), .int x2] (hp s) 0 0 _
      refine Ev.icmp_ge (off := 44) (tgt := 84) (by decide +kernel) (by decide) (fun b5 => ?_) (fun b5 => ?_)
      · have hf := (if_pos b5).symm.trans hf
        refine Ev.blk (pc' := 85) [(.iconst 1, 0, 0, 0)] (by decide +kernel) trivial rfl (?_)
        show Ev l d mi_X9_isAsSeen 85 [some (.ref 0), none, some (.int x2), none] [.int (Int32.ofInt 1)] (hp s) 0 0 _
        cases hf
        exact Ev.iret .boolean rfl rfl (by decide +kernel) (Nat.le_refl _) (Nat.le_refl _)
      · have hf := (if_neg b5).symm.trans hf
        obtain ⟨c6, hf⟩ := gd_some hf
        refine Ev.blk (pc' := 52) [(.aload_n 0, 0, 0, 0), (.getfield 70, 0, 9, 9), (.iload_n 2, 0, 0, 0), (.iaload, 0, 0, 0), (.istore_n 3, 0, 0, 0), (.aload_n 0, 0, 0, 0), (.iload_n 3, 0, 0, 0)] (by decide +kernel) ⟨kf_9_70, trivial⟩ rfl (And.intro (kc rfl rfl) (Exists.intro 59 (And.intro rfl (And.intro (kc rfl rfl) (And.intro (ib_ok c6) (And.intro (Nat.le_of_ble_eq_true rfl) (?_)))))))
        show Ev l d mi_X9_isAsSeen 52 [some (.ref 0), none, some (.int x2), some (.int (s.1 59 x2.toNatClampNeg))] [.int (s.1 59 x2.toNatClampNeg), .ref 0] (hp s) 0 0 _
        obtain ⟨q7, hq7, hf⟩ := bd_some hf
        refine Ev.callV (o := 0) (M' := mi_X9_isField) (d' := d - 1) (As := [.int (s.1 59 x2.toNatClampNeg)]) (rest := []) (r' := (some (.int q7.1), hp q7.2)) (e_X9_isField (d := d - 1) (by omega) (s.1 59 x2.toNatClampNeg) s _ hq7) (by omega) wm_X9_isField wi_X9_isField wv_X9_isField km_9_206 (kc rfl rfl) (Nat.le_of_ble_eq_true rfl) rfl rfl rfl (Nat.le_of_ble_eq_true rfl) ⟨Nat.le_of_ble_eq_true rfl, Nat.le_of_ble_eq_true rfl⟩ (by decide +kernel) ?_
        show Ev l d mi_X9_isAsSeen 55 [some (.ref 0), none, some (.int x2), some (.int (s.1 59 x2.toNatClampNeg))] [.int q7.1] (hp q7.2) 0 0 _
        refine Ev.if_eq (off := 21) (tgt := 76) (by decide +kernel) (by decide) (fun b8 => ?_) (fun b8 => ?_)
        · have hf := (if_pos b8).symm.trans hf
          refine Ev.blk (pc' := 77) [(.iconst 0, 0, 0, 0)] (by decide +kernel) trivial rfl (?_)
          show Ev l d mi_X9_isAsSeen 77 [some (.ref 0), none, some (.int x2), some (.int (s.1 59 x2.toNatClampNeg))] [.int (Int32.ofInt 0)] (hp q7.2) 0 0 _
          cases hf
          exact Ev.iret .boolean rfl rfl (by decide +kernel) (Nat.le_refl _) (Nat.le_refl _)
        · have hf := (if_neg b8).symm.trans hf
          obtain ⟨c9, hf⟩ := gd_some hf
          obtain ⟨c10, hf⟩ := gd_some hf
          refine Ev.blk (pc' := 73) [(.aload_n 0, 0, 0, 0), (.getfield 60, 0, 9, 7), (.getfield 213, 0, 3, 5), (.iload_n 3, 0, 0, 0), (.iaload, 0, 0, 0), (.aload_n 0, 0, 0, 0), (.getfield 74, 0, 9, 10), (.iload_n 2, 0, 0, 0), (.iaload, 0, 0, 0)] (by decide +kernel) ⟨kf_9_60, ⟨kf_9_213, ⟨kf_9_74, trivial⟩⟩⟩ rfl (And.intro (kc rfl rfl) (Exists.intro 46 (And.intro rfl (And.intro (kc rfl rfl) (Exists.intro 49 (And.intro rfl (And.intro (kc rfl rfl) (And.intro (ib_ok c9) (And.intro (kc rfl rfl) (Exists.intro 60 (And.intro rfl (And.intro (kc rfl rfl) (And.intro (ib_ok c10) (?_))))))))))))))
          show Ev l d mi_X9_isAsSeen 73 [some (.ref 0), none, some (.int x2), some (.int (s.1 59 x2.toNatClampNeg))] [.int (q7.2.1 60 x2.toNatClampNeg), .int (q7.2.1 49 (s.1 59 x2.toNatClampNeg).toNatClampNeg)] (hp q7.2) 0 0 _
          refine Ev.icmp_eq (off := 5) (tgt := 78) (by decide +kernel) (by decide) (fun b11 => ?_) (fun b11 => ?_)
          · have hf := (if_pos b11).symm.trans hf
            refine Ev.blk (pc' := 81) [(.iinc 2 1, 0, 0, 0)] (by decide +kernel) trivial rfl (And.intro (Nat.le_of_ble_eq_true rfl) (?_))
            show Ev l d mi_X9_isAsSeen 81 [some (.ref 0), none, some (.int (x2 + Int32.ofInt 1)), some (.int (s.1 59 x2.toNatClampNeg))] [] (hp q7.2) 0 0 _
            refine Ev.goto (off := -52) (tgt := 29) (by decide +kernel) (by decide) ?_
            exact Ev.wk (ih (x2 + Int32.ofInt 1) q7.2 _ hf) (And.intro (Or.inr rfl) (And.intro (Or.inr rfl) (And.intro (Or.inr rfl) (And.intro (Or.inl rfl) (trivial)))))
          · have hf := (if_neg b11).symm.trans hf
            refine Ev.blk (pc' := 77) [(.iconst 0, 0, 0, 0)] (by decide +kernel) trivial rfl (?_)
            show Ev l d mi_X9_isAsSeen 77 [some (.ref 0), none, some (.int x2), some (.int (s.1 59 x2.toNatClampNeg))] [.int (Int32.ofInt 0)] (hp q7.2) 0 0 _
            cases hf
            exact Ev.iret .boolean rfl rfl (by decide +kernel) (Nat.le_refl _) (Nat.le_refl _)
def f_X9_isAsSeen (p0 : Int32) (s : ST) : Option (Int32 × ST) := (f_X3_copy 46 36 s).bind (fun q1 => (f_X3_moveAt 36 p0 q1).bind (fun q2 => (f_X3_passDay 46 q2.1 q2.2).bind (fun q3 => (f_X9_isAsSeen_L29 fuel) (Int32.ofInt 0) q3.2)))
set_option maxHeartbeats 2000000 in
set_option maxRecDepth 20000 in
theorem e_X9_isAsSeen {l : Launch} {d : Nat} (hd : 7 ≤ d) (p0 : Int32) (s : ST) (r : Int32 × ST) (hf : f_X9_isAsSeen p0 s = some r) : Cl l d mi_X9_isAsSeen [.ref 0, .int p0] (hp s) (some (.int r.1), hp r.2) := by
  refine Ev.entry (by decide +kernel) rfl rfl ?_
  show Ev l d mi_X9_isAsSeen 0 [some (.ref 0), some (.int p0), none, none] [] (hp s) 0 0 _
  unfold f_X9_isAsSeen at hf
  refine Ev.blk (pc' := 8) [(.aload_n 0, 0, 0, 0), (.getfield 60, 0, 9, 7), (.aload_n 0, 0, 0, 0), (.getfield 56, 0, 9, 6)] (by decide +kernel) ⟨kf_9_60, ⟨kf_9_56, trivial⟩⟩ rfl (And.intro (kc rfl rfl) (Exists.intro 46 (And.intro rfl (And.intro (kc rfl rfl) (Exists.intro 36 (And.intro rfl (?_)))))))
  show Ev l d mi_X9_isAsSeen 8 [some (.ref 0), some (.int p0), none, none] [.ref 36, .ref 46] (hp s) 0 0 _
  obtain ⟨q1, hq1, hf⟩ := bd_some hf
  refine Ev.callV (o := 46) (M' := mi_X3_copy) (d' := d - 1) (As := [.ref 36]) (rest := []) (r' := (none, hp q1)) (e_X3_copy (d := d - 1) (by omega) 46 36 s _ hq1) (by omega) wm_X3_copy wi_X3_copy wv_X3_copy km_9_235 (kc rfl rfl) (Nat.le_of_ble_eq_true rfl) rfl rfl rfl (Nat.le_of_ble_eq_true rfl) ⟨Nat.le_of_ble_eq_true rfl, Nat.le_of_ble_eq_true rfl⟩ (by decide +kernel) ?_
  show Ev l d mi_X9_isAsSeen 11 [some (.ref 0), some (.int p0), none, none] [] (hp q1) 0 0 _
  refine Ev.blk (pc' := 20) [(.aload_n 0, 0, 0, 0), (.getfield 60, 0, 9, 7), (.aload_n 0, 0, 0, 0), (.getfield 56, 0, 9, 6), (.iload_n 1, 0, 0, 0)] (by decide +kernel) ⟨kf_9_60, ⟨kf_9_56, trivial⟩⟩ rfl (And.intro (kc rfl rfl) (Exists.intro 46 (And.intro rfl (And.intro (kc rfl rfl) (Exists.intro 36 (And.intro rfl (?_)))))))
  show Ev l d mi_X9_isAsSeen 20 [some (.ref 0), some (.int p0), none, none] [.int p0, .ref 36, .ref 46] (hp q1) 0 0 _
  obtain ⟨q2, hq2, hf⟩ := bd_some hf
  refine Ev.callV (o := 36) (M' := mi_X3_moveAt) (d' := d - 1) (As := [.int p0]) (rest := [.ref 46]) (r' := (some (.int q2.1), hp q2.2)) (e_X3_moveAt (d := d - 1) (by omega) 36 p0 q1 _ hq2) (by omega) wm_X3_moveAt wi_X3_moveAt wv_X3_moveAt km_9_223 (kc rfl rfl) (Nat.le_of_ble_eq_true rfl) rfl rfl rfl (Nat.le_of_ble_eq_true rfl) ⟨Nat.le_of_ble_eq_true rfl, Nat.le_of_ble_eq_true rfl⟩ (by decide +kernel) ?_
  show Ev l d mi_X9_isAsSeen 23 [some (.ref 0), some (.int p0), none, none] [.int q2.1, .ref 46] (hp q2.2) 0 0 _
  obtain ⟨q3, hq3, hf⟩ := bd_some hf
  refine Ev.callV (o := 46) (M' := mi_X3_passDay) (d' := d - 1) (As := [.int q2.1]) (rest := []) (r' := (some (.int q3.1), hp q3.2)) (e_X3_passDay (d := d - 1) (by omega) 46 q2.1 q2.2 _ hq3) (by omega) wm_X3_passDay wi_X3_passDay wv_X3_passDay km_9_277 (kc rfl rfl) (Nat.le_of_ble_eq_true rfl) rfl rfl rfl (Nat.le_of_ble_eq_true rfl) ⟨Nat.le_of_ble_eq_true rfl, Nat.le_of_ble_eq_true rfl⟩ (by decide +kernel) ?_
  show Ev l d mi_X9_isAsSeen 26 [some (.ref 0), some (.int p0), none, none] [.int q3.1] (hp q3.2) 0 0 _
  refine Ev.blk (pc' := 29) [(.pop, 0, 0, 0), (.iconst 0, 0, 0, 0), (.istore_n 2, 0, 0, 0)] (by decide +kernel) trivial rfl (And.intro rfl (And.intro (Nat.le_of_ble_eq_true rfl) (?_)))
  show Ev l d mi_X9_isAsSeen 29 [some (.ref 0), some (.int p0), some (.int (Int32.ofInt 0)), none] [] (hp q3.2) 0 0 _
  exact Ev.wk ((e_X9_isAsSeen_L29 hd fuel) (Int32.ofInt 0) q3.2 _ hf) (And.intro (Or.inr rfl) (And.intro (Or.inl rfl) (And.intro (Or.inr rfl) (And.intro (Or.inr rfl) (trivial)))))
def f_X9_played_j60 (k30 : Int32 → Int32 → Int32 → Int32 → Int32 → Int32 → ST → Option (Int32 × ST)) (x1 : Int32) (x2 : Int32) (x3 : Int32) (x6 : Int32) (y0 : Int32) (s : ST) : Option (Int32 × ST) := k30 x1 x2 x3 y0 x6 (x6 + Int32.ofInt 1) s
set_option maxHeartbeats 2000000 in
set_option maxRecDepth 20000 in
theorem e_X9_played_j60 {l : Launch} {d : Nat} (hd : 8 ≤ d) (k30 : Int32 → Int32 → Int32 → Int32 → Int32 → Int32 → ST → Option (Int32 × ST)) (hk30 : ∀ (x1 : Int32) (x2 : Int32) (x3 : Int32) (x4 : Int32) (x5 : Int32) (x6 : Int32) (s : ST) (r : Int32 × ST), k30 x1 x2 x3 x4 x5 x6 s = some r → Ev l d mi_X9_played 30 [some (.ref 0), some (.int x1), some (.int x2), some (.int x3), some (.int x4), some (.int x5), some (.int x6)] [] (hp s) 0 0 (some (.int r.1), hp r.2)) (x1 : Int32) (x2 : Int32) (x3 : Int32) (x6 : Int32) (y0 : Int32) (s : ST) (r : Int32 × ST) (hf : f_X9_played_j60 k30 x1 x2 x3 x6 y0 s = some r) : Ev l d mi_X9_played 60 [some (.ref 0), some (.int x1), some (.int x2), some (.int x3), none, none, some (.int x6)] [.int y0] (hp s) 0 0 (some (.int r.1), hp r.2) := by
  unfold f_X9_played_j60 at hf
  refine Ev.blk (pc' := 69) [(.istore 4, 0, 0, 0), (.iload 6, 0, 0, 0), (.istore 5, 0, 0, 0), (.iinc 6 1, 0, 0, 0)] (by decide +kernel) trivial rfl (And.intro (Nat.le_of_ble_eq_true rfl) (And.intro (Nat.le_of_ble_eq_true rfl) (And.intro (Nat.le_of_ble_eq_true rfl) (?_))))
  show Ev l d mi_X9_played 69 [some (.ref 0), some (.int x1), some (.int x2), some (.int x3), some (.int y0), some (.int x6), some (.int (x6 + Int32.ofInt 1))] [] (hp s) 0 0 _
  refine Ev.goto (off := -39) (tgt := 30) (by decide +kernel) (by decide) ?_
  exact hk30 x1 x2 x3 y0 x6 (x6 + Int32.ofInt 1) s _ hf
def f_X9_played_L30 (k72 : Int32 → Int32 → Int32 → Int32 → ST → Option (Int32 × ST)) : Nat → Int32 → Int32 → Int32 → Int32 → Int32 → Int32 → ST → Option (Int32 × ST)
  | 0, _, _, _, _, _, _, _ => none
  | n + 1, x1, x2, x3, x4, x5, x6, s => (if x2 ≤ x6 then k72 x1 x3 x4 x5 s else (f_X9_isAsSeen x6 s).bind (fun q5 => (if q5.1 = 0 then (f_X9_played_L30 k72 n) x1 x2 x3 x4 x5 (x6 + Int32.ofInt 1) q5.2 else (if 0 ≤ x4 then (f_X9_played_j60 (f_X9_played_L30 k72 n)) x1 x2 (x3 + Int32.ofInt 1) x6 x4 q5.2 else (f_X9_played_j60 (f_X9_played_L30 k72 n)) x1 x2 (x3 + Int32.ofInt 1) x6 x6 q5.2))))
set_option maxHeartbeats 2000000 in
set_option maxRecDepth 20000 in
theorem e_X9_played_L30 {l : Launch} {d : Nat} (hd : 8 ≤ d) (k72 : Int32 → Int32 → Int32 → Int32 → ST → Option (Int32 × ST)) (hk72 : ∀ (x1 : Int32) (x3 : Int32) (x4 : Int32) (x5 : Int32) (s : ST) (r : Int32 × ST), k72 x1 x3 x4 x5 s = some r → Ev l d mi_X9_played 72 [none, some (.int x1), none, some (.int x3), some (.int x4), some (.int x5), none] [] (hp s) 0 0 (some (.int r.1), hp r.2)) : ∀ (n : Nat) (x1 : Int32) (x2 : Int32) (x3 : Int32) (x4 : Int32) (x5 : Int32) (x6 : Int32) (s : ST) (r : Int32 × ST), f_X9_played_L30 k72 n x1 x2 x3 x4 x5 x6 s = some r → Ev l d mi_X9_played 30 [some (.ref 0), some (.int x1), some (.int x2), some (.int x3), some (.int x4), some (.int x5), some (.int x6)] [] (hp s) 0 0 (some (.int r.1), hp r.2) := by
  intro n
  induction n with
  | zero =>
    intro x1 x2 x3 x4 x5 x6 s r hf
    cases hf
  | succ n ih =>
    intro x1 x2 x3 x4 x5 x6 s r hf
    unfold f_X9_played_L30 at hf
    refine Ev.blk (pc' := 33) [(.iload 6, 0, 0, 0), (.iload_n 2, 0, 0, 0)] (by decide +kernel) trivial rfl (?_)
    show Ev l d mi_X9_played 33 [some (.ref 0), some (.int x1), some (.int x2), some (.int x3), some (.int x4), some (.int x5), some (.int x6)] [.int x2, .int x6] (hp s) 0 0 _
    refine Ev.icmp_ge (off := 39) (tgt := 72) (by decide +kernel) (by decide) (fun b4 => ?_) (fun b4 => ?_)
    · have hf := (if_pos b4).symm.trans hf
      exact Ev.wk (hk72 x1 x3 x4 x5 s _ hf) (And.intro (Or.inl rfl) (And.intro (Or.inr rfl) (And.intro (Or.inl rfl) (And.intro (Or.inr rfl) (And.intro (Or.inr rfl) (And.intro (Or.inr rfl) (And.intro (Or.inl rfl) (trivial))))))))
    · have hf := (if_neg b4).symm.trans hf
      refine Ev.blk (pc' := 39) [(.aload_n 0, 0, 0, 0), (.iload 6, 0, 0, 0)] (by decide +kernel) trivial rfl (?_)
      show Ev l d mi_X9_played 39 [some (.ref 0), some (.int x1), some (.int x2), some (.int x3), some (.int x4), some (.int x5), some (.int x6)] [.int x6, .ref 0] (hp s) 0 0 _
      obtain ⟨q5, hq5, hf⟩ := bd_some hf
      refine Ev.callV (o := 0) (M' := mi_X9_isAsSeen) (d' := d - 1) (As := [.int x6]) (rest := []) (r' := (some (.int q5.1), hp q5.2)) (e_X9_isAsSeen (d := d - 1) (by omega) x6 s _ hq5) (by omega) wm_X9_isAsSeen wi_X9_isAsSeen wv_X9_isAsSeen km_9_301 (kc rfl rfl) (Nat.le_of_ble_eq_true rfl) rfl rfl rfl (Nat.le_of_ble_eq_true rfl) ⟨Nat.le_of_ble_eq_true rfl, Nat.le_of_ble_eq_true rfl⟩ (by decide +kernel) ?_
      show Ev l d mi_X9_played 42 [some (.ref 0), some (.int x1), some (.int x2), some (.int x3), some (.int x4), some (.int x5), some (.int x6)] [.int q5.1] (hp q5.2) 0 0 _
      refine Ev.if_eq (off := 24) (tgt := 66) (by decide +kernel) (by decide) (fun b6 => ?_) (fun b6 => ?_)
      · have hf := (if_pos b6).symm.trans hf
        refine Ev.blk (pc' := 69) [(.iinc 6 1, 0, 0, 0)] (by decide +kernel) trivial rfl (And.intro (Nat.le_of_ble_eq_true rfl) (?_))
        show Ev l d mi_X9_played 69 [some (.ref 0), some (.int x1), some (.int x2), some (.int x3), some (.int x4), some (.int x5), some (.int (x6 + Int32.ofInt 1))] [] (hp q5.2) 0 0 _
        refine Ev.goto (off := -39) (tgt := 30) (by decide +kernel) (by decide) ?_
        exact ih x1 x2 x3 x4 x5 (x6 + Int32.ofInt 1) q5.2 _ hf
      · have hf := (if_neg b6).symm.trans hf
        refine Ev.blk (pc' := 50) [(.iinc 3 1, 0, 0, 0), (.iload 4, 0, 0, 0)] (by decide +kernel) trivial rfl (And.intro (Nat.le_of_ble_eq_true rfl) (?_))
        show Ev l d mi_X9_played 50 [some (.ref 0), some (.int x1), some (.int x2), some (.int (x3 + Int32.ofInt 1)), some (.int x4), some (.int x5), some (.int x6)] [.int x4] (hp q5.2) 0 0 _
        refine Ev.if_ge (off := 8) (tgt := 58) (by decide +kernel) (by decide) (fun b7 => ?_) (fun b7 => ?_)
        · have hf := (if_pos b7).symm.trans hf
          refine Ev.blk (pc' := 60) [(.iload 4, 0, 0, 0)] (by decide +kernel) trivial rfl (?_)
          show Ev l d mi_X9_played 60 [some (.ref 0), some (.int x1), some (.int x2), some (.int (x3 + Int32.ofInt 1)), some (.int x4), some (.int x5), some (.int x6)] [.int x4] (hp q5.2) 0 0 _
          exact Ev.wk ((e_X9_played_j60 hd (f_X9_played_L30 k72 n) ih) x1 x2 (x3 + Int32.ofInt 1) x6 x4 q5.2 _ hf) (And.intro (Or.inr rfl) (And.intro (Or.inr rfl) (And.intro (Or.inr rfl) (And.intro (Or.inr rfl) (And.intro (Or.inl rfl) (And.intro (Or.inl rfl) (And.intro (Or.inr rfl) (trivial))))))))
        · have hf := (if_neg b7).symm.trans hf
          refine Ev.blk (pc' := 55) [(.iload 6, 0, 0, 0)] (by decide +kernel) trivial rfl (?_)
          show Ev l d mi_X9_played 55 [some (.ref 0), some (.int x1), some (.int x2), some (.int (x3 + Int32.ofInt 1)), some (.int x4), some (.int x5), some (.int x6)] [.int x6] (hp q5.2) 0 0 _
          refine Ev.goto (off := 5) (tgt := 60) (by decide +kernel) (by decide) ?_
          exact Ev.wk ((e_X9_played_j60 hd (f_X9_played_L30 k72 n) ih) x1 x2 (x3 + Int32.ofInt 1) x6 x6 q5.2 _ hf) (And.intro (Or.inr rfl) (And.intro (Or.inr rfl) (And.intro (Or.inr rfl) (And.intro (Or.inr rfl) (And.intro (Or.inl rfl) (And.intro (Or.inl rfl) (And.intro (Or.inr rfl) (trivial))))))))
def f_X9_played_j72 (x1 : Int32) (x3 : Int32) (x4 : Int32) (x5 : Int32) (s : ST) : Option (Int32 × ST) := (if x1 = 0 then some (x3, s) else (if x1 = (Int32.ofInt 1) then some (x4, s) else some (x5, s)))
set_option maxHeartbeats 2000000 in
set_option maxRecDepth 20000 in
theorem e_X9_played_j72 {l : Launch} {d : Nat} (hd : 8 ≤ d) (x1 : Int32) (x3 : Int32) (x4 : Int32) (x5 : Int32) (s : ST) (r : Int32 × ST) (hf : f_X9_played_j72 x1 x3 x4 x5 s = some r) : Ev l d mi_X9_played 72 [none, some (.int x1), none, some (.int x3), some (.int x4), some (.int x5), none] [] (hp s) 0 0 (some (.int r.1), hp r.2) := by
  unfold f_X9_played_j72 at hf
  refine Ev.blk (pc' := 73) [(.iload_n 1, 0, 0, 0)] (by decide +kernel) trivial rfl (?_)
  show Ev l d mi_X9_played 73 [none, some (.int x1), none, some (.int x3), some (.int x4), some (.int x5), none] [.int x1] (hp s) 0 0 _
  refine Ev.if_ne (off := 5) (tgt := 78) (by decide +kernel) (by decide) (fun b8 => ?_) (fun b8 => ?_)
  · have hf := (if_neg b8).symm.trans hf
    refine Ev.blk (pc' := 80) [(.iload_n 1, 0, 0, 0), (.iconst 1, 0, 0, 0)] (by decide +kernel) trivial rfl (?_)
    show Ev l d mi_X9_played 80 [none, some (.int x1), none, some (.int x3), some (.int x4), some (.int x5), none] [.int (Int32.ofInt 1), .int x1] (hp s) 0 0 _
    refine Ev.icmp_ne (off := 8) (tgt := 88) (by decide +kernel) (by decide) (fun b9 => ?_) (fun b9 => ?_)
    · have hf := (if_neg b9).symm.trans hf
      refine Ev.blk (pc' := 90) [(.iload 5, 0, 0, 0)] (by decide +kernel) trivial rfl (?_)
      show Ev l d mi_X9_played 90 [none, some (.int x1), none, some (.int x3), some (.int x4), some (.int x5), none] [.int x5] (hp s) 0 0 _
      cases hf
      exact Ev.iret .int rfl rfl (by decide +kernel) (Nat.le_refl _) (Nat.le_refl _)
    · have hf := (if_pos b9).symm.trans hf
      refine Ev.blk (pc' := 85) [(.iload 4, 0, 0, 0)] (by decide +kernel) trivial rfl (?_)
      show Ev l d mi_X9_played 85 [none, some (.int x1), none, some (.int x3), some (.int x4), some (.int x5), none] [.int x4] (hp s) 0 0 _
      refine Ev.goto (off := 5) (tgt := 90) (by decide +kernel) (by decide) ?_
      cases hf
      exact Ev.iret .int rfl rfl (by decide +kernel) (Nat.le_refl _) (Nat.le_refl _)
  · have hf := (if_pos b8).symm.trans hf
    refine Ev.blk (pc' := 77) [(.iload_n 3, 0, 0, 0)] (by decide +kernel) trivial rfl (?_)
    show Ev l d mi_X9_played 77 [none, some (.int x1), none, some (.int x3), some (.int x4), some (.int x5), none] [.int x3] (hp s) 0 0 _
    cases hf
    exact Ev.iret .int rfl rfl (by decide +kernel) (Nat.le_refl _) (Nat.le_refl _)
def f_X9_played (p0 : Int32) (s : ST) : Option (Int32 × ST) := (if p0 < 0 then some ((Int32.ofInt (-1)), s) else (if p0 ≤ (Int32.ofInt 2) then (f_X3_moveCount 36 s).bind (fun q3 => (f_X9_played_L30 f_X9_played_j72 fuel) p0 q3.1 (Int32.ofInt 0) (Int32.ofInt (-1)) (Int32.ofInt (-1)) (Int32.ofInt 0) q3.2) else some ((Int32.ofInt (-1)), s)))
set_option maxHeartbeats 2000000 in
set_option maxRecDepth 20000 in
theorem e_X9_played {l : Launch} {d : Nat} (hd : 8 ≤ d) (p0 : Int32) (s : ST) (r : Int32 × ST) (hf : f_X9_played p0 s = some r) : Cl l d mi_X9_played [.ref 0, .int p0] (hp s) (some (.int r.1), hp r.2) := by
  refine Ev.entry (by decide +kernel) rfl rfl ?_
  show Ev l d mi_X9_played 0 [some (.ref 0), some (.int p0), none, none, none, none, none] [] (hp s) 0 0 _
  unfold f_X9_played at hf
  refine Ev.blk (pc' := 1) [(.iload_n 1, 0, 0, 0)] (by decide +kernel) trivial rfl (?_)
  show Ev l d mi_X9_played 1 [some (.ref 0), some (.int p0), none, none, none, none, none] [.int p0] (hp s) 0 0 _
  refine Ev.if_lt (off := 8) (tgt := 9) (by decide +kernel) (by decide) (fun b1 => ?_) (fun b1 => ?_)
  · have hf := (if_pos b1).symm.trans hf
    refine Ev.blk (pc' := 10) [(.iconst (-1), 0, 0, 0)] (by decide +kernel) trivial rfl (?_)
    show Ev l d mi_X9_played 10 [some (.ref 0), some (.int p0), none, none, none, none, none] [.int (Int32.ofInt (-1))] (hp s) 0 0 _
    cases hf
    exact Ev.iret .int rfl rfl (by decide +kernel) (Nat.le_refl _) (Nat.le_refl _)
  · have hf := (if_neg b1).symm.trans hf
    refine Ev.blk (pc' := 6) [(.iload_n 1, 0, 0, 0), (.iconst 2, 0, 0, 0)] (by decide +kernel) trivial rfl (?_)
    show Ev l d mi_X9_played 6 [some (.ref 0), some (.int p0), none, none, none, none, none] [.int (Int32.ofInt 2), .int p0] (hp s) 0 0 _
    refine Ev.icmp_le (off := 5) (tgt := 11) (by decide +kernel) (by decide) (fun b2 => ?_) (fun b2 => ?_)
    · have hf := (if_pos b2).symm.trans hf
      refine Ev.blk (pc' := 15) [(.aload_n 0, 0, 0, 0), (.getfield 56, 0, 9, 6)] (by decide +kernel) ⟨kf_9_56, trivial⟩ rfl (And.intro (kc rfl rfl) (Exists.intro 36 (And.intro rfl (?_))))
      show Ev l d mi_X9_played 15 [some (.ref 0), some (.int p0), none, none, none, none, none] [.ref 36] (hp s) 0 0 _
      obtain ⟨q3, hq3, hf⟩ := bd_some hf
      refine Ev.callV (o := 36) (M' := mi_X3_moveCount) (d' := d - 1) (As := []) (rest := []) (r' := (some (.int q3.1), hp q3.2)) (e_X3_moveCount (d := d - 1) (by omega) 36 s _ hq3) (by omega) wm_X3_moveCount wi_X3_moveCount wv_X3_moveCount km_9_274 (kc rfl rfl) (Nat.le_of_ble_eq_true rfl) rfl rfl rfl (Nat.le_of_ble_eq_true rfl) ⟨Nat.le_of_ble_eq_true rfl, Nat.le_of_ble_eq_true rfl⟩ (by decide +kernel) ?_
      show Ev l d mi_X9_played 18 [some (.ref 0), some (.int p0), none, none, none, none, none] [.int q3.1] (hp q3.2) 0 0 _
      refine Ev.blk (pc' := 30) [(.istore_n 2, 0, 0, 0), (.iconst 0, 0, 0, 0), (.istore_n 3, 0, 0, 0), (.iconst (-1), 0, 0, 0), (.istore 4, 0, 0, 0), (.iconst (-1), 0, 0, 0), (.istore 5, 0, 0, 0), (.iconst 0, 0, 0, 0), (.istore 6, 0, 0, 0)] (by decide +kernel) trivial rfl (And.intro (Nat.le_of_ble_eq_true rfl) (And.intro (Nat.le_of_ble_eq_true rfl) (And.intro (Nat.le_of_ble_eq_true rfl) (And.intro (Nat.le_of_ble_eq_true rfl) (And.intro (Nat.le_of_ble_eq_true rfl) (?_))))))
      show Ev l d mi_X9_played 30 [some (.ref 0), some (.int p0), some (.int q3.1), some (.int (Int32.ofInt 0)), some (.int (Int32.ofInt (-1))), some (.int (Int32.ofInt (-1))), some (.int (Int32.ofInt 0))] [] (hp q3.2) 0 0 _
      exact (e_X9_played_L30 hd f_X9_played_j72 (e_X9_played_j72 hd) fuel) p0 q3.1 (Int32.ofInt 0) (Int32.ofInt (-1)) (Int32.ofInt (-1)) (Int32.ofInt 0) q3.2 _ hf
    · have hf := (if_neg b2).symm.trans hf
      refine Ev.blk (pc' := 10) [(.iconst (-1), 0, 0, 0)] (by decide +kernel) trivial rfl (?_)
      show Ev l d mi_X9_played 10 [some (.ref 0), some (.int p0), none, none, none, none, none] [.int (Int32.ofInt (-1))] (hp s) 0 0 _
      cases hf
      exact Ev.iret .int rfl rfl (by decide +kernel) (Nat.le_refl _) (Nat.le_refl _)
def f_X9_readPlaces_j71 (k4 : Int32 → Int32 → Int32 → ST → Option (Int32 × ST)) (x1 : Int32) (x2 : Int32) (x3 : Int32) (x4 : Int32) (x5 : Int32) (s : ST) : Option (Int32 × ST) := (RR s.2.2 0 3).bind (fun a10 => (f_X4_isPlace a10 x4 x5 s).bind (fun q11 => gd (kk a10 4) ((if q11.1 = 0 then some ((Int32.ofInt 0), q11.2) else lt ((x2 >>> (((x5 * (Int32.ofInt 5)) + x4) &&& 31)) &&& (Int32.ofInt 1)) (fun v14 => (if v14 = 0 then gd (ib x3 8) (lt (uI q11.2 63 x3.toNatClampNeg ((x5 * (Int32.ofInt 5)) + x4)) (fun s17 => lt (x2 ||| ((Int32.ofInt 1) <<< (((x5 * (Int32.ofInt 5)) + x4) &&& 31))) (fun v18 => k4 x1 v18 (x3 + Int32.ofInt 1) s17))) else some ((Int32.ofInt 0), q11.2)))))))
set_option maxHeartbeats 2000000 in
set_option maxRecDepth 20000 in
theorem e_X9_readPlaces_j71 {l : Launch} {d : Nat} (hd : 2 ≤ d) (k4 : Int32 → Int32 → Int32 → ST → Option (Int32 × ST)) (hk4 : ∀ (x1 : Int32) (x2 : Int32) (x3 : Int32) (s : ST) (r : Int32 × ST), k4 x1 x2 x3 s = some r → Ev l d mi_X9_readPlaces 4 [some (.ref 0), some (.int x1), some (.int x2), some (.int x3), none, none, none] [] (hp s) 0 0 (some (.int r.1), hp r.2)) (x1 : Int32) (x2 : Int32) (x3 : Int32) (x4 : Int32) (x5 : Int32) (s : ST) (r : Int32 × ST) (hf : f_X9_readPlaces_j71 k4 x1 x2 x3 x4 x5 s = some r) : Ev l d mi_X9_readPlaces 71 [some (.ref 0), some (.int x1), some (.int x2), some (.int x3), some (.int x4), some (.int x5), none] [] (hp s) 0 0 (some (.int r.1), hp r.2) := by
  unfold f_X9_readPlaces_j71 at hf
  obtain ⟨a10, ha10, hf⟩ := bd_some hf
  refine Ev.blk (pc' := 79) [(.aload_n 0, 0, 0, 0), (.getfield 37, 0, 9, 3), (.iload 4, 0, 0, 0), (.iload 5, 0, 0, 0)] (by decide +kernel) ⟨kf_9_37, trivial⟩ rfl (And.intro (kc rfl rfl) (Exists.intro a10 (And.intro ha10 (?_))))
  show Ev l d mi_X9_readPlaces 79 [some (.ref 0), some (.int x1), some (.int x2), some (.int x3), some (.int x4), some (.int x5), none] [.int x5, .int x4, .ref a10] (hp s) 0 0 _
  obtain ⟨q11, hq11, hf⟩ := bd_some hf
  obtain ⟨c12, hf⟩ := gd_some hf
  refine Ev.callV (o := a10) (M' := mi_X4_isPlace) (d' := d - 1) (As := [.int x4, .int x5]) (rest := []) (r' := (some (.int q11.1), hp q11.2)) (e_X4_isPlace (d := d - 1) (by omega) a10 x4 x5 s _ hq11) (by omega) wm_X4_isPlace wi_X4_isPlace wv_X4_isPlace km_9_216 (kk_ok c12) (Nat.le_of_ble_eq_true rfl) rfl rfl rfl (Nat.le_of_ble_eq_true rfl) ⟨Nat.le_of_ble_eq_true rfl, Nat.le_of_ble_eq_true rfl⟩ (by decide +kernel) ?_
  show Ev l d mi_X9_readPlaces 82 [some (.ref 0), some (.int x1), some (.int x2), some (.int x3), some (.int x4), some (.int x5), none] [.int q11.1] (hp q11.2) 0 0 _
  refine Ev.if_ne (off := 5) (tgt := 87) (by decide +kernel) (by decide) (fun b13 => ?_) (fun b13 => ?_)
  · have hf := (if_neg b13).symm.trans hf
    obtain ⟨v14, hv14, hf⟩ := lt_some hf
    refine Ev.blk (pc' := 102) [(.iload 5, 0, 0, 0), (.iconst 5, 0, 0, 0), (.imul, 0, 0, 0), (.iload 4, 0, 0, 0), (.iadd, 0, 0, 0), (.istore 6, 0, 0, 0), (.iload_n 2, 0, 0, 0), (.iload 6, 0, 0, 0), (.ishr, 0, 0, 0), (.iconst 1, 0, 0, 0), (.iand, 0, 0, 0)] (by decide +kernel) trivial rfl (And.intro (Nat.le_of_ble_eq_true rfl) (?_))
    show Ev l d mi_X9_readPlaces 102 [some (.ref 0), some (.int x1), some (.int x2), some (.int x3), some (.int x4), some (.int x5), some (.int ((x5 * (Int32.ofInt 5)) + x4))] [.int ((x2 >>> (((x5 * (Int32.ofInt 5)) + x4) &&& 31)) &&& (Int32.ofInt 1))] (hp q11.2) 0 0 _
    rw [← hv14]
    refine Ev.if_eq (off := 5) (tgt := 107) (by decide +kernel) (by decide) (fun b15 => ?_) (fun b15 => ?_)
    · have hf := (if_pos b15).symm.trans hf
      obtain ⟨c16, hf⟩ := gd_some hf
      obtain ⟨s17, hs17, hf⟩ := lt_some hf
      obtain ⟨v18, hv18, hf⟩ := lt_some hf
      refine Ev.blk (pc' := 125) [(.iload_n 2, 0, 0, 0), (.iconst 1, 0, 0, 0), (.iload 6, 0, 0, 0), (.ishl, 0, 0, 0), (.ior, 0, 0, 0), (.istore_n 2, 0, 0, 0), (.aload_n 0, 0, 0, 0), (.getfield 99, 0, 9, 18), (.iload_n 3, 0, 0, 0), (.iload 6, 0, 0, 0), (.iastore, 0, 0, 0), (.iinc 3 1, 0, 0, 0)] (by decide +kernel) ⟨kf_9_99, trivial⟩ rfl (And.intro (Nat.le_of_ble_eq_true rfl) (And.intro (kc rfl rfl) (Exists.intro 63 (And.intro rfl (And.intro (kc rfl rfl) (And.intro (ib_ok c16) (And.intro (Nat.le_of_ble_eq_true rfl) (?_))))))))
      show Ev l d mi_X9_readPlaces 125 [some (.ref 0), some (.int x1), some (.int (x2 ||| ((Int32.ofInt 1) <<< (((x5 * (Int32.ofInt 5)) + x4) &&& 31)))), some (.int (x3 + Int32.ofInt 1)), some (.int x4), some (.int x5), some (.int ((x5 * (Int32.ofInt 5)) + x4))] [] (hp (uI q11.2 63 x3.toNatClampNeg ((x5 * (Int32.ofInt 5)) + x4))) 0 0 _
      rw [← hs17, ← hv18]
      refine Ev.goto (off := -121) (tgt := 4) (by decide +kernel) (by decide) ?_
      exact Ev.wk (hk4 x1 v18 (x3 + Int32.ofInt 1) s17 _ hf) (And.intro (Or.inr rfl) (And.intro (Or.inr rfl) (And.intro (Or.inr rfl) (And.intro (Or.inr rfl) (And.intro (Or.inl rfl) (And.intro (Or.inl rfl) (And.intro (Or.inl rfl) (trivial))))))))
    · have hf := (if_neg b15).symm.trans hf
      refine Ev.blk (pc' := 106) [(.iconst 0, 0, 0, 0)] (by decide +kernel) trivial rfl (?_)
      show Ev l d mi_X9_readPlaces 106 [some (.ref 0), some (.int x1), some (.int x2), some (.int x3), some (.int x4), some (.int x5), some (.int ((x5 * (Int32.ofInt 5)) + x4))] [.int (Int32.ofInt 0)] (hp q11.2) 0 0 _
      cases hf
      exact Ev.iret .boolean rfl rfl (by decide +kernel) (Nat.le_refl _) (Nat.le_refl _)
  · have hf := (if_pos b13).symm.trans hf
    refine Ev.blk (pc' := 86) [(.iconst 0, 0, 0, 0)] (by decide +kernel) trivial rfl (?_)
    show Ev l d mi_X9_readPlaces 86 [some (.ref 0), some (.int x1), some (.int x2), some (.int x3), some (.int x4), some (.int x5), none] [.int (Int32.ofInt 0)] (hp q11.2) 0 0 _
    cases hf
    exact Ev.iret .boolean rfl rfl (by decide +kernel) (Nat.le_refl _) (Nat.le_refl _)
def f_X9_readPlaces_L4 : Nat → Int32 → Int32 → Int32 → ST → Option (Int32 × ST)
  | 0, _, _, _, _ => none
  | n + 1, x1, x2, x3, s => (RR s.2.2 0 3).bind (fun a1 => gd (kk a1 4) ((if (s.1 a1 8) ≤ x3 then some ((Int32.ofInt 1), s) else (f_X7_byteAt (x1 + ((Int32.ofInt 2) * x3)) s).bind (fun q4 => (f_X7_byteAt ((x1 + ((Int32.ofInt 2) * x3)) + (Int32.ofInt 1)) q4.2).bind (fun q5 => (if q4.1 = ((Int16.ofInt 255).toInt32) then (if q5.1 = ((Int16.ofInt 255).toInt32) then gd (ib x3 8) (lt (uI q5.2 63 x3.toNatClampNeg (Int32.ofInt (-1))) (fun s9 => (f_X9_readPlaces_L4 n) x1 x2 (x3 + Int32.ofInt 1) s9)) else (f_X9_readPlaces_j71 (f_X9_readPlaces_L4 n)) x1 x2 x3 q4.1 q5.1 q5.2) else (f_X9_readPlaces_j71 (f_X9_readPlaces_L4 n)) x1 x2 x3 q4.1 q5.1 q5.2))))))
set_option maxHeartbeats 2000000 in
set_option maxRecDepth 20000 in
theorem e_X9_readPlaces_L4 {l : Launch} {d : Nat} (hd : 2 ≤ d) : ∀ (n : Nat) (x1 : Int32) (x2 : Int32) (x3 : Int32) (s : ST) (r : Int32 × ST), f_X9_readPlaces_L4 n x1 x2 x3 s = some r → Ev l d mi_X9_readPlaces 4 [some (.ref 0), some (.int x1), some (.int x2), some (.int x3), none, none, none] [] (hp s) 0 0 (some (.int r.1), hp r.2) := by
  intro n
  induction n with
  | zero =>
    intro x1 x2 x3 s r hf
    cases hf
  | succ n ih =>
    intro x1 x2 x3 s r hf
    unfold f_X9_readPlaces_L4 at hf
    obtain ⟨a1, ha1, hf⟩ := bd_some hf
    obtain ⟨c2, hf⟩ := gd_some hf
    refine Ev.blk (pc' := 12) [(.iload_n 3, 0, 0, 0), (.aload_n 0, 0, 0, 0), (.getfield 37, 0, 9, 3), (.getfield 138, 0, 4, 8)] (by decide +kernel) ⟨kf_9_37, ⟨kf_9_138, trivial⟩⟩ rfl (And.intro (kc rfl rfl) (Exists.intro a1 (And.intro ha1 (And.intro (kk_ok c2) (?_)))))
    show Ev l d mi_X9_readPlaces 12 [some (.ref 0), some (.int x1), some (.int x2), some (.int x3), none, none, none] [.int (s.1 a1 8), .int x3] (hp s) 0 0 _
    refine Ev.icmp_ge (off := 116) (tgt := 128) (by decide +kernel) (by decide) (fun b3 => ?_) (fun b3 => ?_)
    · have hf := (if_pos b3).symm.trans hf
      refine Ev.blk (pc' := 129) [(.iconst 1, 0, 0, 0)] (by decide +kernel) trivial rfl (?_)
      show Ev l d mi_X9_readPlaces 129 [some (.ref 0), some (.int x1), some (.int x2), some (.int x3), none, none, none] [.int (Int32.ofInt 1)] (hp s) 0 0 _
      cases hf
      exact Ev.iret .boolean rfl rfl (by decide +kernel) (Nat.le_refl _) (Nat.le_refl _)
    · have hf := (if_neg b3).symm.trans hf
      refine Ev.blk (pc' := 24) [(.aload_n 0, 0, 0, 0), (.getfield 12, 0, 9, 0), (.iload_n 1, 0, 0, 0), (.iconst 2, 0, 0, 0), (.iload_n 3, 0, 0, 0), (.imul, 0, 0, 0), (.iadd, 0, 0, 0)] (by decide +kernel) ⟨kf_9_12, trivial⟩ rfl (And.intro (kc rfl rfl) (Exists.intro 1 (And.intro rfl (?_))))
      show Ev l d mi_X9_readPlaces 24 [some (.ref 0), some (.int x1), some (.int x2), some (.int x3), none, none, none] [.int (x1 + ((Int32.ofInt 2) * x3)), .ref 1] (hp s) 0 0 _
      obtain ⟨q4, hq4, hf⟩ := bd_some hf
      refine Ev.callV (o := 1) (M' := mi_X7_byteAt) (d' := d - 1) (As := [.int (x1 + ((Int32.ofInt 2) * x3))]) (rest := []) (r' := (some (.int q4.1), hp q4.2)) (e_X7_byteAt (d := d - 1) (by omega) (x1 + ((Int32.ofInt 2) * x3)) s _ hq4) (by omega) wm_X7_byteAt wi_X7_byteAt wv_X7_byteAt km_9_295 (kc rfl rfl) (Nat.le_of_ble_eq_true rfl) rfl rfl rfl (Nat.le_of_ble_eq_true rfl) ⟨Nat.le_of_ble_eq_true rfl, Nat.le_of_ble_eq_true rfl⟩ (by decide +kernel) ?_
      show Ev l d mi_X9_readPlaces 27 [some (.ref 0), some (.int x1), some (.int x2), some (.int x3), none, none, none] [.int q4.1] (hp q4.2) 0 0 _
      refine Ev.blk (pc' := 40) [(.istore 4, 0, 0, 0), (.aload_n 0, 0, 0, 0), (.getfield 12, 0, 9, 0), (.iload_n 1, 0, 0, 0), (.iconst 2, 0, 0, 0), (.iload_n 3, 0, 0, 0), (.imul, 0, 0, 0), (.iadd, 0, 0, 0), (.iconst 1, 0, 0, 0), (.iadd, 0, 0, 0)] (by decide +kernel) ⟨kf_9_12, trivial⟩ rfl (And.intro (Nat.le_of_ble_eq_true rfl) (And.intro (kc rfl rfl) (Exists.intro 1 (And.intro rfl (?_)))))
      show Ev l d mi_X9_readPlaces 40 [some (.ref 0), some (.int x1), some (.int x2), some (.int x3), some (.int q4.1), none, none] [.int ((x1 + ((Int32.ofInt 2) * x3)) + (Int32.ofInt 1)), .ref 1] (hp q4.2) 0 0 _
      obtain ⟨q5, hq5, hf⟩ := bd_some hf
      refine Ev.callV (o := 1) (M' := mi_X7_byteAt) (d' := d - 1) (As := [.int ((x1 + ((Int32.ofInt 2) * x3)) + (Int32.ofInt 1))]) (rest := []) (r' := (some (.int q5.1), hp q5.2)) (e_X7_byteAt (d := d - 1) (by omega) ((x1 + ((Int32.ofInt 2) * x3)) + (Int32.ofInt 1)) q4.2 _ hq5) (by omega) wm_X7_byteAt wi_X7_byteAt wv_X7_byteAt km_9_295 (kc rfl rfl) (Nat.le_of_ble_eq_true rfl) rfl rfl rfl (Nat.le_of_ble_eq_true rfl) ⟨Nat.le_of_ble_eq_true rfl, Nat.le_of_ble_eq_true rfl⟩ (by decide +kernel) ?_
      show Ev l d mi_X9_readPlaces 43 [some (.ref 0), some (.int x1), some (.int x2), some (.int x3), some (.int q4.1), none, none] [.int q5.1] (hp q5.2) 0 0 _
      refine Ev.blk (pc' := 50) [(.istore 5, 0, 0, 0), (.iload 4, 0, 0, 0), (.sipush 255, 0, 0, 0)] (by decide +kernel) trivial rfl (And.intro (Nat.le_of_ble_eq_true rfl) (?_))
      show Ev l d mi_X9_readPlaces 50 [some (.ref 0), some (.int x1), some (.int x2), some (.int x3), some (.int q4.1), some (.int q5.1), none] [.int ((Int16.ofInt 255).toInt32), .int q4.1] (hp q5.2) 0 0 _
      refine Ev.icmp_ne (off := 21) (tgt := 71) (by decide +kernel) (by decide) (fun b6 => ?_) (fun b6 => ?_)
      · have hf := (if_neg b6).symm.trans hf
        exact (e_X9_readPlaces_j71 hd (f_X9_readPlaces_L4 n) ih) x1 x2 x3 q4.1 q5.1 q5.2 _ hf
      · have hf := (if_pos b6).symm.trans hf
        refine Ev.blk (pc' := 58) [(.iload 5, 0, 0, 0), (.sipush 255, 0, 0, 0)] (by decide +kernel) trivial rfl (?_)
        show Ev l d mi_X9_readPlaces 58 [some (.ref 0), some (.int x1), some (.int x2), some (.int x3), some (.int q4.1), some (.int q5.1), none] [.int ((Int16.ofInt 255).toInt32), .int q5.1] (hp q5.2) 0 0 _
        refine Ev.icmp_ne (off := 13) (tgt := 71) (by decide +kernel) (by decide) (fun b7 => ?_) (fun b7 => ?_)
        · have hf := (if_neg b7).symm.trans hf
          exact (e_X9_readPlaces_j71 hd (f_X9_readPlaces_L4 n) ih) x1 x2 x3 q4.1 q5.1 q5.2 _ hf
        · have hf := (if_pos b7).symm.trans hf
          obtain ⟨c8, hf⟩ := gd_some hf
          obtain ⟨s9, hs9, hf⟩ := lt_some hf
          refine Ev.blk (pc' := 68) [(.aload_n 0, 0, 0, 0), (.getfield 99, 0, 9, 18), (.iload_n 3, 0, 0, 0), (.iconst (-1), 0, 0, 0), (.iastore, 0, 0, 0)] (by decide +kernel) ⟨kf_9_99, trivial⟩ rfl (And.intro (kc rfl rfl) (Exists.intro 63 (And.intro rfl (And.intro (kc rfl rfl) (And.intro (ib_ok c8) (?_))))))
          show Ev l d mi_X9_readPlaces 68 [some (.ref 0), some (.int x1), some (.int x2), some (.int x3), some (.int q4.1), some (.int q5.1), none] [] (hp (uI q5.2 63 x3.toNatClampNeg (Int32.ofInt (-1)))) 0 0 _
          rw [← hs9]
          refine Ev.goto (off := 54) (tgt := 122) (by decide +kernel) (by decide) ?_
          refine Ev.blk (pc' := 125) [(.iinc 3 1, 0, 0, 0)] (by decide +kernel) trivial rfl (And.intro (Nat.le_of_ble_eq_true rfl) (?_))
          show Ev l d mi_X9_readPlaces 125 [some (.ref 0), some (.int x1), some (.int x2), some (.int (x3 + Int32.ofInt 1)), some (.int q4.1), some (.int q5.1), none] [] (hp s9) 0 0 _
          refine Ev.goto (off := -121) (tgt := 4) (by decide +kernel) (by decide) ?_
          exact Ev.wk (ih x1 x2 (x3 + Int32.ofInt 1) s9 _ hf) (And.intro (Or.inr rfl) (And.intro (Or.inr rfl) (And.intro (Or.inr rfl) (And.intro (Or.inr rfl) (And.intro (Or.inl rfl) (And.intro (Or.inl rfl) (And.intro (Or.inr rfl) (trivial))))))))
def f_X9_readPlaces (p0 : Int32) (s : ST) : Option (Int32 × ST) := (f_X9_readPlaces_L4 fuel) p0 (Int32.ofInt 0) (Int32.ofInt 0) s
set_option maxHeartbeats 2000000 in
set_option maxRecDepth 20000 in
theorem e_X9_readPlaces {l : Launch} {d : Nat} (hd : 2 ≤ d) (p0 : Int32) (s : ST) (r : Int32 × ST) (hf : f_X9_readPlaces p0 s = some r) : Cl l d mi_X9_readPlaces [.ref 0, .int p0] (hp s) (some (.int r.1), hp r.2) := by
  refine Ev.entry (by decide +kernel) rfl rfl ?_
  show Ev l d mi_X9_readPlaces 0 [some (.ref 0), some (.int p0), none, none, none, none, none] [] (hp s) 0 0 _
  unfold f_X9_readPlaces at hf
  refine Ev.blk (pc' := 4) [(.iconst 0, 0, 0, 0), (.istore_n 2, 0, 0, 0), (.iconst 0, 0, 0, 0), (.istore_n 3, 0, 0, 0)] (by decide +kernel) trivial rfl (And.intro (Nat.le_of_ble_eq_true rfl) (And.intro (Nat.le_of_ble_eq_true rfl) (?_)))
  show Ev l d mi_X9_readPlaces 4 [some (.ref 0), some (.int p0), some (.int (Int32.ofInt 0)), some (.int (Int32.ofInt 0)), none, none, none] [] (hp s) 0 0 _
  exact (e_X9_readPlaces_L4 hd fuel) p0 (Int32.ofInt 0) (Int32.ofInt 0) s _ hf
def f_X9_reached_j48 (x1 : Int32) (y0 : Int32) (s : ST) : Option (Int32 × ST) := lt (uI s 1 1 (Int32.ofInt 0)) (fun s10 => (if y0 = 0 then (f_X9_refuse (Int32.ofInt 1) s10).bind (fun q12 => some (q12.1, q12.2)) else (t_X3_waysTo 36 63 (s10.1 36 2) x1 s10).bind (fun q13 => some (q13.1, q13.2))))
set_option maxHeartbeats 2000000 in
set_option maxRecDepth 20000 in
theorem e_X9_reached_j48 {l : Launch} {d : Nat} (hd : 16 ≤ d) (x1 : Int32) (y0 : Int32) (s : ST) (r : Int32 × ST) (hf : f_X9_reached_j48 x1 y0 s = some r) : Ev l d mi_X9_reached 48 [some (.ref 0), some (.int x1), none] [.int y0] (hp s) 0 0 (some (.int r.1), hp r.2) := by
  unfold f_X9_reached_j48 at hf
  obtain ⟨s10, hs10, hf⟩ := lt_some hf
  refine Ev.blk (pc' := 58) [(.istore_n 2, 0, 0, 0), (.aload_n 0, 0, 0, 0), (.getfield 12, 0, 9, 0), (.iconst 0, 0, 0, 0), (.putfield 105, 0, 7, 1), (.iload_n 2, 0, 0, 0)] (by decide +kernel) ⟨kf_9_12, ⟨⟨kf_9_105, Or.inl rfl⟩, trivial⟩⟩ rfl (And.intro (Nat.le_of_ble_eq_true rfl) (And.intro (kc rfl rfl) (Exists.intro 1 (And.intro rfl (And.intro (kc rfl rfl) (?_))))))
  show Ev l d mi_X9_reached 58 [some (.ref 0), some (.int x1), some (.int y0)] [.int y0] (hp (uI s 1 1 (Int32.ofInt 0))) 0 0 _
  rw [← hs10]
  refine Ev.if_eq (off := 25) (tgt := 83) (by decide +kernel) (by decide) (fun b11 => ?_) (fun b11 => ?_)
  · have hf := (if_pos b11).symm.trans hf
    refine Ev.blk (pc' := 85) [(.aload_n 0, 0, 0, 0), (.iconst 1, 0, 0, 0)] (by decide +kernel) trivial rfl (?_)
    show Ev l d mi_X9_reached 85 [some (.ref 0), some (.int x1), some (.int y0)] [.int (Int32.ofInt 1), .ref 0] (hp s10) 0 0 _
    obtain ⟨q12, hq12, hf⟩ := bd_some hf
    refine Ev.callV (o := 0) (M' := mi_X9_refuse) (d' := d - 1) (As := [.int (Int32.ofInt 1)]) (rest := []) (r' := (some (.int q12.1), hp q12.2)) (e_X9_refuse (d := d - 1) (by omega) (Int32.ofInt 1) s10 _ hq12) (by omega) wm_X9_refuse wi_X9_refuse wv_X9_refuse km_9_108 (kc rfl rfl) (Nat.le_of_ble_eq_true rfl) rfl rfl rfl (Nat.le_of_ble_eq_true rfl) ⟨Nat.le_of_ble_eq_true rfl, Nat.le_of_ble_eq_true rfl⟩ (by decide +kernel) ?_
    show Ev l d mi_X9_reached 88 [some (.ref 0), some (.int x1), some (.int y0)] [.int q12.1] (hp q12.2) 0 0 _
    cases hf
    exact Ev.iret .int rfl rfl (by decide +kernel) (Nat.le_refl _) (Nat.le_refl _)
  · have hf := (if_neg b11).symm.trans hf
    refine Ev.blk (pc' := 77) [(.aload_n 0, 0, 0, 0), (.getfield 56, 0, 9, 6), (.aload_n 0, 0, 0, 0), (.getfield 99, 0, 9, 18), (.aload_n 0, 0, 0, 0), (.getfield 56, 0, 9, 6), (.getfield 147, 0, 3, 2), (.iload_n 1, 0, 0, 0)] (by decide +kernel) ⟨kf_9_56, ⟨kf_9_99, ⟨kf_9_56, ⟨kf_9_147, trivial⟩⟩⟩⟩ rfl (And.intro (kc rfl rfl) (Exists.intro 36 (And.intro rfl (And.intro (kc rfl rfl) (Exists.intro 63 (And.intro rfl (And.intro (kc rfl rfl) (Exists.intro 36 (And.intro rfl (And.intro (kc rfl rfl) (?_)))))))))))
    show Ev l d mi_X9_reached 77 [some (.ref 0), some (.int x1), some (.int y0)] [.int x1, .int (s10.1 36 2), .ref 63, .ref 36] (hp s10) 0 0 _
    obtain ⟨q13, hq13, hf⟩ := bd_some hf
    refine Ev.callV (o := 36) (M' := mi_X3_waysTo) (d' := d - 1) (As := [.ref 63, .int (s10.1 36 2), .int x1]) (rest := []) (r' := (some (.int q13.1), hp q13.2)) (te_X3_waysTo (d := d - 1) (by omega) 36 63 (s10.1 36 2) x1 s10 _ hq13) (by omega) wm_X3_waysTo wi_X3_waysTo wv_X3_waysTo km_9_307 (kc rfl rfl) (Nat.le_of_ble_eq_true rfl) rfl rfl rfl (Nat.le_of_ble_eq_true rfl) ⟨Nat.le_of_ble_eq_true rfl, Nat.le_of_ble_eq_true rfl⟩ (by decide +kernel) ?_
    show Ev l d mi_X9_reached 80 [some (.ref 0), some (.int x1), some (.int y0)] [.int q13.1] (hp q13.2) 0 0 _
    refine Ev.goto (off := 8) (tgt := 88) (by decide +kernel) (by decide) ?_
    cases hf
    exact Ev.iret .int rfl rfl (by decide +kernel) (Nat.le_refl _) (Nat.le_refl _)
def f_X9_reached_j47 (x1 : Int32) (s : ST) : Option (Int32 × ST) := f_X9_reached_j48 x1 (Int32.ofInt 0) s
set_option maxHeartbeats 2000000 in
set_option maxRecDepth 20000 in
theorem e_X9_reached_j47 {l : Launch} {d : Nat} (hd : 16 ≤ d) (x1 : Int32) (s : ST) (r : Int32 × ST) (hf : f_X9_reached_j47 x1 s = some r) : Ev l d mi_X9_reached 47 [some (.ref 0), some (.int x1), none] [] (hp s) 0 0 (some (.int r.1), hp r.2) := by
  unfold f_X9_reached_j47 at hf
  refine Ev.blk (pc' := 48) [(.iconst 0, 0, 0, 0)] (by decide +kernel) trivial rfl (?_)
  show Ev l d mi_X9_reached 48 [some (.ref 0), some (.int x1), none] [.int (Int32.ofInt 0)] (hp s) 0 0 _
  exact (e_X9_reached_j48 hd) x1 (Int32.ofInt 0) s _ hf
def f_X9_reached (p0 : Int32) (s : ST) : Option (Int32 × ST) := (f_X9_isTold s).bind (fun q1 => (if q1.1 = 0 then f_X9_reached_j47 p0 q1.2 else (if p0 < 0 then f_X9_reached_j47 p0 q1.2 else (if (Int32.ofInt 3) < p0 then f_X9_reached_j47 p0 q1.2 else (RR q1.2.2.2 0 3).bind (fun a5 => gd (kk a5 4) ((if (q1.2.1 1 1) = ((Int32.ofInt 2) * (q1.2.1 a5 8)) then (f_X9_readPlaces (Int32.ofInt 0) q1.2).bind (fun q8 => (if q8.1 = 0 then f_X9_reached_j47 p0 q8.2 else f_X9_reached_j48 p0 (Int32.ofInt 1) q8.2)) else f_X9_reached_j47 p0 q1.2)))))))
set_option maxHeartbeats 2000000 in
set_option maxRecDepth 20000 in
theorem e_X9_reached {l : Launch} {d : Nat} (hd : 16 ≤ d) (p0 : Int32) (s : ST) (r : Int32 × ST) (hf : f_X9_reached p0 s = some r) : Cl l d mi_X9_reached [.ref 0, .int p0] (hp s) (some (.int r.1), hp r.2) := by
  refine Ev.entry (by decide +kernel) rfl rfl ?_
  show Ev l d mi_X9_reached 0 [some (.ref 0), some (.int p0), none] [] (hp s) 0 0 _
  unfold f_X9_reached at hf
  refine Ev.blk (pc' := 1) [(.aload_n 0, 0, 0, 0)] (by decide +kernel) trivial rfl (?_)
  show Ev l d mi_X9_reached 1 [some (.ref 0), some (.int p0), none] [.ref 0] (hp s) 0 0 _
  obtain ⟨q1, hq1, hf⟩ := bd_some hf
  refine Ev.callV (o := 0) (M' := mi_X9_isTold) (d' := d - 1) (As := []) (rest := []) (r' := (some (.int q1.1), hp q1.2)) (e_X9_isTold (d := d - 1) (by omega) s _ hq1) (by omega) wm_X9_isTold wi_X9_isTold wv_X9_isTold km_9_150 (kc rfl rfl) (Nat.le_of_ble_eq_true rfl) rfl rfl rfl (Nat.le_of_ble_eq_true rfl) ⟨Nat.le_of_ble_eq_true rfl, Nat.le_of_ble_eq_true rfl⟩ (by decide +kernel) ?_
  show Ev l d mi_X9_reached 4 [some (.ref 0), some (.int p0), none] [.int q1.1] (hp q1.2) 0 0 _
  refine Ev.if_eq (off := 43) (tgt := 47) (by decide +kernel) (by decide) (fun b2 => ?_) (fun b2 => ?_)
  · have hf := (if_pos b2).symm.trans hf
    exact (e_X9_reached_j47 hd) p0 q1.2 _ hf
  · have hf := (if_neg b2).symm.trans hf
    refine Ev.blk (pc' := 8) [(.iload_n 1, 0, 0, 0)] (by decide +kernel) trivial rfl (?_)
    show Ev l d mi_X9_reached 8 [some (.ref 0), some (.int p0), none] [.int p0] (hp q1.2) 0 0 _
    refine Ev.if_lt (off := 39) (tgt := 47) (by decide +kernel) (by decide) (fun b3 => ?_) (fun b3 => ?_)
    · have hf := (if_pos b3).symm.trans hf
      exact (e_X9_reached_j47 hd) p0 q1.2 _ hf
    · have hf := (if_neg b3).symm.trans hf
      refine Ev.blk (pc' := 13) [(.iload_n 1, 0, 0, 0), (.iconst 3, 0, 0, 0)] (by decide +kernel) trivial rfl (?_)
      show Ev l d mi_X9_reached 13 [some (.ref 0), some (.int p0), none] [.int (Int32.ofInt 3), .int p0] (hp q1.2) 0 0 _
      refine Ev.icmp_gt (off := 34) (tgt := 47) (by decide +kernel) (by decide) (fun b4 => ?_) (fun b4 => ?_)
      · have hf := (if_pos b4).symm.trans hf
        exact (e_X9_reached_j47 hd) p0 q1.2 _ hf
      · have hf := (if_neg b4).symm.trans hf
        obtain ⟨a5, ha5, hf⟩ := bd_some hf
        obtain ⟨c6, hf⟩ := gd_some hf
        refine Ev.blk (pc' := 32) [(.aload_n 0, 0, 0, 0), (.getfield 12, 0, 9, 0), (.getfield 105, 0, 7, 1), (.iconst 2, 0, 0, 0), (.aload_n 0, 0, 0, 0), (.getfield 37, 0, 9, 3), (.getfield 138, 0, 4, 8), (.imul, 0, 0, 0)] (by decide +kernel) ⟨kf_9_12, ⟨kf_9_105, ⟨kf_9_37, ⟨kf_9_138, trivial⟩⟩⟩⟩ rfl (And.intro (kc rfl rfl) (Exists.intro 1 (And.intro rfl (And.intro (kc rfl rfl) (And.intro (kc rfl rfl) (Exists.intro a5 (And.intro ha5 (And.intro (kk_ok c6) (?_)))))))))
        show Ev l d mi_X9_reached 32 [some (.ref 0), some (.int p0), none] [.int ((Int32.ofInt 2) * (q1.2.1 a5 8)), .int (q1.2.1 1 1)] (hp q1.2) 0 0 _
        refine Ev.icmp_ne (off := 15) (tgt := 47) (by decide +kernel) (by decide) (fun b7 => ?_) (fun b7 => ?_)
        · have hf := (if_neg b7).symm.trans hf
          exact (e_X9_reached_j47 hd) p0 q1.2 _ hf
        · have hf := (if_pos b7).symm.trans hf
          refine Ev.blk (pc' := 37) [(.aload_n 0, 0, 0, 0), (.iconst 0, 0, 0, 0)] (by decide +kernel) trivial rfl (?_)
          show Ev l d mi_X9_reached 37 [some (.ref 0), some (.int p0), none] [.int (Int32.ofInt 0), .ref 0] (hp q1.2) 0 0 _
          obtain ⟨q8, hq8, hf⟩ := bd_some hf
          refine Ev.callV (o := 0) (M' := mi_X9_readPlaces) (d' := d - 1) (As := [.int (Int32.ofInt 0)]) (rest := []) (r' := (some (.int q8.1), hp q8.2)) (e_X9_readPlaces (d := d - 1) (by omega) (Int32.ofInt 0) q1.2 _ hq8) (by omega) wm_X9_readPlaces wi_X9_readPlaces wv_X9_readPlaces km_9_304 (kc rfl rfl) (Nat.le_of_ble_eq_true rfl) rfl rfl rfl (Nat.le_of_ble_eq_true rfl) ⟨Nat.le_of_ble_eq_true rfl, Nat.le_of_ble_eq_true rfl⟩ (by decide +kernel) ?_
          show Ev l d mi_X9_reached 40 [some (.ref 0), some (.int p0), none] [.int q8.1] (hp q8.2) 0 0 _
          refine Ev.if_eq (off := 7) (tgt := 47) (by decide +kernel) (by decide) (fun b9 => ?_) (fun b9 => ?_)
          · have hf := (if_pos b9).symm.trans hf
            exact (e_X9_reached_j47 hd) p0 q8.2 _ hf
          · have hf := (if_neg b9).symm.trans hf
            refine Ev.blk (pc' := 44) [(.iconst 1, 0, 0, 0)] (by decide +kernel) trivial rfl (?_)
            show Ev l d mi_X9_reached 44 [some (.ref 0), some (.int p0), none] [.int (Int32.ofInt 1)] (hp q8.2) 0 0 _
            refine Ev.goto (off := 4) (tgt := 48) (by decide +kernel) (by decide) ?_
            exact (e_X9_reached_j48 hd) p0 (Int32.ofInt 1) q8.2 _ hf
def f_X9_actDay (p0 : Int32) (s : ST) : Option (Int32 × ST) := (f_X3_passDay 36 p0 s).bind (fun q1 => (if p0 < 0 then some (q1.1, q1.2) else (f_X9_byteOfMan q1.1 q1.2).bind (fun q3 => (f_X0_keep (s.1 36 1) p0 q3.1 q3.2).bind (fun q4 => some (q1.1, q4)))))
set_option maxHeartbeats 2000000 in
set_option maxRecDepth 20000 in
theorem e_X9_actDay {l : Launch} {d : Nat} (hd : 7 ≤ d) (p0 : Int32) (s : ST) (r : Int32 × ST) (hf : f_X9_actDay p0 s = some r) : Cl l d mi_X9_actDay [.ref 0, .int p0] (hp s) (some (.int r.1), hp r.2) := by
  refine Ev.entry (by decide +kernel) rfl rfl ?_
  show Ev l d mi_X9_actDay 0 [some (.ref 0), some (.int p0), none, none] [] (hp s) 0 0 _
  unfold f_X9_actDay at hf
  refine Ev.blk (pc' := 13) [(.aload_n 0, 0, 0, 0), (.getfield 56, 0, 9, 6), (.getfield 144, 0, 3, 1), (.istore_n 2, 0, 0, 0), (.aload_n 0, 0, 0, 0), (.getfield 56, 0, 9, 6), (.iload_n 1, 0, 0, 0)] (by decide +kernel) ⟨kf_9_56, ⟨kf_9_144, ⟨kf_9_56, trivial⟩⟩⟩ rfl (And.intro (kc rfl rfl) (Exists.intro 36 (And.intro rfl (And.intro (kc rfl rfl) (And.intro (Nat.le_of_ble_eq_true rfl) (And.intro (kc rfl rfl) (Exists.intro 36 (And.intro rfl (?_)))))))))
  show Ev l d mi_X9_actDay 13 [some (.ref 0), some (.int p0), some (.int (s.1 36 1)), none] [.int p0, .ref 36] (hp s) 0 0 _
  obtain ⟨q1, hq1, hf⟩ := bd_some hf
  refine Ev.callV (o := 36) (M' := mi_X3_passDay) (d' := d - 1) (As := [.int p0]) (rest := []) (r' := (some (.int q1.1), hp q1.2)) (e_X3_passDay (d := d - 1) (by omega) 36 p0 s _ hq1) (by omega) wm_X3_passDay wi_X3_passDay wv_X3_passDay km_9_277 (kc rfl rfl) (Nat.le_of_ble_eq_true rfl) rfl rfl rfl (Nat.le_of_ble_eq_true rfl) ⟨Nat.le_of_ble_eq_true rfl, Nat.le_of_ble_eq_true rfl⟩ (by decide +kernel) ?_
  show Ev l d mi_X9_actDay 16 [some (.ref 0), some (.int p0), some (.int (s.1 36 1)), none] [.int q1.1] (hp q1.2) 0 0 _
  refine Ev.blk (pc' := 18) [(.istore_n 3, 0, 0, 0), (.iload_n 1, 0, 0, 0)] (by decide +kernel) trivial rfl (And.intro (Nat.le_of_ble_eq_true rfl) (?_))
  show Ev l d mi_X9_actDay 18 [some (.ref 0), some (.int p0), some (.int (s.1 36 1)), some (.int q1.1)] [.int p0] (hp q1.2) 0 0 _
  refine Ev.if_lt (off := 16) (tgt := 34) (by decide +kernel) (by decide) (fun b2 => ?_) (fun b2 => ?_)
  · have hf := (if_pos b2).symm.trans hf
    refine Ev.blk (pc' := 35) [(.iload_n 3, 0, 0, 0)] (by decide +kernel) trivial rfl (?_)
    show Ev l d mi_X9_actDay 35 [some (.ref 0), some (.int p0), some (.int (s.1 36 1)), some (.int q1.1)] [.int q1.1] (hp q1.2) 0 0 _
    cases hf
    exact Ev.iret .int rfl rfl (by decide +kernel) (Nat.le_refl _) (Nat.le_refl _)
  · have hf := (if_neg b2).symm.trans hf
    refine Ev.blk (pc' := 28) [(.aload_n 0, 0, 0, 0), (.getfield 66, 0, 9, 8), (.iload_n 2, 0, 0, 0), (.iload_n 1, 0, 0, 0), (.iload_n 3, 0, 0, 0)] (by decide +kernel) ⟨kf_9_66, trivial⟩ rfl (And.intro (kc rfl rfl) (Exists.intro 56 (And.intro rfl (?_))))
    show Ev l d mi_X9_actDay 28 [some (.ref 0), some (.int p0), some (.int (s.1 36 1)), some (.int q1.1)] [.int q1.1, .int p0, .int (s.1 36 1), .ref 56] (hp q1.2) 0 0 _
    obtain ⟨q3, hq3, hf⟩ := bd_some hf
    refine Ev.callS (M' := mi_X9_byteOfMan) (d' := d - 1) (As := [.int q1.1]) (rest := [.int p0, .int (s.1 36 1), .ref 56]) (r' := (some (.int q3.1), hp q3.2)) (e_X9_byteOfMan (d := d - 1) (by omega) q1.1 q1.2 _ hq3) (by omega) wm_X9_byteOfMan wt_X9_byteOfMan km_9_232 rfl rfl rfl (Nat.le_of_ble_eq_true rfl) ⟨Nat.le_of_ble_eq_true rfl, Nat.le_of_ble_eq_true rfl⟩ (by decide +kernel) ?_
    show Ev l d mi_X9_actDay 31 [some (.ref 0), some (.int p0), some (.int (s.1 36 1)), some (.int q1.1)] [.int q3.1, .int p0, .int (s.1 36 1), .ref 56] (hp q3.2) 0 0 _
    obtain ⟨q4, hq4, hf⟩ := bd_some hf
    refine Ev.callV (o := 56) (M' := mi_X0_keep) (d' := d - 1) (As := [.int (s.1 36 1), .int p0, .int q3.1]) (rest := []) (r' := (none, hp q4)) (e_X0_keep (d := d - 1) (by omega) (s.1 36 1) p0 q3.1 q3.2 _ hq4) (by omega) wm_X0_keep wi_X0_keep wv_X0_keep km_9_360 (kc rfl rfl) (Nat.le_of_ble_eq_true rfl) rfl rfl rfl (Nat.le_of_ble_eq_true rfl) ⟨Nat.le_of_ble_eq_true rfl, Nat.le_of_ble_eq_true rfl⟩ (by decide +kernel) ?_
    show Ev l d mi_X9_actDay 34 [some (.ref 0), some (.int p0), some (.int (s.1 36 1)), some (.int q1.1)] [] (hp q4) 0 0 _
    refine Ev.blk (pc' := 35) [(.iload_n 3, 0, 0, 0)] (by decide +kernel) trivial rfl (?_)
    show Ev l d mi_X9_actDay 35 [some (.ref 0), some (.int p0), some (.int (s.1 36 1)), some (.int q1.1)] [.int q1.1] (hp q4) 0 0 _
    cases hf
    exact Ev.iret .int rfl rfl (by decide +kernel) (Nat.le_refl _) (Nat.le_refl _)
def f_X9_play_j26 (s : ST) : Option (Int32 × ST) := (f_X9_refuse (Int32.ofInt 2) s).bind (fun q7 => some (q7.1, q7.2))
set_option maxHeartbeats 2000000 in
set_option maxRecDepth 20000 in
theorem e_X9_play_j26 {l : Launch} {d : Nat} (hd : 8 ≤ d) (s : ST) (r : Int32 × ST) (hf : f_X9_play_j26 s = some r) : Ev l d mi_X9_play 26 [some (.ref 0), none, none] [] (hp s) 0 0 (some (.int r.1), hp r.2) := by
  unfold f_X9_play_j26 at hf
  refine Ev.blk (pc' := 28) [(.aload_n 0, 0, 0, 0), (.iconst 2, 0, 0, 0)] (by decide +kernel) trivial rfl (?_)
  show Ev l d mi_X9_play 28 [some (.ref 0), none, none] [.int (Int32.ofInt 2), .ref 0] (hp s) 0 0 _
  obtain ⟨q7, hq7, hf⟩ := bd_some hf
  refine Ev.callV (o := 0) (M' := mi_X9_refuse) (d' := d - 1) (As := [.int (Int32.ofInt 2)]) (rest := []) (r' := (some (.int q7.1), hp q7.2)) (e_X9_refuse (d := d - 1) (by omega) (Int32.ofInt 2) s _ hq7) (by omega) wm_X9_refuse wi_X9_refuse wv_X9_refuse km_9_108 (kc rfl rfl) (Nat.le_of_ble_eq_true rfl) rfl rfl rfl (Nat.le_of_ble_eq_true rfl) ⟨Nat.le_of_ble_eq_true rfl, Nat.le_of_ble_eq_true rfl⟩ (by decide +kernel) ?_
  show Ev l d mi_X9_play 31 [some (.ref 0), none, none] [.int q7.1] (hp q7.2) 0 0 _
  cases hf
  exact Ev.iret .int rfl rfl (by decide +kernel) (Nat.le_refl _) (Nat.le_refl _)
def f_X9_play (p0 : Int32) (s : ST) : Option (Int32 × ST) := (f_X3_moveAt 36 p0 s).bind (fun q1 => (if q1.1 < 0 then f_X9_play_j26 q1.2 else (if (q1.2.1 36 1) < ((Int16.ofInt 999).toInt32) then (f_X0_remember 36 q1.2).bind (fun q4 => (f_X9_actDay q1.1 q4).bind (fun q5 => (f_X9_byteOfMan q5.1 q5.2).bind (fun q6 => some (q6.1, q6.2)))) else f_X9_play_j26 q1.2)))
set_option maxHeartbeats 2000000 in
set_option maxRecDepth 20000 in
theorem e_X9_play {l : Launch} {d : Nat} (hd : 8 ≤ d) (p0 : Int32) (s : ST) (r : Int32 × ST) (hf : f_X9_play p0 s = some r) : Cl l d mi_X9_play [.ref 0, .int p0] (hp s) (some (.int r.1), hp r.2) := by
  refine Ev.entry (by decide +kernel) rfl rfl ?_
  show Ev l d mi_X9_play 0 [some (.ref 0), some (.int p0), none] [] (hp s) 0 0 _
  unfold f_X9_play at hf
  refine Ev.blk (pc' := 5) [(.aload_n 0, 0, 0, 0), (.getfield 56, 0, 9, 6), (.iload_n 1, 0, 0, 0)] (by decide +kernel) ⟨kf_9_56, trivial⟩ rfl (And.intro (kc rfl rfl) (Exists.intro 36 (And.intro rfl (?_))))
  show Ev l d mi_X9_play 5 [some (.ref 0), some (.int p0), none] [.int p0, .ref 36] (hp s) 0 0 _
  obtain ⟨q1, hq1, hf⟩ := bd_some hf
  refine Ev.callV (o := 36) (M' := mi_X3_moveAt) (d' := d - 1) (As := [.int p0]) (rest := []) (r' := (some (.int q1.1), hp q1.2)) (e_X3_moveAt (d := d - 1) (by omega) 36 p0 s _ hq1) (by omega) wm_X3_moveAt wi_X3_moveAt wv_X3_moveAt km_9_223 (kc rfl rfl) (Nat.le_of_ble_eq_true rfl) rfl rfl rfl (Nat.le_of_ble_eq_true rfl) ⟨Nat.le_of_ble_eq_true rfl, Nat.le_of_ble_eq_true rfl⟩ (by decide +kernel) ?_
  show Ev l d mi_X9_play 8 [some (.ref 0), some (.int p0), none] [.int q1.1] (hp q1.2) 0 0 _
  refine Ev.blk (pc' := 10) [(.istore_n 2, 0, 0, 0), (.iload_n 2, 0, 0, 0)] (by decide +kernel) trivial rfl (And.intro (Nat.le_of_ble_eq_true rfl) (?_))
  show Ev l d mi_X9_play 10 [some (.ref 0), some (.int p0), some (.int q1.1)] [.int q1.1] (hp q1.2) 0 0 _
  refine Ev.if_lt (off := 16) (tgt := 26) (by decide +kernel) (by decide) (fun b2 => ?_) (fun b2 => ?_)
  · have hf := (if_pos b2).symm.trans hf
    exact Ev.wk ((e_X9_play_j26 hd) q1.2 _ hf) (And.intro (Or.inr rfl) (And.intro (Or.inl rfl) (And.intro (Or.inl rfl) (trivial))))
  · have hf := (if_neg b2).symm.trans hf
    refine Ev.blk (pc' := 23) [(.aload_n 0, 0, 0, 0), (.getfield 56, 0, 9, 6), (.getfield 144, 0, 3, 1), (.sipush 999, 0, 0, 0)] (by decide +kernel) ⟨kf_9_56, ⟨kf_9_144, trivial⟩⟩ rfl (And.intro (kc rfl rfl) (Exists.intro 36 (And.intro rfl (And.intro (kc rfl rfl) (?_)))))
    show Ev l d mi_X9_play 23 [some (.ref 0), some (.int p0), some (.int q1.1)] [.int ((Int16.ofInt 999).toInt32), .int (q1.2.1 36 1)] (hp q1.2) 0 0 _
    refine Ev.icmp_lt (off := 9) (tgt := 32) (by decide +kernel) (by decide) (fun b3 => ?_) (fun b3 => ?_)
    · have hf := (if_pos b3).symm.trans hf
      refine Ev.blk (pc' := 40) [(.aload_n 0, 0, 0, 0), (.getfield 66, 0, 9, 8), (.aload_n 0, 0, 0, 0), (.getfield 56, 0, 9, 6)] (by decide +kernel) ⟨kf_9_66, ⟨kf_9_56, trivial⟩⟩ rfl (And.intro (kc rfl rfl) (Exists.intro 56 (And.intro rfl (And.intro (kc rfl rfl) (Exists.intro 36 (And.intro rfl (?_)))))))
      show Ev l d mi_X9_play 40 [some (.ref 0), some (.int p0), some (.int q1.1)] [.ref 36, .ref 56] (hp q1.2) 0 0 _
      obtain ⟨q4, hq4, hf⟩ := bd_some hf
      refine Ev.callV (o := 56) (M' := mi_X0_remember) (d' := d - 1) (As := [.ref 36]) (rest := []) (r' := (none, hp q4)) (e_X0_remember (d := d - 1) (by omega) 36 q1.2 _ hq4) (by omega) wm_X0_remember wi_X0_remember wv_X0_remember km_9_311 (kc rfl rfl) (Nat.le_of_ble_eq_true rfl) rfl rfl rfl (Nat.le_of_ble_eq_true rfl) ⟨Nat.le_of_ble_eq_true rfl, Nat.le_of_ble_eq_true rfl⟩ (by decide +kernel) ?_
      show Ev l d mi_X9_play 43 [some (.ref 0), some (.int p0), some (.int q1.1)] [] (hp q4) 0 0 _
      refine Ev.blk (pc' := 45) [(.aload_n 0, 0, 0, 0), (.iload_n 2, 0, 0, 0)] (by decide +kernel) trivial rfl (?_)
      show Ev l d mi_X9_play 45 [some (.ref 0), some (.int p0), some (.int q1.1)] [.int q1.1, .ref 0] (hp q4) 0 0 _
      obtain ⟨q5, hq5, hf⟩ := bd_some hf
      refine Ev.callV (o := 0) (M' := mi_X9_actDay) (d' := d - 1) (As := [.int q1.1]) (rest := []) (r' := (some (.int q5.1), hp q5.2)) (e_X9_actDay (d := d - 1) (by omega) q1.1 q4 _ hq5) (by omega) wm_X9_actDay wi_X9_actDay wv_X9_actDay km_9_314 (kc rfl rfl) (Nat.le_of_ble_eq_true rfl) rfl rfl rfl (Nat.le_of_ble_eq_true rfl) ⟨Nat.le_of_ble_eq_true rfl, Nat.le_of_ble_eq_true rfl⟩ (by decide +kernel) ?_
      show Ev l d mi_X9_play 48 [some (.ref 0), some (.int p0), some (.int q1.1)] [.int q5.1] (hp q5.2) 0 0 _
      obtain ⟨q6, hq6, hf⟩ := bd_some hf
      refine Ev.callS (M' := mi_X9_byteOfMan) (d' := d - 1) (As := [.int q5.1]) (rest := []) (r' := (some (.int q6.1), hp q6.2)) (e_X9_byteOfMan (d := d - 1) (by omega) q5.1 q5.2 _ hq6) (by omega) wm_X9_byteOfMan wt_X9_byteOfMan km_9_232 rfl rfl rfl (Nat.le_of_ble_eq_true rfl) ⟨Nat.le_of_ble_eq_true rfl, Nat.le_of_ble_eq_true rfl⟩ (by decide +kernel) ?_
      show Ev l d mi_X9_play 51 [some (.ref 0), some (.int p0), some (.int q1.1)] [.int q6.1] (hp q6.2) 0 0 _
      cases hf
      exact Ev.iret .int rfl rfl (by decide +kernel) (Nat.le_refl _) (Nat.le_refl _)
    · have hf := (if_neg b3).symm.trans hf
      exact Ev.wk ((e_X9_play_j26 hd) q1.2 _ hf) (And.intro (Or.inr rfl) (And.intro (Or.inl rfl) (And.intro (Or.inl rfl) (trivial))))
def f_X9_tend_j19 (s : ST) : Option (Int32 × ST) := (f_X9_refuse (Int32.ofInt 2) s).bind (fun q10 => some (q10.1, q10.2))
set_option maxHeartbeats 2000000 in
set_option maxRecDepth 20000 in
theorem e_X9_tend_j19 {l : Launch} {d : Nat} (hd : 2 ≤ d) (s : ST) (r : Int32 × ST) (hf : f_X9_tend_j19 s = some r) : Ev l d mi_X9_tend 19 [some (.ref 0), none, none] [] (hp s) 0 0 (some (.int r.1), hp r.2) := by
  unfold f_X9_tend_j19 at hf
  refine Ev.blk (pc' := 21) [(.aload_n 0, 0, 0, 0), (.iconst 2, 0, 0, 0)] (by decide +kernel) trivial rfl (?_)
  show Ev l d mi_X9_tend 21 [some (.ref 0), none, none] [.int (Int32.ofInt 2), .ref 0] (hp s) 0 0 _
  obtain ⟨q10, hq10, hf⟩ := bd_some hf
  refine Ev.callV (o := 0) (M' := mi_X9_refuse) (d' := d - 1) (As := [.int (Int32.ofInt 2)]) (rest := []) (r' := (some (.int q10.1), hp q10.2)) (e_X9_refuse (d := d - 1) (by omega) (Int32.ofInt 2) s _ hq10) (by omega) wm_X9_refuse wi_X9_refuse wv_X9_refuse km_9_108 (kc rfl rfl) (Nat.le_of_ble_eq_true rfl) rfl rfl rfl (Nat.le_of_ble_eq_true rfl) ⟨Nat.le_of_ble_eq_true rfl, Nat.le_of_ble_eq_true rfl⟩ (by decide +kernel) ?_
  show Ev l d mi_X9_tend 24 [some (.ref 0), none, none] [.int q10.1] (hp q10.2) 0 0 _
  cases hf
  exact Ev.iret .int rfl rfl (by decide +kernel) (Nat.le_refl _) (Nat.le_refl _)
def f_X9_tend (p0 : Int32) (p1 : Int32) (s : ST) : Option (Int32 × ST) := (f_X9_isField p0 s).bind (fun q1 => (if q1.1 = 0 then f_X9_tend_j19 q1.2 else (if p1 < (Int32.ofInt 1) then f_X9_tend_j19 q1.2 else (if p1 ≤ ((Int8.ofInt 99).toInt32) then (f_X0_remember 36 q1.2).bind (fun q5 => gd (ib p0 6) (gd (ib p0 6) (gd (ib p0 6) (lt (uI q5 39 p0.toNatClampNeg (if ((q5.1 39 p0.toNatClampNeg) + p1) < ((Int16.ofInt 999).toInt32) then ((q5.1 39 p0.toNatClampNeg) + p1) else ((Int16.ofInt 999).toInt32))) (fun s9 => some ((s9.1 39 p0.toNatClampNeg), s9)))))) else f_X9_tend_j19 q1.2))))
set_option maxHeartbeats 2000000 in
set_option maxRecDepth 20000 in
theorem e_X9_tend {l : Launch} {d : Nat} (hd : 2 ≤ d) (p0 : Int32) (p1 : Int32) (s : ST) (r : Int32 × ST) (hf : f_X9_tend p0 p1 s = some r) : Cl l d mi_X9_tend [.ref 0, .int p0, .int p1] (hp s) (some (.int r.1), hp r.2) := by
  refine Ev.entry (by decide +kernel) rfl rfl ?_
  show Ev l d mi_X9_tend 0 [some (.ref 0), some (.int p0), some (.int p1)] [] (hp s) 0 0 _
  unfold f_X9_tend at hf
  refine Ev.blk (pc' := 2) [(.aload_n 0, 0, 0, 0), (.iload_n 1, 0, 0, 0)] (by decide +kernel) trivial rfl (?_)
  show Ev l d mi_X9_tend 2 [some (.ref 0), some (.int p0), some (.int p1)] [.int p0, .ref 0] (hp s) 0 0 _
  obtain ⟨q1, hq1, hf⟩ := bd_some hf
  refine Ev.callV (o := 0) (M' := mi_X9_isField) (d' := d - 1) (As := [.int p0]) (rest := []) (r' := (some (.int q1.1), hp q1.2)) (e_X9_isField (d := d - 1) (by omega) p0 s _ hq1) (by omega) wm_X9_isField wi_X9_isField wv_X9_isField km_9_206 (kc rfl rfl) (Nat.le_of_ble_eq_true rfl) rfl rfl rfl (Nat.le_of_ble_eq_true rfl) ⟨Nat.le_of_ble_eq_true rfl, Nat.le_of_ble_eq_true rfl⟩ (by decide +kernel) ?_
  show Ev l d mi_X9_tend 5 [some (.ref 0), some (.int p0), some (.int p1)] [.int q1.1] (hp q1.2) 0 0 _
  refine Ev.if_eq (off := 14) (tgt := 19) (by decide +kernel) (by decide) (fun b2 => ?_) (fun b2 => ?_)
  · have hf := (if_pos b2).symm.trans hf
    exact Ev.wk ((e_X9_tend_j19 hd) q1.2 _ hf) (And.intro (Or.inr rfl) (And.intro (Or.inl rfl) (And.intro (Or.inl rfl) (trivial))))
  · have hf := (if_neg b2).symm.trans hf
    refine Ev.blk (pc' := 10) [(.iload_n 2, 0, 0, 0), (.iconst 1, 0, 0, 0)] (by decide +kernel) trivial rfl (?_)
    show Ev l d mi_X9_tend 10 [some (.ref 0), some (.int p0), some (.int p1)] [.int (Int32.ofInt 1), .int p1] (hp q1.2) 0 0 _
    refine Ev.icmp_lt (off := 9) (tgt := 19) (by decide +kernel) (by decide) (fun b3 => ?_) (fun b3 => ?_)
    · have hf := (if_pos b3).symm.trans hf
      exact Ev.wk ((e_X9_tend_j19 hd) q1.2 _ hf) (And.intro (Or.inr rfl) (And.intro (Or.inl rfl) (And.intro (Or.inl rfl) (trivial))))
    · have hf := (if_neg b3).symm.trans hf
      refine Ev.blk (pc' := 16) [(.iload_n 2, 0, 0, 0), (.bipush 99, 0, 0, 0)] (by decide +kernel) trivial rfl (?_)
      show Ev l d mi_X9_tend 16 [some (.ref 0), some (.int p0), some (.int p1)] [.int ((Int8.ofInt 99).toInt32), .int p1] (hp q1.2) 0 0 _
      refine Ev.icmp_le (off := 9) (tgt := 25) (by decide +kernel) (by decide) (fun b4 => ?_) (fun b4 => ?_)
      · have hf := (if_pos b4).symm.trans hf
        refine Ev.blk (pc' := 33) [(.aload_n 0, 0, 0, 0), (.getfield 66, 0, 9, 8), (.aload_n 0, 0, 0, 0), (.getfield 56, 0, 9, 6)] (by decide +kernel) ⟨kf_9_66, ⟨kf_9_56, trivial⟩⟩ rfl (And.intro (kc rfl rfl) (Exists.intro 56 (And.intro rfl (And.intro (kc rfl rfl) (Exists.intro 36 (And.intro rfl (?_)))))))
        show Ev l d mi_X9_tend 33 [some (.ref 0), some (.int p0), some (.int p1)] [.ref 36, .ref 56] (hp q1.2) 0 0 _
        obtain ⟨q5, hq5, hf⟩ := bd_some hf
        refine Ev.callV (o := 56) (M' := mi_X0_remember) (d' := d - 1) (As := [.ref 36]) (rest := []) (r' := (none, hp q5)) (e_X0_remember (d := d - 1) (by omega) 36 q1.2 _ hq5) (by omega) wm_X0_remember wi_X0_remember wv_X0_remember km_9_311 (kc rfl rfl) (Nat.le_of_ble_eq_true rfl) rfl rfl rfl (Nat.le_of_ble_eq_true rfl) ⟨Nat.le_of_ble_eq_true rfl, Nat.le_of_ble_eq_true rfl⟩ (by decide +kernel) ?_
        show Ev l d mi_X9_tend 36 [some (.ref 0), some (.int p0), some (.int p1)] [] (hp q5) 0 0 _
        obtain ⟨c6, hf⟩ := gd_some hf
        refine Ev.blk (pc' := 58) [(.aload_n 0, 0, 0, 0), (.getfield 56, 0, 9, 6), (.getfield 213, 0, 3, 5), (.iload_n 1, 0, 0, 0), (.sipush 999, 0, 0, 0), (.aload_n 0, 0, 0, 0), (.getfield 56, 0, 9, 6), (.getfield 213, 0, 3, 5), (.iload_n 1, 0, 0, 0), (.iaload, 0, 0, 0), (.iload_n 2, 0, 0, 0), (.iadd, 0, 0, 0)] (by decide +kernel) ⟨kf_9_56, ⟨kf_9_213, ⟨kf_9_56, ⟨kf_9_213, trivial⟩⟩⟩⟩ rfl (And.intro (kc rfl rfl) (Exists.intro 36 (And.intro rfl (And.intro (kc rfl rfl) (Exists.intro 39 (And.intro rfl (And.intro (kc rfl rfl) (Exists.intro 36 (And.intro rfl (And.intro (kc rfl rfl) (Exists.intro 39 (And.intro rfl (And.intro (kc rfl rfl) (And.intro (ib_ok c6) (?_)))))))))))))))
        show Ev l d mi_X9_tend 58 [some (.ref 0), some (.int p0), some (.int p1)] [.int ((q5.1 39 p0.toNatClampNeg) + p1), .int ((Int16.ofInt 999).toInt32), .int p0, .ref 39] (hp q5) 0 0 _
        refine Ev.mmin km_9_287 wt_J9_min_7cf53 wini_12 wm_J9_min_7cf53.1 (by omega) (Nat.le_of_ble_eq_true rfl) ⟨Nat.le_refl _, Nat.le_refl _⟩ (by decide +kernel) ?_
        show Ev l d mi_X9_tend 61 [some (.ref 0), some (.int p0), some (.int p1)] [.int (if ((q5.1 39 p0.toNatClampNeg) + p1) < ((Int16.ofInt 999).toInt32) then ((q5.1 39 p0.toNatClampNeg) + p1) else ((Int16.ofInt 999).toInt32)), .int p0, .ref 39] (hp q5) 0 0 _
        obtain ⟨c7, hf⟩ := gd_some hf
        obtain ⟨c8, hf⟩ := gd_some hf
        obtain ⟨s9, hs9, hf⟩ := lt_some hf
        refine Ev.blk (pc' := 71) [(.iastore, 0, 0, 0), (.aload_n 0, 0, 0, 0), (.getfield 56, 0, 9, 6), (.getfield 213, 0, 3, 5), (.iload_n 1, 0, 0, 0), (.iaload, 0, 0, 0)] (by decide +kernel) ⟨kf_9_56, ⟨kf_9_213, trivial⟩⟩ rfl (And.intro (kc rfl rfl) (And.intro (ib_ok c7) (And.intro (kc rfl rfl) (Exists.intro 36 (And.intro rfl (And.intro (kc rfl rfl) (Exists.intro 39 (And.intro rfl (And.intro (kc rfl rfl) (And.intro (ib_ok c8) (?_)))))))))))
        show Ev l d mi_X9_tend 71 [some (.ref 0), some (.int p0), some (.int p1)] [.int ((uI q5 39 p0.toNatClampNeg (if ((q5.1 39 p0.toNatClampNeg) + p1) < ((Int16.ofInt 999).toInt32) then ((q5.1 39 p0.toNatClampNeg) + p1) else ((Int16.ofInt 999).toInt32))).1 39 p0.toNatClampNeg)] (hp (uI q5 39 p0.toNatClampNeg (if ((q5.1 39 p0.toNatClampNeg) + p1) < ((Int16.ofInt 999).toInt32) then ((q5.1 39 p0.toNatClampNeg) + p1) else ((Int16.ofInt 999).toInt32)))) 0 0 _
        rw [← hs9]
        cases hf
        exact Ev.iret .int rfl rfl (by decide +kernel) (Nat.le_refl _) (Nat.le_refl _)
      · have hf := (if_neg b4).symm.trans hf
        exact Ev.wk ((e_X9_tend_j19 hd) q1.2 _ hf) (And.intro (Or.inr rfl) (And.intro (Or.inl rfl) (And.intro (Or.inl rfl) (trivial))))
def f_X9_days_j64 (k32 : Int32 → Int32 → Int32 → ST → Option (Int32 × ST)) (x1 : Int32) (x3 : Int32) (x4 : Int32) (y0 : Int32) (y1 : Int32) (s : ST) : Option (Int32 × ST) := (f_X9_actDay x4 s).bind (fun q9 => k32 x1 (y0 + y1) (x3 + Int32.ofInt 1) q9.2)
set_option maxHeartbeats 2000000 in
set_option maxRecDepth 20000 in
theorem e_X9_days_j64 {l : Launch} {d : Nat} (hd : 25 ≤ d) (k32 : Int32 → Int32 → Int32 → ST → Option (Int32 × ST)) (hk32 : ∀ (x1 : Int32) (x2 : Int32) (x3 : Int32) (s : ST) (r : Int32 × ST), k32 x1 x2 x3 s = some r → Ev l d mi_X9_days 32 [some (.ref 0), some (.int x1), some (.int x2), some (.int x3), none] [] (hp s) 0 0 (some (.int r.1), hp r.2)) (x1 : Int32) (x3 : Int32) (x4 : Int32) (y0 : Int32) (y1 : Int32) (s : ST) (r : Int32 × ST) (hf : f_X9_days_j64 k32 x1 x3 x4 y0 y1 s = some r) : Ev l d mi_X9_days 64 [some (.ref 0), some (.int x1), none, some (.int x3), some (.int x4)] [.int y1, .int y0] (hp s) 0 0 (some (.int r.1), hp r.2) := by
  unfold f_X9_days_j64 at hf
  refine Ev.blk (pc' := 69) [(.iadd, 0, 0, 0), (.istore_n 2, 0, 0, 0), (.aload_n 0, 0, 0, 0), (.iload 4, 0, 0, 0)] (by decide +kernel) trivial rfl (And.intro (Nat.le_of_ble_eq_true rfl) (?_))
  show Ev l d mi_X9_days 69 [some (.ref 0), some (.int x1), some (.int (y0 + y1)), some (.int x3), some (.int x4)] [.int x4, .ref 0] (hp s) 0 0 _
  obtain ⟨q9, hq9, hf⟩ := bd_some hf
  refine Ev.callV (o := 0) (M' := mi_X9_actDay) (d' := d - 1) (As := [.int x4]) (rest := []) (r' := (some (.int q9.1), hp q9.2)) (e_X9_actDay (d := d - 1) (by omega) x4 s _ hq9) (by omega) wm_X9_actDay wi_X9_actDay wv_X9_actDay km_9_314 (kc rfl rfl) (Nat.le_of_ble_eq_true rfl) rfl rfl rfl (Nat.le_of_ble_eq_true rfl) ⟨Nat.le_of_ble_eq_true rfl, Nat.le_of_ble_eq_true rfl⟩ (by decide +kernel) ?_
  show Ev l d mi_X9_days 72 [some (.ref 0), some (.int x1), some (.int (y0 + y1)), some (.int x3), some (.int x4)] [.int q9.1] (hp q9.2) 0 0 _
  refine Ev.blk (pc' := 76) [(.pop, 0, 0, 0), (.iinc 3 1, 0, 0, 0)] (by decide +kernel) trivial rfl (And.intro rfl (And.intro (Nat.le_of_ble_eq_true rfl) (?_)))
  show Ev l d mi_X9_days 76 [some (.ref 0), some (.int x1), some (.int (y0 + y1)), some (.int (x3 + Int32.ofInt 1)), some (.int x4)] [] (hp q9.2) 0 0 _
  refine Ev.goto (off := -44) (tgt := 32) (by decide +kernel) (by decide) ?_
  exact Ev.wk (hk32 x1 (y0 + y1) (x3 + Int32.ofInt 1) q9.2 _ hf) (And.intro (Or.inr rfl) (And.intro (Or.inr rfl) (And.intro (Or.inr rfl) (And.intro (Or.inr rfl) (And.intro (Or.inl rfl) (trivial))))))
def f_X9_days_L32 : Nat → Int32 → Int32 → Int32 → ST → Option (Int32 × ST)
  | 0, _, _, _, _ => none
  | n + 1, x1, x2, x3, s => (if x1 ≤ x3 then some (x2, s) else (f_X3_depth 36 s).bind (fun q6 => (f_X3_bestMove 36 q6.1 q6.2).bind (fun q7 => (if 0 ≤ q7.1 then (f_X9_days_j64 (f_X9_days_L32 n)) x1 x3 q7.1 x2 (Int32.ofInt 1) q7.2 else (f_X9_days_j64 (f_X9_days_L32 n)) x1 x3 q7.1 x2 (Int32.ofInt 0) q7.2))))
set_option maxHeartbeats 2000000 in
set_option maxRecDepth 20000 in
theorem e_X9_days_L32 {l : Launch} {d : Nat} (hd : 25 ≤ d) : ∀ (n : Nat) (x1 : Int32) (x2 : Int32) (x3 : Int32) (s : ST) (r : Int32 × ST), f_X9_days_L32 n x1 x2 x3 s = some r → Ev l d mi_X9_days 32 [some (.ref 0), some (.int x1), some (.int x2), some (.int x3), none] [] (hp s) 0 0 (some (.int r.1), hp r.2) := by
  intro n
  induction n with
  | zero =>
    intro x1 x2 x3 s r hf
    cases hf
  | succ n ih =>
    intro x1 x2 x3 s r hf
    unfold f_X9_days_L32 at hf
    refine Ev.blk (pc' := 34) [(.iload_n 3, 0, 0, 0), (.iload_n 1, 0, 0, 0)] (by decide +kernel) trivial rfl (?_)
    show Ev l d mi_X9_days 34 [some (.ref 0), some (.int x1), some (.int x2), some (.int x3), none] [.int x1, .int x3] (hp s) 0 0 _
    refine Ev.icmp_ge (off := 45) (tgt := 79) (by decide +kernel) (by decide) (fun b5 => ?_) (fun b5 => ?_)
    · have hf := (if_pos b5).symm.trans hf
      refine Ev.blk (pc' := 80) [(.iload_n 2, 0, 0, 0)] (by decide +kernel) trivial rfl (?_)
      show Ev l d mi_X9_days 80 [some (.ref 0), some (.int x1), some (.int x2), some (.int x3), none] [.int x2] (hp s) 0 0 _
      cases hf
      exact Ev.iret .int rfl rfl (by decide +kernel) (Nat.le_refl _) (Nat.le_refl _)
    · have hf := (if_neg b5).symm.trans hf
      refine Ev.blk (pc' := 45) [(.aload_n 0, 0, 0, 0), (.getfield 56, 0, 9, 6), (.aload_n 0, 0, 0, 0), (.getfield 56, 0, 9, 6)] (by decide +kernel) ⟨kf_9_56, ⟨kf_9_56, trivial⟩⟩ rfl (And.intro (kc rfl rfl) (Exists.intro 36 (And.intro rfl (And.intro (kc rfl rfl) (Exists.intro 36 (And.intro rfl (?_)))))))
      show Ev l d mi_X9_days 45 [some (.ref 0), some (.int x1), some (.int x2), some (.int x3), none] [.ref 36, .ref 36] (hp s) 0 0 _
      obtain ⟨q6, hq6, hf⟩ := bd_some hf
      refine Ev.callV (o := 36) (M' := mi_X3_depth) (d' := d - 1) (As := []) (rest := [.ref 36]) (r' := (some (.int q6.1), hp q6.2)) (e_X3_depth (d := d - 1) (by omega) 36 s _ hq6) (by omega) wm_X3_depth wi_X3_depth wv_X3_depth km_9_317 (kc rfl rfl) (Nat.le_of_ble_eq_true rfl) rfl rfl rfl (Nat.le_of_ble_eq_true rfl) ⟨Nat.le_of_ble_eq_true rfl, Nat.le_of_ble_eq_true rfl⟩ (by decide +kernel) ?_
      show Ev l d mi_X9_days 48 [some (.ref 0), some (.int x1), some (.int x2), some (.int x3), none] [.int q6.1, .ref 36] (hp q6.2) 0 0 _
      obtain ⟨q7, hq7, hf⟩ := bd_some hf
      refine Ev.callV (o := 36) (M' := mi_X3_bestMove) (d' := d - 1) (As := [.int q6.1]) (rest := []) (r' := (some (.int q7.1), hp q7.2)) (e_X3_bestMove (d := d - 1) (by omega) 36 q6.1 q6.2 _ hq7) (by omega) wm_X3_bestMove wi_X3_bestMove wv_X3_bestMove km_9_258 (kc rfl rfl) (Nat.le_of_ble_eq_true rfl) rfl rfl rfl (Nat.le_of_ble_eq_true rfl) ⟨Nat.le_of_ble_eq_true rfl, Nat.le_of_ble_eq_true rfl⟩ (by decide +kernel) ?_
      show Ev l d mi_X9_days 51 [some (.ref 0), some (.int x1), some (.int x2), some (.int x3), none] [.int q7.1] (hp q7.2) 0 0 _
      refine Ev.blk (pc' := 56) [(.istore 4, 0, 0, 0), (.iload_n 2, 0, 0, 0), (.iload 4, 0, 0, 0)] (by decide +kernel) trivial rfl (And.intro (Nat.le_of_ble_eq_true rfl) (?_))
      show Ev l d mi_X9_days 56 [some (.ref 0), some (.int x1), some (.int x2), some (.int x3), some (.int q7.1)] [.int q7.1, .int x2] (hp q7.2) 0 0 _
      refine Ev.if_ge (off := 7) (tgt := 63) (by decide +kernel) (by decide) (fun b8 => ?_) (fun b8 => ?_)
      · have hf := (if_pos b8).symm.trans hf
        refine Ev.blk (pc' := 64) [(.iconst 1, 0, 0, 0)] (by decide +kernel) trivial rfl (?_)
        show Ev l d mi_X9_days 64 [some (.ref 0), some (.int x1), some (.int x2), some (.int x3), some (.int q7.1)] [.int (Int32.ofInt 1), .int x2] (hp q7.2) 0 0 _
        exact Ev.wk ((e_X9_days_j64 hd (f_X9_days_L32 n) ih) x1 x3 q7.1 x2 (Int32.ofInt 1) q7.2 _ hf) (And.intro (Or.inr rfl) (And.intro (Or.inr rfl) (And.intro (Or.inl rfl) (And.intro (Or.inr rfl) (And.intro (Or.inr rfl) (trivial))))))
      · have hf := (if_neg b8).symm.trans hf
        refine Ev.blk (pc' := 60) [(.iconst 0, 0, 0, 0)] (by decide +kernel) trivial rfl (?_)
        show Ev l d mi_X9_days 60 [some (.ref 0), some (.int x1), some (.int x2), some (.int x3), some (.int q7.1)] [.int (Int32.ofInt 0), .int x2] (hp q7.2) 0 0 _
        refine Ev.goto (off := 4) (tgt := 64) (by decide +kernel) (by decide) ?_
        exact Ev.wk ((e_X9_days_j64 hd (f_X9_days_L32 n) ih) x1 x3 q7.1 x2 (Int32.ofInt 0) q7.2 _ hf) (And.intro (Or.inr rfl) (And.intro (Or.inr rfl) (And.intro (Or.inl rfl) (And.intro (Or.inr rfl) (And.intro (Or.inr rfl) (trivial))))))
def f_X9_days (p0 : Int32) (s : ST) : Option (Int32 × ST) := (f_X9_canCome p0 (Int32.ofInt 1) ((Int8.ofInt 30).toInt32) s).bind (fun q1 => (if q1.1 = 0 then (f_X9_refuse (Int32.ofInt 3) q1.2).bind (fun q4 => some (q4.1, q4.2)) else (f_X0_remember 36 q1.2).bind (fun q3 => (f_X9_days_L32 fuel) p0 (Int32.ofInt 0) (Int32.ofInt 0) q3)))
set_option maxHeartbeats 2000000 in
set_option maxRecDepth 20000 in
theorem e_X9_days {l : Launch} {d : Nat} (hd : 25 ≤ d) (p0 : Int32) (s : ST) (r : Int32 × ST) (hf : f_X9_days p0 s = some r) : Cl l d mi_X9_days [.ref 0, .int p0] (hp s) (some (.int r.1), hp r.2) := by
  refine Ev.entry (by decide +kernel) rfl rfl ?_
  show Ev l d mi_X9_days 0 [some (.ref 0), some (.int p0), none, none, none] [] (hp s) 0 0 _
  unfold f_X9_days at hf
  refine Ev.blk (pc' := 5) [(.aload_n 0, 0, 0, 0), (.iload_n 1, 0, 0, 0), (.iconst 1, 0, 0, 0), (.bipush 30, 0, 0, 0)] (by decide +kernel) trivial rfl (?_)
  show Ev l d mi_X9_days 5 [some (.ref 0), some (.int p0), none, none, none] [.int ((Int8.ofInt 30).toInt32), .int (Int32.ofInt 1), .int p0, .ref 0] (hp s) 0 0 _
  obtain ⟨q1, hq1, hf⟩ := bd_some hf
  refine Ev.callV (o := 0) (M' := mi_X9_canCome) (d' := d - 1) (As := [.int p0, .int (Int32.ofInt 1), .int ((Int8.ofInt 30).toInt32)]) (rest := []) (r' := (some (.int q1.1), hp q1.2)) (e_X9_canCome (d := d - 1) (by omega) p0 (Int32.ofInt 1) ((Int8.ofInt 30).toInt32) s _ hq1) (by omega) wm_X9_canCome wi_X9_canCome wv_X9_canCome km_9_267 (kc rfl rfl) (Nat.le_of_ble_eq_true rfl) rfl rfl rfl (Nat.le_of_ble_eq_true rfl) ⟨Nat.le_of_ble_eq_true rfl, Nat.le_of_ble_eq_true rfl⟩ (by decide +kernel) ?_
  show Ev l d mi_X9_days 8 [some (.ref 0), some (.int p0), none, none, none] [.int q1.1] (hp q1.2) 0 0 _
  refine Ev.if_ne (off := 9) (tgt := 17) (by decide +kernel) (by decide) (fun b2 => ?_) (fun b2 => ?_)
  · have hf := (if_neg b2).symm.trans hf
    refine Ev.blk (pc' := 25) [(.aload_n 0, 0, 0, 0), (.getfield 66, 0, 9, 8), (.aload_n 0, 0, 0, 0), (.getfield 56, 0, 9, 6)] (by decide +kernel) ⟨kf_9_66, ⟨kf_9_56, trivial⟩⟩ rfl (And.intro (kc rfl rfl) (Exists.intro 56 (And.intro rfl (And.intro (kc rfl rfl) (Exists.intro 36 (And.intro rfl (?_)))))))
    show Ev l d mi_X9_days 25 [some (.ref 0), some (.int p0), none, none, none] [.ref 36, .ref 56] (hp q1.2) 0 0 _
    obtain ⟨q3, hq3, hf⟩ := bd_some hf
    refine Ev.callV (o := 56) (M' := mi_X0_remember) (d' := d - 1) (As := [.ref 36]) (rest := []) (r' := (none, hp q3)) (e_X0_remember (d := d - 1) (by omega) 36 q1.2 _ hq3) (by omega) wm_X0_remember wi_X0_remember wv_X0_remember km_9_311 (kc rfl rfl) (Nat.le_of_ble_eq_true rfl) rfl rfl rfl (Nat.le_of_ble_eq_true rfl) ⟨Nat.le_of_ble_eq_true rfl, Nat.le_of_ble_eq_true rfl⟩ (by decide +kernel) ?_
    show Ev l d mi_X9_days 28 [some (.ref 0), some (.int p0), none, none, none] [] (hp q3) 0 0 _
    refine Ev.blk (pc' := 32) [(.iconst 0, 0, 0, 0), (.istore_n 2, 0, 0, 0), (.iconst 0, 0, 0, 0), (.istore_n 3, 0, 0, 0)] (by decide +kernel) trivial rfl (And.intro (Nat.le_of_ble_eq_true rfl) (And.intro (Nat.le_of_ble_eq_true rfl) (?_)))
    show Ev l d mi_X9_days 32 [some (.ref 0), some (.int p0), some (.int (Int32.ofInt 0)), some (.int (Int32.ofInt 0)), none] [] (hp q3) 0 0 _
    exact (e_X9_days_L32 hd fuel) p0 (Int32.ofInt 0) (Int32.ofInt 0) q3 _ hf
  · have hf := (if_pos b2).symm.trans hf
    refine Ev.blk (pc' := 13) [(.aload_n 0, 0, 0, 0), (.iconst 3, 0, 0, 0)] (by decide +kernel) trivial rfl (?_)
    show Ev l d mi_X9_days 13 [some (.ref 0), some (.int p0), none, none, none] [.int (Int32.ofInt 3), .ref 0] (hp q1.2) 0 0 _
    obtain ⟨q4, hq4, hf⟩ := bd_some hf
    refine Ev.callV (o := 0) (M' := mi_X9_refuse) (d' := d - 1) (As := [.int (Int32.ofInt 3)]) (rest := []) (r' := (some (.int q4.1), hp q4.2)) (e_X9_refuse (d := d - 1) (by omega) (Int32.ofInt 3) q1.2 _ hq4) (by omega) wm_X9_refuse wi_X9_refuse wv_X9_refuse km_9_108 (kc rfl rfl) (Nat.le_of_ble_eq_true rfl) rfl rfl rfl (Nat.le_of_ble_eq_true rfl) ⟨Nat.le_of_ble_eq_true rfl, Nat.le_of_ble_eq_true rfl⟩ (by decide +kernel) ?_
    show Ev l d mi_X9_days 16 [some (.ref 0), some (.int p0), none, none, none] [.int q4.1] (hp q4.2) 0 0 _
    cases hf
    exact Ev.iret .int rfl rfl (by decide +kernel) (Nat.le_refl _) (Nat.le_refl _)
def f_X9_draw (p0 : Int32) (s : ST) : Option (Int32 × ST) := lt (uI s 0 12 (((((Int64.ofInt 1103515245) * (s.1 0 12).toInt64) + (Int64.ofInt 12345)) &&& (Int64.ofInt 2147483647)).toInt32)) (fun s1 => (if p0 ≤ 0 then some ((Int32.ofInt 0), s1) else gd (nz p0) (lt (((s1.1 0 12) / ((Int8.ofInt 64).toInt32)) - ((s1.1 0 12) / ((Int8.ofInt 64).toInt32)) / p0 * p0) (fun v4 => some (v4, s1)))))
set_option maxHeartbeats 2000000 in
set_option maxRecDepth 20000 in
theorem e_X9_draw {l : Launch} {d : Nat} (hd : 1 ≤ d) (p0 : Int32) (s : ST) (r : Int32 × ST) (hf : f_X9_draw p0 s = some r) : Cl l d mi_X9_draw [.ref 0, .int p0] (hp s) (some (.int r.1), hp r.2) := by
  refine Ev.entry (by decide +kernel) rfl rfl ?_
  show Ev l d mi_X9_draw 0 [some (.ref 0), some (.int p0)] [] (hp s) 0 0 _
  unfold f_X9_draw at hf
  obtain ⟨s1, hs1, hf⟩ := lt_some hf
  refine Ev.blk (pc' := 23) [(.aload_n 0, 0, 0, 0), (.ldc2_w 364, 1103515245, 0, 0), (.aload_n 0, 0, 0, 0), (.getfield 81, 0, 9, 12), (.i2l, 0, 0, 0), (.lmul, 0, 0, 0), (.ldc2_w 366, 12345, 0, 0), (.ladd, 0, 0, 0), (.ldc2_w 368, 2147483647, 0, 0), (.land, 0, 0, 0), (.l2i, 0, 0, 0), (.putfield 81, 0, 9, 12), (.iload_n 1, 0, 0, 0)] (by decide +kernel) ⟨kl_9_364, ⟨kf_9_81, ⟨kl_9_366, ⟨kl_9_368, ⟨⟨kf_9_81, Or.inl rfl⟩, trivial⟩⟩⟩⟩⟩ rfl (And.intro (kc rfl rfl) (And.intro (kc rfl rfl) (?_)))
  show Ev l d mi_X9_draw 23 [some (.ref 0), some (.int p0)] [.int p0] (hp (uI s 0 12 (((((Int64.ofInt 1103515245) * (s.1 0 12).toInt64) + (Int64.ofInt 12345)) &&& (Int64.ofInt 2147483647)).toInt32))) 0 0 _
  rw [← hs1]
  refine Ev.if_le (off := 15) (tgt := 38) (by decide +kernel) (by decide) (fun b2 => ?_) (fun b2 => ?_)
  · have hf := (if_pos b2).symm.trans hf
    refine Ev.blk (pc' := 39) [(.iconst 0, 0, 0, 0)] (by decide +kernel) trivial rfl (?_)
    show Ev l d mi_X9_draw 39 [some (.ref 0), some (.int p0)] [.int (Int32.ofInt 0)] (hp s1) 0 0 _
    cases hf
    exact Ev.iret .int rfl rfl (by decide +kernel) (Nat.le_refl _) (Nat.le_refl _)
  · have hf := (if_neg b2).symm.trans hf
    obtain ⟨c3, hf⟩ := gd_some hf
    obtain ⟨v4, hv4, hf⟩ := lt_some hf
    refine Ev.blk (pc' := 35) [(.aload_n 0, 0, 0, 0), (.getfield 81, 0, 9, 12), (.bipush 64, 0, 0, 0), (.idiv, 0, 0, 0), (.iload_n 1, 0, 0, 0), (.irem, 0, 0, 0)] (by decide +kernel) ⟨kf_9_81, trivial⟩ rfl (And.intro (kc rfl rfl) (And.intro (by decide) (And.intro (nz_ok c3) (?_))))
    show Ev l d mi_X9_draw 35 [some (.ref 0), some (.int p0)] [.int (((s1.1 0 12) / ((Int8.ofInt 64).toInt32)) - ((s1.1 0 12) / ((Int8.ofInt 64).toInt32)) / p0 * p0)] (hp s1) 0 0 _
    rw [← hv4]
    refine Ev.goto (off := 4) (tgt := 39) (by decide +kernel) (by decide) ?_
    cases hf
    exact Ev.iret .int rfl rfl (by decide +kernel) (Nat.le_refl _) (Nat.le_refl _)
def f_X9_chance_j91 (k32 : Int32 → Int32 → Int32 → ST → Option (Int32 × ST)) (x1 : Int32) (x2 : Int32) (x3 : Int32) (s : ST) : Option (Int32 × ST) := (f_X3_depth 36 s).bind (fun q15 => (f_X3_bestMove 36 q15.1 q15.2).bind (fun q16 => (f_X9_actDay q16.1 q16.2).bind (fun q17 => k32 x1 x2 (x3 + Int32.ofInt 1) q17.2)))
set_option maxHeartbeats 2000000 in
set_option maxRecDepth 20000 in
theorem e_X9_chance_j91 {l : Launch} {d : Nat} (hd : 25 ≤ d) (k32 : Int32 → Int32 → Int32 → ST → Option (Int32 × ST)) (hk32 : ∀ (x1 : Int32) (x2 : Int32) (x3 : Int32) (s : ST) (r : Int32 × ST), k32 x1 x2 x3 s = some r → Ev l d mi_X9_chance 32 [some (.ref 0), some (.int x1), some (.int x2), some (.int x3), none] [] (hp s) 0 0 (some (.int r.1), hp r.2)) (x1 : Int32) (x2 : Int32) (x3 : Int32) (s : ST) (r : Int32 × ST) (hf : f_X9_chance_j91 k32 x1 x2 x3 s = some r) : Ev l d mi_X9_chance 91 [some (.ref 0), some (.int x1), some (.int x2), some (.int x3), none] [] (hp s) 0 0 (some (.int r.1), hp r.2) := by
  unfold f_X9_chance_j91 at hf
  refine Ev.blk (pc' := 100) [(.aload_n 0, 0, 0, 0), (.aload_n 0, 0, 0, 0), (.getfield 56, 0, 9, 6), (.aload_n 0, 0, 0, 0), (.getfield 56, 0, 9, 6)] (by decide +kernel) ⟨kf_9_56, ⟨kf_9_56, trivial⟩⟩ rfl (And.intro (kc rfl rfl) (Exists.intro 36 (And.intro rfl (And.intro (kc rfl rfl) (Exists.intro 36 (And.intro rfl (?_)))))))
  show Ev l d mi_X9_chance 100 [some (.ref 0), some (.int x1), some (.int x2), some (.int x3), none] [.ref 36, .ref 36, .ref 0] (hp s) 0 0 _
  obtain ⟨q15, hq15, hf⟩ := bd_some hf
  refine Ev.callV (o := 36) (M' := mi_X3_depth) (d' := d - 1) (As := []) (rest := [.ref 36, .ref 0]) (r' := (some (.int q15.1), hp q15.2)) (e_X3_depth (d := d - 1) (by omega) 36 s _ hq15) (by omega) wm_X3_depth wi_X3_depth wv_X3_depth km_9_317 (kc rfl rfl) (Nat.le_of_ble_eq_true rfl) rfl rfl rfl (Nat.le_of_ble_eq_true rfl) ⟨Nat.le_of_ble_eq_true rfl, Nat.le_of_ble_eq_true rfl⟩ (by decide +kernel) ?_
  show Ev l d mi_X9_chance 103 [some (.ref 0), some (.int x1), some (.int x2), some (.int x3), none] [.int q15.1, .ref 36, .ref 0] (hp q15.2) 0 0 _
  obtain ⟨q16, hq16, hf⟩ := bd_some hf
  refine Ev.callV (o := 36) (M' := mi_X3_bestMove) (d' := d - 1) (As := [.int q15.1]) (rest := [.ref 0]) (r' := (some (.int q16.1), hp q16.2)) (e_X3_bestMove (d := d - 1) (by omega) 36 q15.1 q15.2 _ hq16) (by omega) wm_X3_bestMove wi_X3_bestMove wv_X3_bestMove km_9_258 (kc rfl rfl) (Nat.le_of_ble_eq_true rfl) rfl rfl rfl (Nat.le_of_ble_eq_true rfl) ⟨Nat.le_of_ble_eq_true rfl, Nat.le_of_ble_eq_true rfl⟩ (by decide +kernel) ?_
  show Ev l d mi_X9_chance 106 [some (.ref 0), some (.int x1), some (.int x2), some (.int x3), none] [.int q16.1, .ref 0] (hp q16.2) 0 0 _
  obtain ⟨q17, hq17, hf⟩ := bd_some hf
  refine Ev.callV (o := 0) (M' := mi_X9_actDay) (d' := d - 1) (As := [.int q16.1]) (rest := []) (r' := (some (.int q17.1), hp q17.2)) (e_X9_actDay (d := d - 1) (by omega) q16.1 q16.2 _ hq17) (by omega) wm_X9_actDay wi_X9_actDay wv_X9_actDay km_9_314 (kc rfl rfl) (Nat.le_of_ble_eq_true rfl) rfl rfl rfl (Nat.le_of_ble_eq_true rfl) ⟨Nat.le_of_ble_eq_true rfl, Nat.le_of_ble_eq_true rfl⟩ (by decide +kernel) ?_
  show Ev l d mi_X9_chance 109 [some (.ref 0), some (.int x1), some (.int x2), some (.int x3), none] [.int q17.1] (hp q17.2) 0 0 _
  refine Ev.blk (pc' := 113) [(.pop, 0, 0, 0), (.iinc 3 1, 0, 0, 0)] (by decide +kernel) trivial rfl (And.intro rfl (And.intro (Nat.le_of_ble_eq_true rfl) (?_)))
  show Ev l d mi_X9_chance 113 [some (.ref 0), some (.int x1), some (.int x2), some (.int (x3 + Int32.ofInt 1)), none] [] (hp q17.2) 0 0 _
  refine Ev.goto (off := -81) (tgt := 32) (by decide +kernel) (by decide) ?_
  exact hk32 x1 x2 (x3 + Int32.ofInt 1) q17.2 _ hf
def f_X9_chance_L32 : Nat → Int32 → Int32 → Int32 → ST → Option (Int32 × ST)
  | 0, _, _, _, _ => none
  | n + 1, x1, x2, x3, s => (if x1 ≤ x3 then some (x2, s) else (f_X3_moveCount 36 s).bind (fun q6 => (if q6.1 ≤ 0 then (f_X9_chance_j91 (f_X9_chance_L32 n)) x1 x2 x3 q6.2 else (f_X9_draw ((Int8.ofInt 100).toInt32) q6.2).bind (fun q8 => (RR q8.2.2.2 0 3).bind (fun a9 => gd (kk a9 4) ((if (q8.2.1 a9 19) ≤ q8.1 then (f_X9_chance_j91 (f_X9_chance_L32 n)) x1 x2 x3 q8.2 else (f_X9_draw q6.1 q8.2).bind (fun q12 => (f_X3_moveAt 36 q12.1 q12.2).bind (fun q13 => (f_X9_actDay q13.1 q13.2).bind (fun q14 => (f_X9_chance_L32 n) x1 (x2 + Int32.ofInt 1) (x3 + Int32.ofInt 1) q14.2))))))))))
set_option maxHeartbeats 2000000 in
set_option maxRecDepth 20000 in
theorem e_X9_chance_L32 {l : Launch} {d : Nat} (hd : 25 ≤ d) : ∀ (n : Nat) (x1 : Int32) (x2 : Int32) (x3 : Int32) (s : ST) (r : Int32 × ST), f_X9_chance_L32 n x1 x2 x3 s = some r → Ev l d mi_X9_chance 32 [some (.ref 0), some (.int x1), some (.int x2), some (.int x3), none] [] (hp s) 0 0 (some (.int r.1), hp r.2) := by
  intro n
  induction n with
  | zero =>
    intro x1 x2 x3 s r hf
    cases hf
  | succ n ih =>
    intro x1 x2 x3 s r hf
    unfold f_X9_chance_L32 at hf
    refine Ev.blk (pc' := 34) [(.iload_n 3, 0, 0, 0), (.iload_n 1, 0, 0, 0)] (by decide +kernel) trivial rfl (?_)
    show Ev l d mi_X9_chance 34 [some (.ref 0), some (.int x1), some (.int x2), some (.int x3), none] [.int x1, .int x3] (hp s) 0 0 _
    refine Ev.icmp_ge (off := 82) (tgt := 116) (by decide +kernel) (by decide) (fun b5 => ?_) (fun b5 => ?_)
    · have hf := (if_pos b5).symm.trans hf
      refine Ev.blk (pc' := 117) [(.iload_n 2, 0, 0, 0)] (by decide +kernel) trivial rfl (?_)
      show Ev l d mi_X9_chance 117 [some (.ref 0), some (.int x1), some (.int x2), some (.int x3), none] [.int x2] (hp s) 0 0 _
      cases hf
      exact Ev.iret .int rfl rfl (by decide +kernel) (Nat.le_refl _) (Nat.le_refl _)
    · have hf := (if_neg b5).symm.trans hf
      refine Ev.blk (pc' := 41) [(.aload_n 0, 0, 0, 0), (.getfield 56, 0, 9, 6)] (by decide +kernel) ⟨kf_9_56, trivial⟩ rfl (And.intro (kc rfl rfl) (Exists.intro 36 (And.intro rfl (?_))))
      show Ev l d mi_X9_chance 41 [some (.ref 0), some (.int x1), some (.int x2), some (.int x3), none] [.ref 36] (hp s) 0 0 _
      obtain ⟨q6, hq6, hf⟩ := bd_some hf
      refine Ev.callV (o := 36) (M' := mi_X3_moveCount) (d' := d - 1) (As := []) (rest := []) (r' := (some (.int q6.1), hp q6.2)) (e_X3_moveCount (d := d - 1) (by omega) 36 s _ hq6) (by omega) wm_X3_moveCount wi_X3_moveCount wv_X3_moveCount km_9_274 (kc rfl rfl) (Nat.le_of_ble_eq_true rfl) rfl rfl rfl (Nat.le_of_ble_eq_true rfl) ⟨Nat.le_of_ble_eq_true rfl, Nat.le_of_ble_eq_true rfl⟩ (by decide +kernel) ?_
      show Ev l d mi_X9_chance 44 [some (.ref 0), some (.int x1), some (.int x2), some (.int x3), none] [.int q6.1] (hp q6.2) 0 0 _
      refine Ev.blk (pc' := 48) [(.istore 4, 0, 0, 0), (.iload 4, 0, 0, 0)] (by decide +kernel) trivial rfl (And.intro (Nat.le_of_ble_eq_true rfl) (?_))
      show Ev l d mi_X9_chance 48 [some (.ref 0), some (.int x1), some (.int x2), some (.int x3), some (.int q6.1)] [.int q6.1] (hp q6.2) 0 0 _
      refine Ev.if_le (off := 43) (tgt := 91) (by decide +kernel) (by decide) (fun b7 => ?_) (fun b7 => ?_)
      · have hf := (if_pos b7).symm.trans hf
        exact Ev.wk ((e_X9_chance_j91 hd (f_X9_chance_L32 n) ih) x1 x2 x3 q6.2 _ hf) (And.intro (Or.inr rfl) (And.intro (Or.inr rfl) (And.intro (Or.inr rfl) (And.intro (Or.inr rfl) (And.intro (Or.inl rfl) (trivial))))))
      · have hf := (if_neg b7).symm.trans hf
        refine Ev.blk (pc' := 54) [(.aload_n 0, 0, 0, 0), (.bipush 100, 0, 0, 0)] (by decide +kernel) trivial rfl (?_)
        show Ev l d mi_X9_chance 54 [some (.ref 0), some (.int x1), some (.int x2), some (.int x3), some (.int q6.1)] [.int ((Int8.ofInt 100).toInt32), .ref 0] (hp q6.2) 0 0 _
        obtain ⟨q8, hq8, hf⟩ := bd_some hf
        refine Ev.callV (o := 0) (M' := mi_X9_draw) (d' := d - 1) (As := [.int ((Int8.ofInt 100).toInt32)]) (rest := []) (r' := (some (.int q8.1), hp q8.2)) (e_X9_draw (d := d - 1) (by omega) ((Int8.ofInt 100).toInt32) q6.2 _ hq8) (by omega) wm_X9_draw wi_X9_draw wv_X9_draw km_9_320 (kc rfl rfl) (Nat.le_of_ble_eq_true rfl) rfl rfl rfl (Nat.le_of_ble_eq_true rfl) ⟨Nat.le_of_ble_eq_true rfl, Nat.le_of_ble_eq_true rfl⟩ (by decide +kernel) ?_
        show Ev l d mi_X9_chance 57 [some (.ref 0), some (.int x1), some (.int x2), some (.int x3), some (.int q6.1)] [.int q8.1] (hp q8.2) 0 0 _
        obtain ⟨a9, ha9, hf⟩ := bd_some hf
        obtain ⟨c10, hf⟩ := gd_some hf
        refine Ev.blk (pc' := 64) [(.aload_n 0, 0, 0, 0), (.getfield 37, 0, 9, 3), (.getfield 323, 0, 4, 19)] (by decide +kernel) ⟨kf_9_37, ⟨kf_9_323, trivial⟩⟩ rfl (And.intro (kc rfl rfl) (Exists.intro a9 (And.intro ha9 (And.intro (kk_ok c10) (?_)))))
        show Ev l d mi_X9_chance 64 [some (.ref 0), some (.int x1), some (.int x2), some (.int x3), some (.int q6.1)] [.int (q8.2.1 a9 19), .int q8.1] (hp q8.2) 0 0 _
        refine Ev.icmp_ge (off := 27) (tgt := 91) (by decide +kernel) (by decide) (fun b11 => ?_) (fun b11 => ?_)
        · have hf := (if_pos b11).symm.trans hf
          exact Ev.wk ((e_X9_chance_j91 hd (f_X9_chance_L32 n) ih) x1 x2 x3 q8.2 _ hf) (And.intro (Or.inr rfl) (And.intro (Or.inr rfl) (And.intro (Or.inr rfl) (And.intro (Or.inr rfl) (And.intro (Or.inl rfl) (trivial))))))
        · have hf := (if_neg b11).symm.trans hf
          refine Ev.blk (pc' := 78) [(.iinc 2 1, 0, 0, 0), (.aload_n 0, 0, 0, 0), (.aload_n 0, 0, 0, 0), (.getfield 56, 0, 9, 6), (.aload_n 0, 0, 0, 0), (.iload 4, 0, 0, 0)] (by decide +kernel) ⟨kf_9_56, trivial⟩ rfl (And.intro (Nat.le_of_ble_eq_true rfl) (And.intro (kc rfl rfl) (Exists.intro 36 (And.intro rfl (?_)))))
          show Ev l d mi_X9_chance 78 [some (.ref 0), some (.int x1), some (.int (x2 + Int32.ofInt 1)), some (.int x3), some (.int q6.1)] [.int q6.1, .ref 0, .ref 36, .ref 0] (hp q8.2) 0 0 _
          obtain ⟨q12, hq12, hf⟩ := bd_some hf
          refine Ev.callV (o := 0) (M' := mi_X9_draw) (d' := d - 1) (As := [.int q6.1]) (rest := [.ref 36, .ref 0]) (r' := (some (.int q12.1), hp q12.2)) (e_X9_draw (d := d - 1) (by omega) q6.1 q8.2 _ hq12) (by omega) wm_X9_draw wi_X9_draw wv_X9_draw km_9_320 (kc rfl rfl) (Nat.le_of_ble_eq_true rfl) rfl rfl rfl (Nat.le_of_ble_eq_true rfl) ⟨Nat.le_of_ble_eq_true rfl, Nat.le_of_ble_eq_true rfl⟩ (by decide +kernel) ?_
          show Ev l d mi_X9_chance 81 [some (.ref 0), some (.int x1), some (.int (x2 + Int32.ofInt 1)), some (.int x3), some (.int q6.1)] [.int q12.1, .ref 36, .ref 0] (hp q12.2) 0 0 _
          obtain ⟨q13, hq13, hf⟩ := bd_some hf
          refine Ev.callV (o := 36) (M' := mi_X3_moveAt) (d' := d - 1) (As := [.int q12.1]) (rest := [.ref 0]) (r' := (some (.int q13.1), hp q13.2)) (e_X3_moveAt (d := d - 1) (by omega) 36 q12.1 q12.2 _ hq13) (by omega) wm_X3_moveAt wi_X3_moveAt wv_X3_moveAt km_9_223 (kc rfl rfl) (Nat.le_of_ble_eq_true rfl) rfl rfl rfl (Nat.le_of_ble_eq_true rfl) ⟨Nat.le_of_ble_eq_true rfl, Nat.le_of_ble_eq_true rfl⟩ (by decide +kernel) ?_
          show Ev l d mi_X9_chance 84 [some (.ref 0), some (.int x1), some (.int (x2 + Int32.ofInt 1)), some (.int x3), some (.int q6.1)] [.int q13.1, .ref 0] (hp q13.2) 0 0 _
          obtain ⟨q14, hq14, hf⟩ := bd_some hf
          refine Ev.callV (o := 0) (M' := mi_X9_actDay) (d' := d - 1) (As := [.int q13.1]) (rest := []) (r' := (some (.int q14.1), hp q14.2)) (e_X9_actDay (d := d - 1) (by omega) q13.1 q13.2 _ hq14) (by omega) wm_X9_actDay wi_X9_actDay wv_X9_actDay km_9_314 (kc rfl rfl) (Nat.le_of_ble_eq_true rfl) rfl rfl rfl (Nat.le_of_ble_eq_true rfl) ⟨Nat.le_of_ble_eq_true rfl, Nat.le_of_ble_eq_true rfl⟩ (by decide +kernel) ?_
          show Ev l d mi_X9_chance 87 [some (.ref 0), some (.int x1), some (.int (x2 + Int32.ofInt 1)), some (.int x3), some (.int q6.1)] [.int q14.1] (hp q14.2) 0 0 _
          refine Ev.blk (pc' := 88) [(.pop, 0, 0, 0)] (by decide +kernel) trivial rfl (And.intro rfl (?_))
          show Ev l d mi_X9_chance 88 [some (.ref 0), some (.int x1), some (.int (x2 + Int32.ofInt 1)), some (.int x3), some (.int q6.1)] [] (hp q14.2) 0 0 _
          refine Ev.goto (off := 22) (tgt := 110) (by decide +kernel) (by decide) ?_
          refine Ev.blk (pc' := 113) [(.iinc 3 1, 0, 0, 0)] (by decide +kernel) trivial rfl (And.intro (Nat.le_of_ble_eq_true rfl) (?_))
          show Ev l d mi_X9_chance 113 [some (.ref 0), some (.int x1), some (.int (x2 + Int32.ofInt 1)), some (.int (x3 + Int32.ofInt 1)), some (.int q6.1)] [] (hp q14.2) 0 0 _
          refine Ev.goto (off := -81) (tgt := 32) (by decide +kernel) (by decide) ?_
          exact Ev.wk (ih x1 (x2 + Int32.ofInt 1) (x3 + Int32.ofInt 1) q14.2 _ hf) (And.intro (Or.inr rfl) (And.intro (Or.inr rfl) (And.intro (Or.inr rfl) (And.intro (Or.inr rfl) (And.intro (Or.inl rfl) (trivial))))))
def f_X9_chance (p0 : Int32) (s : ST) : Option (Int32 × ST) := (f_X9_canCome p0 (Int32.ofInt 1) ((Int8.ofInt 30).toInt32) s).bind (fun q1 => (if q1.1 = 0 then (f_X9_refuse (Int32.ofInt 3) q1.2).bind (fun q4 => some (q4.1, q4.2)) else (f_X0_remember 36 q1.2).bind (fun q3 => (f_X9_chance_L32 fuel) p0 (Int32.ofInt 0) (Int32.ofInt 0) q3)))
set_option maxHeartbeats 2000000 in
set_option maxRecDepth 20000 in
theorem e_X9_chance {l : Launch} {d : Nat} (hd : 25 ≤ d) (p0 : Int32) (s : ST) (r : Int32 × ST) (hf : f_X9_chance p0 s = some r) : Cl l d mi_X9_chance [.ref 0, .int p0] (hp s) (some (.int r.1), hp r.2) := by
  refine Ev.entry (by decide +kernel) rfl rfl ?_
  show Ev l d mi_X9_chance 0 [some (.ref 0), some (.int p0), none, none, none] [] (hp s) 0 0 _
  unfold f_X9_chance at hf
  refine Ev.blk (pc' := 5) [(.aload_n 0, 0, 0, 0), (.iload_n 1, 0, 0, 0), (.iconst 1, 0, 0, 0), (.bipush 30, 0, 0, 0)] (by decide +kernel) trivial rfl (?_)
  show Ev l d mi_X9_chance 5 [some (.ref 0), some (.int p0), none, none, none] [.int ((Int8.ofInt 30).toInt32), .int (Int32.ofInt 1), .int p0, .ref 0] (hp s) 0 0 _
  obtain ⟨q1, hq1, hf⟩ := bd_some hf
  refine Ev.callV (o := 0) (M' := mi_X9_canCome) (d' := d - 1) (As := [.int p0, .int (Int32.ofInt 1), .int ((Int8.ofInt 30).toInt32)]) (rest := []) (r' := (some (.int q1.1), hp q1.2)) (e_X9_canCome (d := d - 1) (by omega) p0 (Int32.ofInt 1) ((Int8.ofInt 30).toInt32) s _ hq1) (by omega) wm_X9_canCome wi_X9_canCome wv_X9_canCome km_9_267 (kc rfl rfl) (Nat.le_of_ble_eq_true rfl) rfl rfl rfl (Nat.le_of_ble_eq_true rfl) ⟨Nat.le_of_ble_eq_true rfl, Nat.le_of_ble_eq_true rfl⟩ (by decide +kernel) ?_
  show Ev l d mi_X9_chance 8 [some (.ref 0), some (.int p0), none, none, none] [.int q1.1] (hp q1.2) 0 0 _
  refine Ev.if_ne (off := 9) (tgt := 17) (by decide +kernel) (by decide) (fun b2 => ?_) (fun b2 => ?_)
  · have hf := (if_neg b2).symm.trans hf
    refine Ev.blk (pc' := 25) [(.aload_n 0, 0, 0, 0), (.getfield 66, 0, 9, 8), (.aload_n 0, 0, 0, 0), (.getfield 56, 0, 9, 6)] (by decide +kernel) ⟨kf_9_66, ⟨kf_9_56, trivial⟩⟩ rfl (And.intro (kc rfl rfl) (Exists.intro 56 (And.intro rfl (And.intro (kc rfl rfl) (Exists.intro 36 (And.intro rfl (?_)))))))
    show Ev l d mi_X9_chance 25 [some (.ref 0), some (.int p0), none, none, none] [.ref 36, .ref 56] (hp q1.2) 0 0 _
    obtain ⟨q3, hq3, hf⟩ := bd_some hf
    refine Ev.callV (o := 56) (M' := mi_X0_remember) (d' := d - 1) (As := [.ref 36]) (rest := []) (r' := (none, hp q3)) (e_X0_remember (d := d - 1) (by omega) 36 q1.2 _ hq3) (by omega) wm_X0_remember wi_X0_remember wv_X0_remember km_9_311 (kc rfl rfl) (Nat.le_of_ble_eq_true rfl) rfl rfl rfl (Nat.le_of_ble_eq_true rfl) ⟨Nat.le_of_ble_eq_true rfl, Nat.le_of_ble_eq_true rfl⟩ (by decide +kernel) ?_
    show Ev l d mi_X9_chance 28 [some (.ref 0), some (.int p0), none, none, none] [] (hp q3) 0 0 _
    refine Ev.blk (pc' := 32) [(.iconst 0, 0, 0, 0), (.istore_n 2, 0, 0, 0), (.iconst 0, 0, 0, 0), (.istore_n 3, 0, 0, 0)] (by decide +kernel) trivial rfl (And.intro (Nat.le_of_ble_eq_true rfl) (And.intro (Nat.le_of_ble_eq_true rfl) (?_)))
    show Ev l d mi_X9_chance 32 [some (.ref 0), some (.int p0), some (.int (Int32.ofInt 0)), some (.int (Int32.ofInt 0)), none] [] (hp q3) 0 0 _
    exact (e_X9_chance_L32 hd fuel) p0 (Int32.ofInt 0) (Int32.ofInt 0) q3 _ hf
  · have hf := (if_pos b2).symm.trans hf
    refine Ev.blk (pc' := 13) [(.aload_n 0, 0, 0, 0), (.iconst 3, 0, 0, 0)] (by decide +kernel) trivial rfl (?_)
    show Ev l d mi_X9_chance 13 [some (.ref 0), some (.int p0), none, none, none] [.int (Int32.ofInt 3), .ref 0] (hp q1.2) 0 0 _
    obtain ⟨q4, hq4, hf⟩ := bd_some hf
    refine Ev.callV (o := 0) (M' := mi_X9_refuse) (d' := d - 1) (As := [.int (Int32.ofInt 3)]) (rest := []) (r' := (some (.int q4.1), hp q4.2)) (e_X9_refuse (d := d - 1) (by omega) (Int32.ofInt 3) q1.2 _ hq4) (by omega) wm_X9_refuse wi_X9_refuse wv_X9_refuse km_9_108 (kc rfl rfl) (Nat.le_of_ble_eq_true rfl) rfl rfl rfl (Nat.le_of_ble_eq_true rfl) ⟨Nat.le_of_ble_eq_true rfl, Nat.le_of_ble_eq_true rfl⟩ (by decide +kernel) ?_
    show Ev l d mi_X9_chance 16 [some (.ref 0), some (.int p0), none, none, none] [.int q4.1] (hp q4.2) 0 0 _
    cases hf
    exact Ev.iret .int rfl rfl (by decide +kernel) (Nat.le_refl _) (Nat.le_refl _)
def f_X9_undo (s : ST) : Option (Int32 × ST) := (f_X0_takeBack 36 s).bind (fun q1 => (if q1.1 = 0 then (f_X9_refuse (Int32.ofInt 4) q1.2).bind (fun q3 => some ((Int32.ofInt 0), q3.2)) else some ((Int32.ofInt 1), q1.2)))
set_option maxHeartbeats 2000000 in
set_option maxRecDepth 20000 in
theorem e_X9_undo {l : Launch} {d : Nat} (hd : 4 ≤ d) (s : ST) (r : Int32 × ST) (hf : f_X9_undo s = some r) : Cl l d mi_X9_undo [.ref 0] (hp s) (some (.int r.1), hp r.2) := by
  refine Ev.entry (by decide +kernel) rfl rfl ?_
  show Ev l d mi_X9_undo 0 [some (.ref 0)] [] (hp s) 0 0 _
  unfold f_X9_undo at hf
  refine Ev.blk (pc' := 8) [(.aload_n 0, 0, 0, 0), (.getfield 66, 0, 9, 8), (.aload_n 0, 0, 0, 0), (.getfield 56, 0, 9, 6)] (by decide +kernel) ⟨kf_9_66, ⟨kf_9_56, trivial⟩⟩ rfl (And.intro (kc rfl rfl) (Exists.intro 56 (And.intro rfl (And.intro (kc rfl rfl) (Exists.intro 36 (And.intro rfl (?_)))))))
  show Ev l d mi_X9_undo 8 [some (.ref 0)] [.ref 36, .ref 56] (hp s) 0 0 _
  obtain ⟨q1, hq1, hf⟩ := bd_some hf
  refine Ev.callV (o := 56) (M' := mi_X0_takeBack) (d' := d - 1) (As := [.ref 36]) (rest := []) (r' := (some (.int q1.1), hp q1.2)) (e_X0_takeBack (d := d - 1) (by omega) 36 s _ hq1) (by omega) wm_X0_takeBack wi_X0_takeBack wv_X0_takeBack km_9_326 (kc rfl rfl) (Nat.le_of_ble_eq_true rfl) rfl rfl rfl (Nat.le_of_ble_eq_true rfl) ⟨Nat.le_of_ble_eq_true rfl, Nat.le_of_ble_eq_true rfl⟩ (by decide +kernel) ?_
  show Ev l d mi_X9_undo 11 [some (.ref 0)] [.int q1.1] (hp q1.2) 0 0 _
  refine Ev.if_eq (off := 5) (tgt := 16) (by decide +kernel) (by decide) (fun b2 => ?_) (fun b2 => ?_)
  · have hf := (if_pos b2).symm.trans hf
    refine Ev.blk (pc' := 18) [(.aload_n 0, 0, 0, 0), (.iconst 4, 0, 0, 0)] (by decide +kernel) trivial rfl (?_)
    show Ev l d mi_X9_undo 18 [some (.ref 0)] [.int (Int32.ofInt 4), .ref 0] (hp q1.2) 0 0 _
    obtain ⟨q3, hq3, hf⟩ := bd_some hf
    refine Ev.callV (o := 0) (M' := mi_X9_refuse) (d' := d - 1) (As := [.int (Int32.ofInt 4)]) (rest := []) (r' := (some (.int q3.1), hp q3.2)) (e_X9_refuse (d := d - 1) (by omega) (Int32.ofInt 4) q1.2 _ hq3) (by omega) wm_X9_refuse wi_X9_refuse wv_X9_refuse km_9_108 (kc rfl rfl) (Nat.le_of_ble_eq_true rfl) rfl rfl rfl (Nat.le_of_ble_eq_true rfl) ⟨Nat.le_of_ble_eq_true rfl, Nat.le_of_ble_eq_true rfl⟩ (by decide +kernel) ?_
    show Ev l d mi_X9_undo 21 [some (.ref 0)] [.int q3.1] (hp q3.2) 0 0 _
    refine Ev.blk (pc' := 23) [(.pop, 0, 0, 0), (.iconst 0, 0, 0, 0)] (by decide +kernel) trivial rfl (And.intro rfl (?_))
    show Ev l d mi_X9_undo 23 [some (.ref 0)] [.int (Int32.ofInt 0)] (hp q3.2) 0 0 _
    cases hf
    exact Ev.iret .boolean rfl rfl (by decide +kernel) (Nat.le_refl _) (Nat.le_refl _)
  · have hf := (if_neg b2).symm.trans hf
    refine Ev.blk (pc' := 15) [(.iconst 1, 0, 0, 0)] (by decide +kernel) trivial rfl (?_)
    show Ev l d mi_X9_undo 15 [some (.ref 0)] [.int (Int32.ofInt 1)] (hp q1.2) 0 0 _
    cases hf
    exact Ev.iret .boolean rfl rfl (by decide +kernel) (Nat.le_refl _) (Nat.le_refl _)
def f_X9_seed (p0 : Int32) (s : ST) : Option (Int32 × ST) := (if 0 ≤ p0 then lt (uI s 0 12 p0) (fun s2 => some ((Int32.ofInt 1), s2)) else (f_X9_refuse (Int32.ofInt 5) s).bind (fun q3 => some ((Int32.ofInt 0), q3.2)))
set_option maxHeartbeats 2000000 in
set_option maxRecDepth 20000 in
theorem e_X9_seed {l : Launch} {d : Nat} (hd : 2 ≤ d) (p0 : Int32) (s : ST) (r : Int32 × ST) (hf : f_X9_seed p0 s = some r) : Cl l d mi_X9_seed [.ref 0, .int p0] (hp s) (some (.int r.1), hp r.2) := by
  refine Ev.entry (by decide +kernel) rfl rfl ?_
  show Ev l d mi_X9_seed 0 [some (.ref 0), some (.int p0)] [] (hp s) 0 0 _
  unfold f_X9_seed at hf
  refine Ev.blk (pc' := 1) [(.iload_n 1, 0, 0, 0)] (by decide +kernel) trivial rfl (?_)
  show Ev l d mi_X9_seed 1 [some (.ref 0), some (.int p0)] [.int p0] (hp s) 0 0 _
  refine Ev.if_ge (off := 11) (tgt := 12) (by decide +kernel) (by decide) (fun b1 => ?_) (fun b1 => ?_)
  · have hf := (if_pos b1).symm.trans hf
    obtain ⟨s2, hs2, hf⟩ := lt_some hf
    refine Ev.blk (pc' := 18) [(.aload_n 0, 0, 0, 0), (.iload_n 1, 0, 0, 0), (.putfield 81, 0, 9, 12), (.iconst 1, 0, 0, 0)] (by decide +kernel) ⟨⟨kf_9_81, Or.inl rfl⟩, trivial⟩ rfl (And.intro (kc rfl rfl) (?_))
    show Ev l d mi_X9_seed 18 [some (.ref 0), some (.int p0)] [.int (Int32.ofInt 1)] (hp (uI s 0 12 p0)) 0 0 _
    rw [← hs2]
    cases hf
    exact Ev.iret .boolean rfl rfl (by decide +kernel) (Nat.le_refl _) (Nat.le_refl _)
  · have hf := (if_neg b1).symm.trans hf
    refine Ev.blk (pc' := 6) [(.aload_n 0, 0, 0, 0), (.iconst 5, 0, 0, 0)] (by decide +kernel) trivial rfl (?_)
    show Ev l d mi_X9_seed 6 [some (.ref 0), some (.int p0)] [.int (Int32.ofInt 5), .ref 0] (hp s) 0 0 _
    obtain ⟨q3, hq3, hf⟩ := bd_some hf
    refine Ev.callV (o := 0) (M' := mi_X9_refuse) (d' := d - 1) (As := [.int (Int32.ofInt 5)]) (rest := []) (r' := (some (.int q3.1), hp q3.2)) (e_X9_refuse (d := d - 1) (by omega) (Int32.ofInt 5) s _ hq3) (by omega) wm_X9_refuse wi_X9_refuse wv_X9_refuse km_9_108 (kc rfl rfl) (Nat.le_of_ble_eq_true rfl) rfl rfl rfl (Nat.le_of_ble_eq_true rfl) ⟨Nat.le_of_ble_eq_true rfl, Nat.le_of_ble_eq_true rfl⟩ (by decide +kernel) ?_
    show Ev l d mi_X9_seed 9 [some (.ref 0), some (.int p0)] [.int q3.1] (hp q3.2) 0 0 _
    refine Ev.blk (pc' := 11) [(.pop, 0, 0, 0), (.iconst 0, 0, 0, 0)] (by decide +kernel) trivial rfl (And.intro rfl (?_))
    show Ev l d mi_X9_seed 11 [some (.ref 0), some (.int p0)] [.int (Int32.ofInt 0)] (hp q3.2) 0 0 _
    cases hf
    exact Ev.iret .boolean rfl rfl (by decide +kernel) (Nat.le_refl _) (Nat.le_refl _)
def f_X9_answer_j126 (k19 : Int32 → Int32 → Int32 → Int32 → Int64 → Int32 → Int32 → Int32 → ST → Option (Int64 × ST)) (x1 : Int32) (x4 : Int32) (x5 : Int64) (x7 : Int32) (x8 : Int32) (x9 : Int32) (y0 : Int32) (s : ST) : Option (Int64 × ST) := k19 x1 y0 x9 x4 x5 x7 x8 (x9 + Int32.ofInt 1) s
set_option maxHeartbeats 2000000 in
set_option maxRecDepth 20000 in
theorem e_X9_answer_j126 {l : Launch} {d : Nat} (hd : 5 ≤ d) (k19 : Int32 → Int32 → Int32 → Int32 → Int64 → Int32 → Int32 → Int32 → ST → Option (Int64 × ST)) (hk19 : ∀ (x1 : Int32) (x2 : Int32) (x3 : Int32) (x4 : Int32) (x5 : Int64) (x7 : Int32) (x8 : Int32) (x9 : Int32) (s : ST) (r : Int64 × ST), k19 x1 x2 x3 x4 x5 x7 x8 x9 s = some r → Ev l d mi_X9_answer 19 [some (.ref 0), some (.int x1), some (.int x2), some (.int x3), some (.int x4), some (.long x5), none, some (.int x7), some (.int x8), some (.int x9), none] [] (hp s) 0 0 (some (.long r.1), hp r.2)) (x1 : Int32) (x4 : Int32) (x5 : Int64) (x7 : Int32) (x8 : Int32) (x9 : Int32) (y0 : Int32) (s : ST) (r : Int64 × ST) (hf : f_X9_answer_j126 k19 x1 x4 x5 x7 x8 x9 y0 s = some r) : Ev l d mi_X9_answer 126 [some (.ref 0), some (.int x1), none, none, some (.int x4), some (.long x5), none, some (.int x7), some (.int x8), some (.int x9), none] [.int y0] (hp s) 0 0 (some (.long r.1), hp r.2) := by
  unfold f_X9_answer_j126 at hf
  refine Ev.blk (pc' := 133) [(.istore_n 2, 0, 0, 0), (.iload 9, 0, 0, 0), (.istore_n 3, 0, 0, 0), (.iinc 9 1, 0, 0, 0)] (by decide +kernel) trivial rfl (And.intro (Nat.le_of_ble_eq_true rfl) (And.intro (Nat.le_of_ble_eq_true rfl) (And.intro (Nat.le_of_ble_eq_true rfl) (?_))))
  show Ev l d mi_X9_answer 133 [some (.ref 0), some (.int x1), some (.int y0), some (.int x9), some (.int x4), some (.long x5), none, some (.int x7), some (.int x8), some (.int (x9 + Int32.ofInt 1)), none] [] (hp s) 0 0 _
  refine Ev.goto (off := -114) (tgt := 19) (by decide +kernel) (by decide) ?_
  exact hk19 x1 y0 x9 x4 x5 x7 x8 (x9 + Int32.ofInt 1) s _ hf
def f_X9_answer_j98 (k19 : Int32 → Int32 → Int32 → Int32 → Int64 → Int32 → Int32 → Int32 → ST → Option (Int64 × ST)) (x1 : Int32) (x2 : Int32) (x3 : Int32) (x4 : Int32) (x5 : Int64) (x7 : Int32) (x9 : Int32) (x10 : Int32) (y0 : Int32) (s : ST) : Option (Int64 × ST) := (if x10 = 0 then k19 x1 x2 x3 (x4 + Int32.ofInt 1) (x5 + (x10).toInt64) x7 y0 (x9 + Int32.ofInt 1) s else (if 0 ≤ x2 then (f_X9_answer_j126 k19) x1 (x4 + Int32.ofInt 1) (x5 + (x10).toInt64) x7 y0 x9 x2 s else (f_X9_answer_j126 k19) x1 (x4 + Int32.ofInt 1) (x5 + (x10).toInt64) x7 y0 x9 x9 s))
set_option maxHeartbeats 2000000 in
set_option maxRecDepth 20000 in
theorem e_X9_answer_j98 {l : Launch} {d : Nat} (hd : 5 ≤ d) (k19 : Int32 → Int32 → Int32 → Int32 → Int64 → Int32 → Int32 → Int32 → ST → Option (Int64 × ST)) (hk19 : ∀ (x1 : Int32) (x2 : Int32) (x3 : Int32) (x4 : Int32) (x5 : Int64) (x7 : Int32) (x8 : Int32) (x9 : Int32) (s : ST) (r : Int64 × ST), k19 x1 x2 x3 x4 x5 x7 x8 x9 s = some r → Ev l d mi_X9_answer 19 [some (.ref 0), some (.int x1), some (.int x2), some (.int x3), some (.int x4), some (.long x5), none, some (.int x7), some (.int x8), some (.int x9), none] [] (hp s) 0 0 (some (.long r.1), hp r.2)) (x1 : Int32) (x2 : Int32) (x3 : Int32) (x4 : Int32) (x5 : Int64) (x7 : Int32) (x9 : Int32) (x10 : Int32) (y0 : Int32) (s : ST) (r : Int64 × ST) (hf : f_X9_answer_j98 k19 x1 x2 x3 x4 x5 x7 x9 x10 y0 s = some r) : Ev l d mi_X9_answer 98 [some (.ref 0), some (.int x1), some (.int x2), some (.int x3), some (.int x4), some (.long x5), none, some (.int x7), none, some (.int x9), some (.int x10)] [.int y0] (hp s) 0 0 (some (.long r.1), hp r.2) := by
  unfold f_X9_answer_j98 at hf
  refine Ev.blk (pc' := 113) [(.istore 8, 0, 0, 0), (.iinc 4 1, 0, 0, 0), (.lload 5, 0, 0, 0), (.iload 10, 0, 0, 0), (.i2l, 0, 0, 0), (.ladd, 0, 0, 0), (.lstore 5, 0, 0, 0), (.iload 10, 0, 0, 0)] (by decide +kernel) trivial rfl (And.intro (Nat.le_of_ble_eq_true rfl) (And.intro (Nat.le_of_ble_eq_true rfl) (And.intro (Nat.le_of_ble_eq_true rfl) (?_))))
  show Ev l d mi_X9_answer 113 [some (.ref 0), some (.int x1), some (.int x2), some (.int x3), some (.int (x4 + Int32.ofInt 1)), some (.long (x5 + (x10).toInt64)), none, some (.int x7), some (.int y0), some (.int x9), some (.int x10)] [.int x10] (hp s) 0 0 _
  refine Ev.if_eq (off := 17) (tgt := 130) (by decide +kernel) (by decide) (fun b15 => ?_) (fun b15 => ?_)
  · have hf := (if_pos b15).symm.trans hf
    refine Ev.blk (pc' := 133) [(.iinc 9 1, 0, 0, 0)] (by decide +kernel) trivial rfl (And.intro (Nat.le_of_ble_eq_true rfl) (?_))
    show Ev l d mi_X9_answer 133 [some (.ref 0), some (.int x1), some (.int x2), some (.int x3), some (.int (x4 + Int32.ofInt 1)), some (.long (x5 + (x10).toInt64)), none, some (.int x7), some (.int y0), some (.int (x9 + Int32.ofInt 1)), some (.int x10)] [] (hp s) 0 0 _
    refine Ev.goto (off := -114) (tgt := 19) (by decide +kernel) (by decide) ?_
    exact Ev.wk (hk19 x1 x2 x3 (x4 + Int32.ofInt 1) (x5 + (x10).toInt64) x7 y0 (x9 + Int32.ofInt 1) s _ hf) (And.intro (Or.inr rfl) (And.intro (Or.inr rfl) (And.intro (Or.inr rfl) (And.intro (Or.inr rfl) (And.intro (Or.inr rfl) (And.intro (Or.inr rfl) (And.intro (Or.inr rfl) (And.intro (Or.inr rfl) (And.intro (Or.inr rfl) (And.intro (Or.inr rfl) (And.intro (Or.inl rfl) (trivial))))))))))))
  · have hf := (if_neg b15).symm.trans hf
    refine Ev.blk (pc' := 117) [(.iload_n 2, 0, 0, 0)] (by decide +kernel) trivial rfl (?_)
    show Ev l d mi_X9_answer 117 [some (.ref 0), some (.int x1), some (.int x2), some (.int x3), some (.int (x4 + Int32.ofInt 1)), some (.long (x5 + (x10).toInt64)), none, some (.int x7), some (.int y0), some (.int x9), some (.int x10)] [.int x2] (hp s) 0 0 _
    refine Ev.if_ge (off := 8) (tgt := 125) (by decide +kernel) (by decide) (fun b16 => ?_) (fun b16 => ?_)
    · have hf := (if_pos b16).symm.trans hf
      refine Ev.blk (pc' := 126) [(.iload_n 2, 0, 0, 0)] (by decide +kernel) trivial rfl (?_)
      show Ev l d mi_X9_answer 126 [some (.ref 0), some (.int x1), some (.int x2), some (.int x3), some (.int (x4 + Int32.ofInt 1)), some (.long (x5 + (x10).toInt64)), none, some (.int x7), some (.int y0), some (.int x9), some (.int x10)] [.int x2] (hp s) 0 0 _
      exact Ev.wk ((e_X9_answer_j126 hd k19 hk19) x1 (x4 + Int32.ofInt 1) (x5 + (x10).toInt64) x7 y0 x9 x2 s _ hf) (And.intro (Or.inr rfl) (And.intro (Or.inr rfl) (And.intro (Or.inl rfl) (And.intro (Or.inl rfl) (And.intro (Or.inr rfl) (And.intro (Or.inr rfl) (And.intro (Or.inr rfl) (And.intro (Or.inr rfl) (And.intro (Or.inr rfl) (And.intro (Or.inr rfl) (And.intro (Or.inl rfl) (trivial))))))))))))
    · have hf := (if_neg b16).symm.trans hf
      refine Ev.blk (pc' := 122) [(.iload 9, 0, 0, 0)] (by decide +kernel) trivial rfl (?_)
      show Ev l d mi_X9_answer 122 [some (.ref 0), some (.int x1), some (.int x2), some (.int x3), some (.int (x4 + Int32.ofInt 1)), some (.long (x5 + (x10).toInt64)), none, some (.int x7), some (.int y0), some (.int x9), some (.int x10)] [.int x9] (hp s) 0 0 _
      refine Ev.goto (off := 4) (tgt := 126) (by decide +kernel) (by decide) ?_
      exact Ev.wk ((e_X9_answer_j126 hd k19 hk19) x1 (x4 + Int32.ofInt 1) (x5 + (x10).toInt64) x7 y0 x9 x9 s _ hf) (And.intro (Or.inr rfl) (And.intro (Or.inr rfl) (And.intro (Or.inl rfl) (And.intro (Or.inl rfl) (And.intro (Or.inr rfl) (And.intro (Or.inr rfl) (And.intro (Or.inr rfl) (And.intro (Or.inr rfl) (And.intro (Or.inr rfl) (And.intro (Or.inr rfl) (And.intro (Or.inl rfl) (trivial))))))))))))
def f_X9_answer_j79 (k19 : Int32 → Int32 → Int32 → Int32 → Int64 → Int32 → Int32 → Int32 → ST → Option (Int64 × ST)) (x1 : Int32) (x2 : Int32) (x3 : Int32) (x4 : Int32) (x5 : Int64) (x8 : Int32) (x9 : Int32) (x10 : Int32) (y0 : Int32) (s : ST) : Option (Int64 × ST) := (if x4 = 0 then (f_X9_answer_j98 k19) x1 x2 x3 x4 x5 y0 x9 x10 x10 s else (f_X9_answer_j98 k19) x1 x2 x3 x4 x5 y0 x9 x10 (if x10 < x8 then x10 else x8) s)
set_option maxHeartbeats 2000000 in
set_option maxRecDepth 20000 in
theorem e_X9_answer_j79 {l : Launch} {d : Nat} (hd : 5 ≤ d) (k19 : Int32 → Int32 → Int32 → Int32 → Int64 → Int32 → Int32 → Int32 → ST → Option (Int64 × ST)) (hk19 : ∀ (x1 : Int32) (x2 : Int32) (x3 : Int32) (x4 : Int32) (x5 : Int64) (x7 : Int32) (x8 : Int32) (x9 : Int32) (s : ST) (r : Int64 × ST), k19 x1 x2 x3 x4 x5 x7 x8 x9 s = some r → Ev l d mi_X9_answer 19 [some (.ref 0), some (.int x1), some (.int x2), some (.int x3), some (.int x4), some (.long x5), none, some (.int x7), some (.int x8), some (.int x9), none] [] (hp s) 0 0 (some (.long r.1), hp r.2)) (x1 : Int32) (x2 : Int32) (x3 : Int32) (x4 : Int32) (x5 : Int64) (x8 : Int32) (x9 : Int32) (x10 : Int32) (y0 : Int32) (s : ST) (r : Int64 × ST) (hf : f_X9_answer_j79 k19 x1 x2 x3 x4 x5 x8 x9 x10 y0 s = some r) : Ev l d mi_X9_answer 79 [some (.ref 0), some (.int x1), some (.int x2), some (.int x3), some (.int x4), some (.long x5), none, none, some (.int x8), some (.int x9), some (.int x10)] [.int y0] (hp s) 0 0 (some (.long r.1), hp r.2) := by
  unfold f_X9_answer_j79 at hf
  refine Ev.blk (pc' := 83) [(.istore 7, 0, 0, 0), (.iload 4, 0, 0, 0)] (by decide +kernel) trivial rfl (And.intro (Nat.le_of_ble_eq_true rfl) (?_))
  show Ev l d mi_X9_answer 83 [some (.ref 0), some (.int x1), some (.int x2), some (.int x3), some (.int x4), some (.long x5), none, some (.int y0), some (.int x8), some (.int x9), some (.int x10)] [.int x4] (hp s) 0 0 _
  refine Ev.if_ne (off := 8) (tgt := 91) (by decide +kernel) (by decide) (fun b8 => ?_) (fun b8 => ?_)
  · have hf := (if_neg b8).symm.trans hf
    refine Ev.blk (pc' := 95) [(.iload 8, 0, 0, 0), (.iload 10, 0, 0, 0)] (by decide +kernel) trivial rfl (?_)
    show Ev l d mi_X9_answer 95 [some (.ref 0), some (.int x1), some (.int x2), some (.int x3), some (.int x4), some (.long x5), none, some (.int y0), some (.int x8), some (.int x9), some (.int x10)] [.int x10, .int x8] (hp s) 0 0 _
    refine Ev.mmin km_9_287 wt_J9_min_7cf53 wini_12 wm_J9_min_7cf53.1 (by omega) (Nat.le_of_ble_eq_true rfl) ⟨Nat.le_refl _, Nat.le_refl _⟩ (by decide +kernel) ?_
    show Ev l d mi_X9_answer 98 [some (.ref 0), some (.int x1), some (.int x2), some (.int x3), some (.int x4), some (.long x5), none, some (.int y0), some (.int x8), some (.int x9), some (.int x10)] [.int (if x10 < x8 then x10 else x8)] (hp s) 0 0 _
    exact Ev.wk ((e_X9_answer_j98 hd k19 hk19) x1 x2 x3 x4 x5 y0 x9 x10 (if x10 < x8 then x10 else x8) s _ hf) (And.intro (Or.inr rfl) (And.intro (Or.inr rfl) (And.intro (Or.inr rfl) (And.intro (Or.inr rfl) (And.intro (Or.inr rfl) (And.intro (Or.inr rfl) (And.intro (Or.inr rfl) (And.intro (Or.inr rfl) (And.intro (Or.inl rfl) (And.intro (Or.inr rfl) (And.intro (Or.inr rfl) (trivial))))))))))))
  · have hf := (if_pos b8).symm.trans hf
    refine Ev.blk (pc' := 88) [(.iload 10, 0, 0, 0)] (by decide +kernel) trivial rfl (?_)
    show Ev l d mi_X9_answer 88 [some (.ref 0), some (.int x1), some (.int x2), some (.int x3), some (.int x4), some (.long x5), none, some (.int y0), some (.int x8), some (.int x9), some (.int x10)] [.int x10] (hp s) 0 0 _
    refine Ev.goto (off := 10) (tgt := 98) (by decide +kernel) (by decide) ?_
    exact Ev.wk ((e_X9_answer_j98 hd k19 hk19) x1 x2 x3 x4 x5 y0 x9 x10 x10 s _ hf) (And.intro (Or.inr rfl) (And.intro (Or.inr rfl) (And.intro (Or.inr rfl) (And.intro (Or.inr rfl) (And.intro (Or.inr rfl) (And.intro (Or.inr rfl) (And.intro (Or.inr rfl) (And.intro (Or.inr rfl) (And.intro (Or.inl rfl) (And.intro (Or.inr rfl) (And.intro (Or.inr rfl) (trivial))))))))))))
def f_X9_answer_L19 (k136 : Int32 → Int32 → Int32 → Int64 → Int32 → Int32 → ST → Option (Int64 × ST)) : Nat → Int32 → Int32 → Int32 → Int32 → Int64 → Int32 → Int32 → Int32 → ST → Option (Int64 × ST)
  | 0, _, _, _, _, _, _, _, _, _ => none
  | n + 1, x1, x2, x3, x4, x5, x7, x8, x9, s => (RR s.2.2 0 3).bind (fun a1 => gd (kk a1 4) ((if (s.1 a1 8) ≤ x9 then k136 x1 x2 x3 x5 x7 x8 s else gd (ib x9 8) ((if 0 ≤ (s.1 38 x9.toNatClampNeg) then (f_X3_answerOf 36 34 x9 s).bind (fun q6 => (if x4 = 0 then (f_X9_answer_j79 (f_X9_answer_L19 k136 n)) x1 x2 x3 x4 x5 x8 x9 q6.1 q6.1 q6.2 else (f_X9_answer_j79 (f_X9_answer_L19 k136 n)) x1 x2 x3 x4 x5 x8 x9 q6.1 (if x7 < q6.1 then q6.1 else x7) q6.2)) else (f_X9_answer_L19 k136 n) x1 x2 x3 x4 x5 x7 x8 (x9 + Int32.ofInt 1) s)))))
set_option maxHeartbeats 2000000 in
set_option maxRecDepth 20000 in
theorem e_X9_answer_L19 {l : Launch} {d : Nat} (hd : 5 ≤ d) (k136 : Int32 → Int32 → Int32 → Int64 → Int32 → Int32 → ST → Option (Int64 × ST)) (hk136 : ∀ (x1 : Int32) (x2 : Int32) (x3 : Int32) (x5 : Int64) (x7 : Int32) (x8 : Int32) (s : ST) (r : Int64 × ST), k136 x1 x2 x3 x5 x7 x8 s = some r → Ev l d mi_X9_answer 136 [none, some (.int x1), some (.int x2), some (.int x3), none, some (.long x5), none, some (.int x7), some (.int x8), none, none] [] (hp s) 0 0 (some (.long r.1), hp r.2)) : ∀ (n : Nat) (x1 : Int32) (x2 : Int32) (x3 : Int32) (x4 : Int32) (x5 : Int64) (x7 : Int32) (x8 : Int32) (x9 : Int32) (s : ST) (r : Int64 × ST), f_X9_answer_L19 k136 n x1 x2 x3 x4 x5 x7 x8 x9 s = some r → Ev l d mi_X9_answer 19 [some (.ref 0), some (.int x1), some (.int x2), some (.int x3), some (.int x4), some (.long x5), none, some (.int x7), some (.int x8), some (.int x9), none] [] (hp s) 0 0 (some (.long r.1), hp r.2) := by
  intro n
  induction n with
  | zero =>
    intro x1 x2 x3 x4 x5 x7 x8 x9 s r hf
    cases hf
  | succ n ih =>
    intro x1 x2 x3 x4 x5 x7 x8 x9 s r hf
    unfold f_X9_answer_L19 at hf
    obtain ⟨a1, ha1, hf⟩ := bd_some hf
    obtain ⟨c2, hf⟩ := gd_some hf
    refine Ev.blk (pc' := 28) [(.iload 9, 0, 0, 0), (.aload_n 0, 0, 0, 0), (.getfield 37, 0, 9, 3), (.getfield 138, 0, 4, 8)] (by decide +kernel) ⟨kf_9_37, ⟨kf_9_138, trivial⟩⟩ rfl (And.intro (kc rfl rfl) (Exists.intro a1 (And.intro ha1 (And.intro (kk_ok c2) (?_)))))
    show Ev l d mi_X9_answer 28 [some (.ref 0), some (.int x1), some (.int x2), some (.int x3), some (.int x4), some (.long x5), none, some (.int x7), some (.int x8), some (.int x9), none] [.int (s.1 a1 8), .int x9] (hp s) 0 0 _
    refine Ev.icmp_ge (off := 108) (tgt := 136) (by decide +kernel) (by decide) (fun b3 => ?_) (fun b3 => ?_)
    · have hf := (if_pos b3).symm.trans hf
      exact Ev.wk (hk136 x1 x2 x3 x5 x7 x8 s _ hf) (And.intro (Or.inl rfl) (And.intro (Or.inr rfl) (And.intro (Or.inr rfl) (And.intro (Or.inr rfl) (And.intro (Or.inl rfl) (And.intro (Or.inr rfl) (And.intro (Or.inr rfl) (And.intro (Or.inr rfl) (And.intro (Or.inr rfl) (And.intro (Or.inl rfl) (And.intro (Or.inr rfl) (trivial))))))))))))
    · have hf := (if_neg b3).symm.trans hf
      obtain ⟨c4, hf⟩ := gd_some hf
      refine Ev.blk (pc' := 41) [(.aload_n 0, 0, 0, 0), (.getfield 56, 0, 9, 6), (.getfield 189, 0, 3, 4), (.iload 9, 0, 0, 0), (.iaload, 0, 0, 0)] (by decide +kernel) ⟨kf_9_56, ⟨kf_9_189, trivial⟩⟩ rfl (And.intro (kc rfl rfl) (Exists.intro 36 (And.intro rfl (And.intro (kc rfl rfl) (Exists.intro 38 (And.intro rfl (And.intro (kc rfl rfl) (And.intro (ib_ok c4) (?_)))))))))
      show Ev l d mi_X9_answer 41 [some (.ref 0), some (.int x1), some (.int x2), some (.int x3), some (.int x4), some (.long x5), none, some (.int x7), some (.int x8), some (.int x9), none] [.int (s.1 38 x9.toNatClampNeg)] (hp s) 0 0 _
      refine Ev.if_ge (off := 6) (tgt := 47) (by decide +kernel) (by decide) (fun b5 => ?_) (fun b5 => ?_)
      · have hf := (if_pos b5).symm.trans hf
        refine Ev.blk (pc' := 57) [(.aload_n 0, 0, 0, 0), (.getfield 56, 0, 9, 6), (.aload_n 0, 0, 0, 0), (.getfield 47, 0, 9, 5), (.iload 9, 0, 0, 0)] (by decide +kernel) ⟨kf_9_56, ⟨kf_9_47, trivial⟩⟩ rfl (And.intro (kc rfl rfl) (Exists.intro 36 (And.intro rfl (And.intro (kc rfl rfl) (Exists.intro 34 (And.intro rfl (?_)))))))
        show Ev l d mi_X9_answer 57 [some (.ref 0), some (.int x1), some (.int x2), some (.int x3), some (.int x4), some (.long x5), none, some (.int x7), some (.int x8), some (.int x9), none] [.int x9, .ref 34, .ref 36] (hp s) 0 0 _
        obtain ⟨q6, hq6, hf⟩ := bd_some hf
        refine Ev.callV (o := 36) (M' := mi_X3_answerOf) (d' := d - 1) (As := [.ref 34, .int x9]) (rest := []) (r' := (some (.int q6.1), hp q6.2)) (e_X3_answerOf (d := d - 1) (by omega) 36 34 x9 s _ hq6) (by omega) wm_X3_answerOf wi_X3_answerOf wv_X3_answerOf km_9_391 (kc rfl rfl) (Nat.le_of_ble_eq_true rfl) rfl rfl rfl (Nat.le_of_ble_eq_true rfl) ⟨Nat.le_of_ble_eq_true rfl, Nat.le_of_ble_eq_true rfl⟩ (by decide +kernel) ?_
        show Ev l d mi_X9_answer 60 [some (.ref 0), some (.int x1), some (.int x2), some (.int x3), some (.int x4), some (.long x5), none, some (.int x7), some (.int x8), some (.int x9), none] [.int q6.1] (hp q6.2) 0 0 _
        refine Ev.blk (pc' := 64) [(.istore 10, 0, 0, 0), (.iload 4, 0, 0, 0)] (by decide +kernel) trivial rfl (And.intro (Nat.le_of_ble_eq_true rfl) (?_))
        show Ev l d mi_X9_answer 64 [some (.ref 0), some (.int x1), some (.int x2), some (.int x3), some (.int x4), some (.long x5), none, some (.int x7), some (.int x8), some (.int x9), some (.int q6.1)] [.int x4] (hp q6.2) 0 0 _
        refine Ev.if_ne (off := 8) (tgt := 72) (by decide +kernel) (by decide) (fun b7 => ?_) (fun b7 => ?_)
        · have hf := (if_neg b7).symm.trans hf
          refine Ev.blk (pc' := 76) [(.iload 7, 0, 0, 0), (.iload 10, 0, 0, 0)] (by decide +kernel) trivial rfl (?_)
          show Ev l d mi_X9_answer 76 [some (.ref 0), some (.int x1), some (.int x2), some (.int x3), some (.int x4), some (.long x5), none, some (.int x7), some (.int x8), some (.int x9), some (.int q6.1)] [.int q6.1, .int x7] (hp q6.2) 0 0 _
          refine Ev.mmax km_9_357 wt_J9_max_7cf53 wini_12 wm_J9_max_7cf53.1 (by omega) (Nat.le_of_ble_eq_true rfl) ⟨Nat.le_refl _, Nat.le_refl _⟩ (by decide +kernel) ?_
          show Ev l d mi_X9_answer 79 [some (.ref 0), some (.int x1), some (.int x2), some (.int x3), some (.int x4), some (.long x5), none, some (.int x7), some (.int x8), some (.int x9), some (.int q6.1)] [.int (if x7 < q6.1 then q6.1 else x7)] (hp q6.2) 0 0 _
          exact Ev.wk ((e_X9_answer_j79 hd (f_X9_answer_L19 k136 n) ih) x1 x2 x3 x4 x5 x8 x9 q6.1 (if x7 < q6.1 then q6.1 else x7) q6.2 _ hf) (And.intro (Or.inr rfl) (And.intro (Or.inr rfl) (And.intro (Or.inr rfl) (And.intro (Or.inr rfl) (And.intro (Or.inr rfl) (And.intro (Or.inr rfl) (And.intro (Or.inr rfl) (And.intro (Or.inl rfl) (And.intro (Or.inr rfl) (And.intro (Or.inr rfl) (And.intro (Or.inr rfl) (trivial))))))))))))
        · have hf := (if_pos b7).symm.trans hf
          refine Ev.blk (pc' := 69) [(.iload 10, 0, 0, 0)] (by decide +kernel) trivial rfl (?_)
          show Ev l d mi_X9_answer 69 [some (.ref 0), some (.int x1), some (.int x2), some (.int x3), some (.int x4), some (.long x5), none, some (.int x7), some (.int x8), some (.int x9), some (.int q6.1)] [.int q6.1] (hp q6.2) 0 0 _
          refine Ev.goto (off := 10) (tgt := 79) (by decide +kernel) (by decide) ?_
          exact Ev.wk ((e_X9_answer_j79 hd (f_X9_answer_L19 k136 n) ih) x1 x2 x3 x4 x5 x8 x9 q6.1 q6.1 q6.2 _ hf) (And.intro (Or.inr rfl) (And.intro (Or.inr rfl) (And.intro (Or.inr rfl) (And.intro (Or.inr rfl) (And.intro (Or.inr rfl) (And.intro (Or.inr rfl) (And.intro (Or.inr rfl) (And.intro (Or.inl rfl) (And.intro (Or.inr rfl) (And.intro (Or.inr rfl) (And.intro (Or.inr rfl) (trivial))))))))))))
      · have hf := (if_neg b5).symm.trans hf
        refine Ev.goto (off := 86) (tgt := 130) (by decide +kernel) (by decide) ?_
        refine Ev.blk (pc' := 133) [(.iinc 9 1, 0, 0, 0)] (by decide +kernel) trivial rfl (And.intro (Nat.le_of_ble_eq_true rfl) (?_))
        show Ev l d mi_X9_answer 133 [some (.ref 0), some (.int x1), some (.int x2), some (.int x3), some (.int x4), some (.long x5), none, some (.int x7), some (.int x8), some (.int (x9 + Int32.ofInt 1)), none] [] (hp s) 0 0 _
        refine Ev.goto (off := -114) (tgt := 19) (by decide +kernel) (by decide) ?_
        exact ih x1 x2 x3 x4 x5 x7 x8 (x9 + Int32.ofInt 1) s _ hf
def f_X9_answer_j136 (x1 : Int32) (x2 : Int32) (x3 : Int32) (x5 : Int64) (x7 : Int32) (x8 : Int32) (s : ST) : Option (Int64 × ST) := (if x1 = 33 then some ((x2).toInt64, s) else (if x1 = 34 then some ((x3).toInt64, s) else (if x1 = 35 then some (x5, s) else (if x1 = 36 then some (x5, s) else (if x1 = 37 then some ((x7).toInt64, s) else (if x1 = 38 then some ((x8).toInt64, s) else (some (x5, s))))))))
set_option maxHeartbeats 2000000 in
set_option maxRecDepth 20000 in
theorem e_X9_answer_j136 {l : Launch} {d : Nat} (hd : 5 ≤ d) (x1 : Int32) (x2 : Int32) (x3 : Int32) (x5 : Int64) (x7 : Int32) (x8 : Int32) (s : ST) (r : Int64 × ST) (hf : f_X9_answer_j136 x1 x2 x3 x5 x7 x8 s = some r) : Ev l d mi_X9_answer 136 [none, some (.int x1), some (.int x2), some (.int x3), none, some (.long x5), none, some (.int x7), some (.int x8), none, none] [] (hp s) 0 0 (some (.long r.1), hp r.2) := by
  unfold f_X9_answer_j136 at hf
  refine Ev.blk (pc' := 137) [(.iload_n 1, 0, 0, 0)] (by decide +kernel) trivial rfl (?_)
  show Ev l d mi_X9_answer 137 [none, some (.int x1), some (.int x2), some (.int x3), none, some (.long x5), none, some (.int x7), some (.int x8), none, none] [.int x1] (hp s) 0 0 _
  by_cases b9 : x1 = 33
  · have hf := (if_pos b9).symm.trans hf
    refine Ev.tswitch (dflt := 53) (lo := 33) (hi := 38) (offs := #[39, 42, 53, 53, 45, 49]) (len := 39) (tgt := 176) (by decide +kernel) (by rw [b9]; decide) (by decide) ?_
    refine Ev.blk (pc' := 178) [(.iload_n 2, 0, 0, 0), (.i2l, 0, 0, 0)] (by decide +kernel) trivial rfl (?_)
    show Ev l d mi_X9_answer 178 [none, some (.int x1), some (.int x2), some (.int x3), none, some (.long x5), none, some (.int x7), some (.int x8), none, none] [.long (x2).toInt64] (hp s) 0 0 _
    cases hf
    exact Ev.lret rfl (by decide +kernel) (Nat.le_refl _) (Nat.le_refl _)
  · have hf := (if_neg b9).symm.trans hf
    by_cases b10 : x1 = 34
    · have hf := (if_pos b10).symm.trans hf
      refine Ev.tswitch (dflt := 53) (lo := 33) (hi := 38) (offs := #[39, 42, 53, 53, 45, 49]) (len := 39) (tgt := 179) (by decide +kernel) (by rw [b10]; decide) (by decide) ?_
      refine Ev.blk (pc' := 181) [(.iload_n 3, 0, 0, 0), (.i2l, 0, 0, 0)] (by decide +kernel) trivial rfl (?_)
      show Ev l d mi_X9_answer 181 [none, some (.int x1), some (.int x2), some (.int x3), none, some (.long x5), none, some (.int x7), some (.int x8), none, none] [.long (x3).toInt64] (hp s) 0 0 _
      cases hf
      exact Ev.lret rfl (by decide +kernel) (Nat.le_refl _) (Nat.le_refl _)
    · have hf := (if_neg b10).symm.trans hf
      by_cases b11 : x1 = 35
      · have hf := (if_pos b11).symm.trans hf
        refine Ev.tswitch (dflt := 53) (lo := 33) (hi := 38) (offs := #[39, 42, 53, 53, 45, 49]) (len := 39) (tgt := 190) (by decide +kernel) (by rw [b11]; decide) (by decide) ?_
        refine Ev.blk (pc' := 192) [(.lload 5, 0, 0, 0)] (by decide +kernel) trivial rfl (?_)
        show Ev l d mi_X9_answer 192 [none, some (.int x1), some (.int x2), some (.int x3), none, some (.long x5), none, some (.int x7), some (.int x8), none, none] [.long x5] (hp s) 0 0 _
        cases hf
        exact Ev.lret rfl (by decide +kernel) (Nat.le_refl _) (Nat.le_refl _)
      · have hf := (if_neg b11).symm.trans hf
        by_cases b12 : x1 = 36
        · have hf := (if_pos b12).symm.trans hf
          refine Ev.tswitch (dflt := 53) (lo := 33) (hi := 38) (offs := #[39, 42, 53, 53, 45, 49]) (len := 39) (tgt := 190) (by decide +kernel) (by rw [b12]; decide) (by decide) ?_
          refine Ev.blk (pc' := 192) [(.lload 5, 0, 0, 0)] (by decide +kernel) trivial rfl (?_)
          show Ev l d mi_X9_answer 192 [none, some (.int x1), some (.int x2), some (.int x3), none, some (.long x5), none, some (.int x7), some (.int x8), none, none] [.long x5] (hp s) 0 0 _
          cases hf
          exact Ev.lret rfl (by decide +kernel) (Nat.le_refl _) (Nat.le_refl _)
        · have hf := (if_neg b12).symm.trans hf
          by_cases b13 : x1 = 37
          · have hf := (if_pos b13).symm.trans hf
            refine Ev.tswitch (dflt := 53) (lo := 33) (hi := 38) (offs := #[39, 42, 53, 53, 45, 49]) (len := 39) (tgt := 182) (by decide +kernel) (by rw [b13]; decide) (by decide) ?_
            refine Ev.blk (pc' := 185) [(.iload 7, 0, 0, 0), (.i2l, 0, 0, 0)] (by decide +kernel) trivial rfl (?_)
            show Ev l d mi_X9_answer 185 [none, some (.int x1), some (.int x2), some (.int x3), none, some (.long x5), none, some (.int x7), some (.int x8), none, none] [.long (x7).toInt64] (hp s) 0 0 _
            cases hf
            exact Ev.lret rfl (by decide +kernel) (Nat.le_refl _) (Nat.le_refl _)
          · have hf := (if_neg b13).symm.trans hf
            by_cases b14 : x1 = 38
            · have hf := (if_pos b14).symm.trans hf
              refine Ev.tswitch (dflt := 53) (lo := 33) (hi := 38) (offs := #[39, 42, 53, 53, 45, 49]) (len := 39) (tgt := 186) (by decide +kernel) (by rw [b14]; decide) (by decide) ?_
              refine Ev.blk (pc' := 189) [(.iload 8, 0, 0, 0), (.i2l, 0, 0, 0)] (by decide +kernel) trivial rfl (?_)
              show Ev l d mi_X9_answer 189 [none, some (.int x1), some (.int x2), some (.int x3), none, some (.long x5), none, some (.int x7), some (.int x8), none, none] [.long (x8).toInt64] (hp s) 0 0 _
              cases hf
              exact Ev.lret rfl (by decide +kernel) (Nat.le_refl _) (Nat.le_refl _)
            · have hf := (if_neg b14).symm.trans hf
              refine Ev.tswitch (dflt := 53) (lo := 33) (hi := 38) (offs := #[39, 42, 53, 53, 45, 49]) (len := 39) (tgt := 190) (by decide +kernel) (by have e0 := sw_ne b9 (c := (33)) (by decide); have e1 := sw_ne b10 (c := (34)) (by decide); have e2 := sw_ne b11 (c := (35)) (by decide); have e3 := sw_ne b12 (c := (36)) (by decide); have e4 := sw_ne b13 (c := (37)) (by decide); have e5 := sw_ne b14 (c := (38)) (by decide); rw [if_pos (by omega)]; decide) (by decide) ?_
              refine Ev.blk (pc' := 192) [(.lload 5, 0, 0, 0)] (by decide +kernel) trivial rfl (?_)
              show Ev l d mi_X9_answer 192 [none, some (.int x1), some (.int x2), some (.int x3), none, some (.long x5), none, some (.int x7), some (.int x8), none, none] [.long x5] (hp s) 0 0 _
              cases hf
              exact Ev.lret rfl (by decide +kernel) (Nat.le_refl _) (Nat.le_refl _)
def f_X9_answer (p0 : Int32) (s : ST) : Option (Int64 × ST) := (f_X9_answer_L19 f_X9_answer_j136 fuel) p0 (Int32.ofInt (-1)) (Int32.ofInt (-1)) (Int32.ofInt 0) (Int64.ofNat ((0 : Fin 2) : Nat)) (Int32.ofInt 0) (Int32.ofInt 0) (Int32.ofInt 0) s
set_option maxHeartbeats 2000000 in
set_option maxRecDepth 20000 in
theorem e_X9_answer {l : Launch} {d : Nat} (hd : 5 ≤ d) (p0 : Int32) (s : ST) (r : Int64 × ST) (hf : f_X9_answer p0 s = some r) : Cl l d mi_X9_answer [.ref 0, .int p0] (hp s) (some (.long r.1), hp r.2) := by
  refine Ev.entry (by decide +kernel) rfl rfl ?_
  show Ev l d mi_X9_answer 0 [some (.ref 0), some (.int p0), none, none, none, none, none, none, none, none, none] [] (hp s) 0 0 _
  unfold f_X9_answer at hf
  refine Ev.blk (pc' := 19) [(.iconst (-1), 0, 0, 0), (.istore_n 2, 0, 0, 0), (.iconst (-1), 0, 0, 0), (.istore_n 3, 0, 0, 0), (.iconst 0, 0, 0, 0), (.istore 4, 0, 0, 0), (.lconst 0, 0, 0, 0), (.lstore 5, 0, 0, 0), (.iconst 0, 0, 0, 0), (.istore 7, 0, 0, 0), (.iconst 0, 0, 0, 0), (.istore 8, 0, 0, 0), (.iconst 0, 0, 0, 0), (.istore 9, 0, 0, 0)] (by decide +kernel) trivial rfl (And.intro (Nat.le_of_ble_eq_true rfl) (And.intro (Nat.le_of_ble_eq_true rfl) (And.intro (Nat.le_of_ble_eq_true rfl) (And.intro (Nat.le_of_ble_eq_true rfl) (And.intro (Nat.le_of_ble_eq_true rfl) (And.intro (Nat.le_of_ble_eq_true rfl) (And.intro (Nat.le_of_ble_eq_true rfl) (?_))))))))
  show Ev l d mi_X9_answer 19 [some (.ref 0), some (.int p0), some (.int (Int32.ofInt (-1))), some (.int (Int32.ofInt (-1))), some (.int (Int32.ofInt 0)), some (.long (Int64.ofNat ((0 : Fin 2) : Nat))), none, some (.int (Int32.ofInt 0)), some (.int (Int32.ofInt 0)), some (.int (Int32.ofInt 0)), none] [] (hp s) 0 0 _
  exact (e_X9_answer_L19 hd f_X9_answer_j136 (e_X9_answer_j136 hd) fuel) p0 (Int32.ofInt (-1)) (Int32.ofInt (-1)) (Int32.ofInt 0) (Int64.ofNat ((0 : Fin 2) : Nat)) (Int32.ofInt 0) (Int32.ofInt 0) (Int32.ofInt 0) s _ hf
def f_X9_ask (s : ST) : Option (Int64 × ST) := (f_X9_isTold s).bind (fun q1 => (if q1.1 = 0 then lt (uI q1.2 1 1 (Int32.ofInt 0)) (fun s8 => some ((Int64.ofInt (-1000000000000000)), s8)) else (f_X8_question 34 q1.2).bind (fun q3 => lt (uI q3.2 1 1 (Int32.ofInt 0)) (fun s4 => (f_X9_noteFault s4).bind (fun q5 => (if (q5.1 0 13) = 0 then (f_X9_answer q3.1 q5).bind (fun q7 => some (q7.1, q7.2)) else some ((Int64.ofInt (-1000000000000000)), q5)))))))
set_option maxHeartbeats 2000000 in
set_option maxRecDepth 20000 in
theorem e_X9_ask {l : Launch} {d : Nat} (hd : 119 ≤ d) (s : ST) (r : Int64 × ST) (hf : f_X9_ask s = some r) : Cl l d mi_X9_ask [.ref 0] (hp s) (some (.long r.1), hp r.2) := by
  refine Ev.entry (by decide +kernel) rfl rfl ?_
  show Ev l d mi_X9_ask 0 [some (.ref 0), none] [] (hp s) 0 0 _
  unfold f_X9_ask at hf
  refine Ev.blk (pc' := 1) [(.aload_n 0, 0, 0, 0)] (by decide +kernel) trivial rfl (?_)
  show Ev l d mi_X9_ask 1 [some (.ref 0), none] [.ref 0] (hp s) 0 0 _
  obtain ⟨q1, hq1, hf⟩ := bd_some hf
  refine Ev.callV (o := 0) (M' := mi_X9_isTold) (d' := d - 1) (As := []) (rest := []) (r' := (some (.int q1.1), hp q1.2)) (e_X9_isTold (d := d - 1) (by omega) s _ hq1) (by omega) wm_X9_isTold wi_X9_isTold wv_X9_isTold km_9_150 (kc rfl rfl) (Nat.le_of_ble_eq_true rfl) rfl rfl rfl (Nat.le_of_ble_eq_true rfl) ⟨Nat.le_of_ble_eq_true rfl, Nat.le_of_ble_eq_true rfl⟩ (by decide +kernel) ?_
  show Ev l d mi_X9_ask 4 [some (.ref 0), none] [.int q1.1] (hp q1.2) 0 0 _
  refine Ev.if_ne (off := 15) (tgt := 19) (by decide +kernel) (by decide) (fun b2 => ?_) (fun b2 => ?_)
  · have hf := (if_neg b2).symm.trans hf
    refine Ev.blk (pc' := 27) [(.aload_n 0, 0, 0, 0), (.getfield 30, 0, 9, 2), (.aload_n 0, 0, 0, 0), (.getfield 47, 0, 9, 5)] (by decide +kernel) ⟨kf_9_30, ⟨kf_9_47, trivial⟩⟩ rfl (And.intro (kc rfl rfl) (Exists.intro 4 (And.intro rfl (And.intro (kc rfl rfl) (Exists.intro 34 (And.intro rfl (?_)))))))
    show Ev l d mi_X9_ask 27 [some (.ref 0), none] [.ref 34, .ref 4] (hp q1.2) 0 0 _
    obtain ⟨q3, hq3, hf⟩ := bd_some hf
    refine Ev.callV (o := 4) (M' := mi_X8_question) (d' := d - 1) (As := [.ref 34]) (rest := []) (r' := (some (.int q3.1), hp q3.2)) (e_X8_question (d := d - 1) (by omega) 34 q1.2 _ hq3) (by omega) wm_X8_question wi_X8_question wv_X8_question km_9_330 (kc rfl rfl) (Nat.le_of_ble_eq_true rfl) rfl rfl rfl (Nat.le_of_ble_eq_true rfl) ⟨Nat.le_of_ble_eq_true rfl, Nat.le_of_ble_eq_true rfl⟩ (by decide +kernel) ?_
    show Ev l d mi_X9_ask 30 [some (.ref 0), none] [.int q3.1] (hp q3.2) 0 0 _
    obtain ⟨s4, hs4, hf⟩ := lt_some hf
    refine Ev.blk (pc' := 40) [(.istore_n 1, 0, 0, 0), (.aload_n 0, 0, 0, 0), (.getfield 12, 0, 9, 0), (.iconst 0, 0, 0, 0), (.putfield 105, 0, 7, 1), (.aload_n 0, 0, 0, 0)] (by decide +kernel) ⟨kf_9_12, ⟨⟨kf_9_105, Or.inl rfl⟩, trivial⟩⟩ rfl (And.intro (Nat.le_of_ble_eq_true rfl) (And.intro (kc rfl rfl) (Exists.intro 1 (And.intro rfl (And.intro (kc rfl rfl) (?_))))))
    show Ev l d mi_X9_ask 40 [some (.ref 0), some (.int q3.1)] [.ref 0] (hp (uI q3.2 1 1 (Int32.ofInt 0))) 0 0 _
    rw [← hs4]
    obtain ⟨q5, hq5, hf⟩ := bd_some hf
    refine Ev.callV (o := 0) (M' := mi_X9_noteFault) (d' := d - 1) (As := []) (rest := []) (r' := (none, hp q5)) (e_X9_noteFault (d := d - 1) (by omega) s4 _ hq5) (by omega) wm_X9_noteFault wi_X9_noteFault wv_X9_noteFault km_9_120 (kc rfl rfl) (Nat.le_of_ble_eq_true rfl) rfl rfl rfl (Nat.le_of_ble_eq_true rfl) ⟨Nat.le_of_ble_eq_true rfl, Nat.le_of_ble_eq_true rfl⟩ (by decide +kernel) ?_
    show Ev l d mi_X9_ask 43 [some (.ref 0), some (.int q3.1)] [] (hp q5) 0 0 _
    refine Ev.blk (pc' := 47) [(.aload_n 0, 0, 0, 0), (.getfield 84, 0, 9, 13)] (by decide +kernel) ⟨kf_9_84, trivial⟩ rfl (And.intro (kc rfl rfl) (?_))
    show Ev l d mi_X9_ask 47 [some (.ref 0), some (.int q3.1)] [.int (q5.1 0 13)] (hp q5) 0 0 _
    refine Ev.if_eq (off := 9) (tgt := 56) (by decide +kernel) (by decide) (fun b6 => ?_) (fun b6 => ?_)
    · have hf := (if_pos b6).symm.trans hf
      refine Ev.blk (pc' := 58) [(.aload_n 0, 0, 0, 0), (.iload_n 1, 0, 0, 0)] (by decide +kernel) trivial rfl (?_)
      show Ev l d mi_X9_ask 58 [some (.ref 0), some (.int q3.1)] [.int q3.1, .ref 0] (hp q5) 0 0 _
      obtain ⟨q7, hq7, hf⟩ := bd_some hf
      refine Ev.callV (o := 0) (M' := mi_X9_answer) (d' := d - 1) (As := [.int q3.1]) (rest := []) (r' := (some (.long q7.1), hp q7.2)) (e_X9_answer (d := d - 1) (by omega) q3.1 q5 _ hq7) (by omega) wm_X9_answer wi_X9_answer wv_X9_answer km_9_333 (kc rfl rfl) (Nat.le_of_ble_eq_true rfl) rfl rfl rfl (Nat.le_of_ble_eq_true rfl) ⟨Nat.le_of_ble_eq_true rfl, Nat.le_of_ble_eq_true rfl⟩ (by decide +kernel) ?_
      show Ev l d mi_X9_ask 61 [some (.ref 0), some (.int q3.1)] [.long q7.1] (hp q7.2) 0 0 _
      cases hf
      exact Ev.lret rfl (by decide +kernel) (Nat.le_refl _) (Nat.le_refl _)
    · have hf := (if_neg b6).symm.trans hf
      refine Ev.blk (pc' := 53) [(.ldc2_w 253, (-1000000000000000), 0, 0)] (by decide +kernel) ⟨kl_9_253, trivial⟩ rfl (?_)
      show Ev l d mi_X9_ask 53 [some (.ref 0), some (.int q3.1)] [.long (Int64.ofInt (-1000000000000000))] (hp q5) 0 0 _
      refine Ev.goto (off := 8) (tgt := 61) (by decide +kernel) (by decide) ?_
      cases hf
      exact Ev.lret rfl (by decide +kernel) (Nat.le_refl _) (Nat.le_refl _)
  · have hf := (if_pos b2).symm.trans hf
    obtain ⟨s8, hs8, hf⟩ := lt_some hf
    refine Ev.blk (pc' := 18) [(.aload_n 0, 0, 0, 0), (.getfield 12, 0, 9, 0), (.iconst 0, 0, 0, 0), (.putfield 105, 0, 7, 1), (.ldc2_w 253, (-1000000000000000), 0, 0)] (by decide +kernel) ⟨kf_9_12, ⟨⟨kf_9_105, Or.inl rfl⟩, ⟨kl_9_253, trivial⟩⟩⟩ rfl (And.intro (kc rfl rfl) (Exists.intro 1 (And.intro rfl (And.intro (kc rfl rfl) (?_)))))
    show Ev l d mi_X9_ask 18 [some (.ref 0), none] [.long (Int64.ofInt (-1000000000000000))] (hp (uI q1.2 1 1 (Int32.ofInt 0))) 0 0 _
    rw [← hs8]
    cases hf
    exact Ev.lret rfl (by decide +kernel) (Nat.le_refl _) (Nat.le_refl _)
def f_X9_marked (p0 : Int32) (p1 : Int32) (s : ST) : Option (Int32 × ST) := lt ((((Int32.ofInt 3) * p0) + p1) - (((Int32.ofInt 3) * p0) + p1) / ((Int16.ofInt 251).toInt32) * ((Int16.ofInt 251).toInt32)) (fun v1 => some (v1, s))
set_option maxHeartbeats 2000000 in
set_option maxRecDepth 20000 in
theorem e_X9_marked {l : Launch} {d : Nat} (hd : 1 ≤ d) (p0 : Int32) (p1 : Int32) (s : ST) (r : Int32 × ST) (hf : f_X9_marked p0 p1 s = some r) : Cl l d mi_X9_marked [.int p0, .int p1] (hp s) (some (.int r.1), hp r.2) := by
  refine Ev.entry (by decide +kernel) rfl rfl ?_
  show Ev l d mi_X9_marked 0 [some (.int p0), some (.int p1)] [] (hp s) 0 0 _
  unfold f_X9_marked at hf
  obtain ⟨v1, hv1, hf⟩ := lt_some hf
  refine Ev.blk (pc' := 9) [(.iconst 3, 0, 0, 0), (.iload_n 0, 0, 0, 0), (.imul, 0, 0, 0), (.iload_n 1, 0, 0, 0), (.iadd, 0, 0, 0), (.sipush 251, 0, 0, 0), (.irem, 0, 0, 0)] (by decide +kernel) trivial rfl (And.intro (by decide) (?_))
  show Ev l d mi_X9_marked 9 [some (.int p0), some (.int p1)] [.int ((((Int32.ofInt 3) * p0) + p1) - (((Int32.ofInt 3) * p0) + p1) / ((Int16.ofInt 251).toInt32) * ((Int16.ofInt 251).toInt32))] (hp s) 0 0 _
  rw [← hv1]
  cases hf
  exact Ev.iret .int rfl rfl (by decide +kernel) (Nat.le_refl _) (Nat.le_refl _)
def f_X9_write (p0 : Int32) (s : ST) : Option (ST) := (if (Int32.ofNat 32) ≤ (s.1 0 17) then some s else gd (ib (s.1 0 17) 32) (lt (uI (uI s 62 (s.1 0 17).toNatClampNeg p0) 0 17 (((uI s 62 (s.1 0 17).toNatClampNeg p0).1 0 17) + (Int32.ofInt 1))) (fun s3 => some s3)))
set_option maxHeartbeats 2000000 in
set_option maxRecDepth 20000 in
theorem e_X9_write {l : Launch} {d : Nat} (hd : 1 ≤ d) (p0 : Int32) (s : ST) (r : ST) (hf : f_X9_write p0 s = some r) : Cl l d mi_X9_write [.ref 0, .int p0] (hp s) (none, hp r) := by
  refine Ev.entry (by decide +kernel) rfl rfl ?_
  show Ev l d mi_X9_write 0 [some (.ref 0), some (.int p0)] [] (hp s) 0 0 _
  unfold f_X9_write at hf
  refine Ev.blk (pc' := 9) [(.aload_n 0, 0, 0, 0), (.getfield 96, 0, 9, 17), (.aload_n 0, 0, 0, 0), (.getfield 93, 0, 9, 16), (.arraylength, 0, 0, 0)] (by decide +kernel) ⟨kf_9_96, ⟨kf_9_93, trivial⟩⟩ rfl (And.intro (kc rfl rfl) (And.intro (kc rfl rfl) (Exists.intro 62 (And.intro rfl (And.intro (kl rfl rfl rfl) (?_))))))
  show Ev l d mi_X9_write 9 [some (.ref 0), some (.int p0)] [.int (Int32.ofNat 32), .int (s.1 0 17)] (hp s) 0 0 _
  refine Ev.icmp_ge (off := 23) (tgt := 32) (by decide +kernel) (by decide) (fun b1 => ?_) (fun b1 => ?_)
  · have hf := (if_pos b1).symm.trans hf
    cases hf
    exact Ev.vret rfl (by decide +kernel) (Nat.le_refl _) (Nat.le_refl _)
  · have hf := (if_neg b1).symm.trans hf
    obtain ⟨c2, hf⟩ := gd_some hf
    obtain ⟨s3, hs3, hf⟩ := lt_some hf
    refine Ev.blk (pc' := 32) [(.aload_n 0, 0, 0, 0), (.getfield 93, 0, 9, 16), (.aload_n 0, 0, 0, 0), (.getfield 96, 0, 9, 17), (.iload_n 1, 0, 0, 0), (.iastore, 0, 0, 0), (.aload_n 0, 0, 0, 0), (.dup, 0, 0, 0), (.getfield 96, 0, 9, 17), (.iconst 1, 0, 0, 0), (.iadd, 0, 0, 0), (.putfield 96, 0, 9, 17)] (by decide +kernel) ⟨kf_9_93, ⟨kf_9_96, ⟨kf_9_96, ⟨⟨kf_9_96, Or.inl rfl⟩, trivial⟩⟩⟩⟩ rfl (And.intro (kc rfl rfl) (Exists.intro 62 (And.intro rfl (And.intro (kc rfl rfl) (And.intro (kc rfl rfl) (And.intro (ib_ok c2) (And.intro rfl (And.intro (kc rfl rfl) (And.intro (kc rfl rfl) (?_))))))))))
    show Ev l d mi_X9_write 32 [some (.ref 0), some (.int p0)] [] (hp (uI (uI s 62 (s.1 0 17).toNatClampNeg p0) 0 17 (((uI s 62 (s.1 0 17).toNatClampNeg p0).1 0 17) + (Int32.ofInt 1)))) 0 0 _
    rw [← hs3]
    cases hf
    exact Ev.vret rfl (by decide +kernel) (Nat.le_refl _) (Nat.le_refl _)
def f_X9_writePair (p0 : Int32) (s : ST) : Option (ST) := (f_X9_write (p0 / ((Int16.ofInt 256).toInt32)) s).bind (fun q1 => lt (p0 - p0 / ((Int16.ofInt 256).toInt32) * ((Int16.ofInt 256).toInt32)) (fun v2 => (f_X9_write v2 q1).bind (fun q3 => some q3)))
set_option maxHeartbeats 2000000 in
set_option maxRecDepth 20000 in
theorem e_X9_writePair {l : Launch} {d : Nat} (hd : 2 ≤ d) (p0 : Int32) (s : ST) (r : ST) (hf : f_X9_writePair p0 s = some r) : Cl l d mi_X9_writePair [.ref 0, .int p0] (hp s) (none, hp r) := by
  refine Ev.entry (by decide +kernel) rfl rfl ?_
  show Ev l d mi_X9_writePair 0 [some (.ref 0), some (.int p0)] [] (hp s) 0 0 _
  unfold f_X9_writePair at hf
  refine Ev.blk (pc' := 6) [(.aload_n 0, 0, 0, 0), (.iload_n 1, 0, 0, 0), (.sipush 256, 0, 0, 0), (.idiv, 0, 0, 0)] (by decide +kernel) trivial rfl (And.intro (by decide) (?_))
  show Ev l d mi_X9_writePair 6 [some (.ref 0), some (.int p0)] [.int (p0 / ((Int16.ofInt 256).toInt32)), .ref 0] (hp s) 0 0 _
  obtain ⟨q1, hq1, hf⟩ := bd_some hf
  refine Ev.callV (o := 0) (M' := mi_X9_write) (d' := d - 1) (As := [.int (p0 / ((Int16.ofInt 256).toInt32))]) (rest := []) (r' := (none, hp q1)) (e_X9_write (d := d - 1) (by omega) (p0 / ((Int16.ofInt 256).toInt32)) s _ hq1) (by omega) wm_X9_write wi_X9_write wv_X9_write km_9_340 (kc rfl rfl) (Nat.le_of_ble_eq_true rfl) rfl rfl rfl (Nat.le_of_ble_eq_true rfl) ⟨Nat.le_of_ble_eq_true rfl, Nat.le_of_ble_eq_true rfl⟩ (by decide +kernel) ?_
  show Ev l d mi_X9_writePair 9 [some (.ref 0), some (.int p0)] [] (hp q1) 0 0 _
  obtain ⟨v2, hv2, hf⟩ := lt_some hf
  refine Ev.blk (pc' := 15) [(.aload_n 0, 0, 0, 0), (.iload_n 1, 0, 0, 0), (.sipush 256, 0, 0, 0), (.irem, 0, 0, 0)] (by decide +kernel) trivial rfl (And.intro (by decide) (?_))
  show Ev l d mi_X9_writePair 15 [some (.ref 0), some (.int p0)] [.int (p0 - p0 / ((Int16.ofInt 256).toInt32) * ((Int16.ofInt 256).toInt32)), .ref 0] (hp q1) 0 0 _
  rw [← hv2]
  obtain ⟨q3, hq3, hf⟩ := bd_some hf
  refine Ev.callV (o := 0) (M' := mi_X9_write) (d' := d - 1) (As := [.int v2]) (rest := []) (r' := (none, hp q3)) (e_X9_write (d := d - 1) (by omega) v2 q1 _ hq3) (by omega) wm_X9_write wi_X9_write wv_X9_write km_9_340 (kc rfl rfl) (Nat.le_of_ble_eq_true rfl) rfl rfl rfl (Nat.le_of_ble_eq_true rfl) ⟨Nat.le_of_ble_eq_true rfl, Nat.le_of_ble_eq_true rfl⟩ (by decide +kernel) ?_
  show Ev l d mi_X9_writePair 18 [some (.ref 0), some (.int p0)] [] (hp q3) 0 0 _
  cases hf
  exact Ev.vret rfl (by decide +kernel) (Nat.le_refl _) (Nat.le_refl _)
def f_X9_image_j81 (k29 : Int32 → ST → Option (Int32 × ST)) (x1 : Int32) (y1 : Int32) (s : ST) : Option (Int32 × ST) := (f_X9_write y1 s).bind (fun q12 => k29 (x1 + Int32.ofInt 1) q12)
set_option maxHeartbeats 2000000 in
set_option maxRecDepth 20000 in
theorem e_X9_image_j81 {l : Launch} {d : Nat} (hd : 3 ≤ d) (k29 : Int32 → ST → Option (Int32 × ST)) (hk29 : ∀ (x1 : Int32) (s : ST) (r : Int32 × ST), k29 x1 s = some r → Ev l d mi_X9_image 29 [some (.ref 0), some (.int x1), none] [] (hp s) 0 0 (some (.int r.1), hp r.2)) (x1 : Int32) (y1 : Int32) (s : ST) (r : Int32 × ST) (hf : f_X9_image_j81 k29 x1 y1 s = some r) : Ev l d mi_X9_image 81 [some (.ref 0), some (.int x1), none] [.int y1, .ref 0] (hp s) 0 0 (some (.int r.1), hp r.2) := by
  unfold f_X9_image_j81 at hf
  obtain ⟨q12, hq12, hf⟩ := bd_some hf
  refine Ev.callV (o := 0) (M' := mi_X9_write) (d' := d - 1) (As := [.int y1]) (rest := []) (r' := (none, hp q12)) (e_X9_write (d := d - 1) (by omega) y1 s _ hq12) (by omega) wm_X9_write wi_X9_write wv_X9_write km_9_340 (kc rfl rfl) (Nat.le_of_ble_eq_true rfl) rfl rfl rfl (Nat.le_of_ble_eq_true rfl) ⟨Nat.le_of_ble_eq_true rfl, Nat.le_of_ble_eq_true rfl⟩ (by decide +kernel) ?_
  show Ev l d mi_X9_image 84 [some (.ref 0), some (.int x1), none] [] (hp q12) 0 0 _
  refine Ev.blk (pc' := 87) [(.iinc 1 1, 0, 0, 0)] (by decide +kernel) trivial rfl (And.intro (Nat.le_of_ble_eq_true rfl) (?_))
  show Ev l d mi_X9_image 87 [some (.ref 0), some (.int (x1 + Int32.ofInt 1)), none] [] (hp q12) 0 0 _
  refine Ev.goto (off := -58) (tgt := 29) (by decide +kernel) (by decide) ?_
  exact hk29 (x1 + Int32.ofInt 1) q12 _ hf
def f_X9_image_j64 (k29 : Int32 → ST → Option (Int32 × ST)) (x1 : Int32) (x2 : Int32) (y1 : Int32) (s : ST) : Option (Int32 × ST) := (f_X9_write y1 s).bind (fun q10 => (if 0 ≤ x2 then (f_X9_image_j81 k29) x1 (x2 / (Int32.ofInt 5)) q10 else (f_X9_image_j81 k29) x1 ((Int16.ofInt 255).toInt32) q10))
set_option maxHeartbeats 2000000 in
set_option maxRecDepth 20000 in
theorem e_X9_image_j64 {l : Launch} {d : Nat} (hd : 3 ≤ d) (k29 : Int32 → ST → Option (Int32 × ST)) (hk29 : ∀ (x1 : Int32) (s : ST) (r : Int32 × ST), k29 x1 s = some r → Ev l d mi_X9_image 29 [some (.ref 0), some (.int x1), none] [] (hp s) 0 0 (some (.int r.1), hp r.2)) (x1 : Int32) (x2 : Int32) (y1 : Int32) (s : ST) (r : Int32 × ST) (hf : f_X9_image_j64 k29 x1 x2 y1 s = some r) : Ev l d mi_X9_image 64 [some (.ref 0), some (.int x1), some (.int x2)] [.int y1, .ref 0] (hp s) 0 0 (some (.int r.1), hp r.2) := by
  unfold f_X9_image_j64 at hf
  obtain ⟨q10, hq10, hf⟩ := bd_some hf
  refine Ev.callV (o := 0) (M' := mi_X9_write) (d' := d - 1) (As := [.int y1]) (rest := []) (r' := (none, hp q10)) (e_X9_write (d := d - 1) (by omega) y1 s _ hq10) (by omega) wm_X9_write wi_X9_write wv_X9_write km_9_340 (kc rfl rfl) (Nat.le_of_ble_eq_true rfl) rfl rfl rfl (Nat.le_of_ble_eq_true rfl) ⟨Nat.le_of_ble_eq_true rfl, Nat.le_of_ble_eq_true rfl⟩ (by decide +kernel) ?_
  show Ev l d mi_X9_image 67 [some (.ref 0), some (.int x1), some (.int x2)] [] (hp q10) 0 0 _
  refine Ev.blk (pc' := 69) [(.aload_n 0, 0, 0, 0), (.iload_n 2, 0, 0, 0)] (by decide +kernel) trivial rfl (?_)
  show Ev l d mi_X9_image 69 [some (.ref 0), some (.int x1), some (.int x2)] [.int x2, .ref 0] (hp q10) 0 0 _
  refine Ev.if_ge (off := 9) (tgt := 78) (by decide +kernel) (by decide) (fun b11 => ?_) (fun b11 => ?_)
  · have hf := (if_pos b11).symm.trans hf
    refine Ev.blk (pc' := 81) [(.iload_n 2, 0, 0, 0), (.iconst 5, 0, 0, 0), (.idiv, 0, 0, 0)] (by decide +kernel) trivial rfl (And.intro (by decide) (?_))
    show Ev l d mi_X9_image 81 [some (.ref 0), some (.int x1), some (.int x2)] [.int (x2 / (Int32.ofInt 5)), .ref 0] (hp q10) 0 0 _
    exact Ev.wk ((e_X9_image_j81 hd k29 hk29) x1 (x2 / (Int32.ofInt 5)) q10 _ hf) (And.intro (Or.inr rfl) (And.intro (Or.inr rfl) (And.intro (Or.inl rfl) (trivial))))
  · have hf := (if_neg b11).symm.trans hf
    refine Ev.blk (pc' := 75) [(.sipush 255, 0, 0, 0)] (by decide +kernel) trivial rfl (?_)
    show Ev l d mi_X9_image 75 [some (.ref 0), some (.int x1), some (.int x2)] [.int ((Int16.ofInt 255).toInt32), .ref 0] (hp q10) 0 0 _
    refine Ev.goto (off := 6) (tgt := 81) (by decide +kernel) (by decide) ?_
    exact Ev.wk ((e_X9_image_j81 hd k29 hk29) x1 ((Int16.ofInt 255).toInt32) q10 _ hf) (And.intro (Or.inr rfl) (And.intro (Or.inr rfl) (And.intro (Or.inl rfl) (trivial))))
def f_X9_image_L29 (k90 : ST → Option (Int32 × ST)) : Nat → Int32 → ST → Option (Int32 × ST)
  | 0, _, _ => none
  | n + 1, x1, s => (RR s.2.2 0 3).bind (fun a4 => gd (kk a4 4) ((if (s.1 a4 8) ≤ x1 then k90 s else gd (ib x1 8) ((if 0 ≤ (s.1 38 x1.toNatClampNeg) then lt ((s.1 38 x1.toNatClampNeg) - (s.1 38 x1.toNatClampNeg) / (Int32.ofInt 5) * (Int32.ofInt 5)) (fun v9 => (f_X9_image_j64 (f_X9_image_L29 k90 n)) x1 (s.1 38 x1.toNatClampNeg) v9 s) else (f_X9_image_j64 (f_X9_image_L29 k90 n)) x1 (s.1 38 x1.toNatClampNeg) ((Int16.ofInt 255).toInt32) s)))))
set_option maxHeartbeats 2000000 in
set_option maxRecDepth 20000 in
theorem e_X9_image_L29 {l : Launch} {d : Nat} (hd : 3 ≤ d) (k90 : ST → Option (Int32 × ST)) (hk90 : ∀ (s : ST) (r : Int32 × ST), k90 s = some r → Ev l d mi_X9_image 90 [some (.ref 0), none, none] [] (hp s) 0 0 (some (.int r.1), hp r.2)) : ∀ (n : Nat) (x1 : Int32) (s : ST) (r : Int32 × ST), f_X9_image_L29 k90 n x1 s = some r → Ev l d mi_X9_image 29 [some (.ref 0), some (.int x1), none] [] (hp s) 0 0 (some (.int r.1), hp r.2) := by
  intro n
  induction n with
  | zero =>
    intro x1 s r hf
    cases hf
  | succ n ih =>
    intro x1 s r hf
    unfold f_X9_image_L29 at hf
    obtain ⟨a4, ha4, hf⟩ := bd_some hf
    obtain ⟨c5, hf⟩ := gd_some hf
    refine Ev.blk (pc' := 37) [(.iload_n 1, 0, 0, 0), (.aload_n 0, 0, 0, 0), (.getfield 37, 0, 9, 3), (.getfield 138, 0, 4, 8)] (by decide +kernel) ⟨kf_9_37, ⟨kf_9_138, trivial⟩⟩ rfl (And.intro (kc rfl rfl) (Exists.intro a4 (And.intro ha4 (And.intro (kk_ok c5) (?_)))))
    show Ev l d mi_X9_image 37 [some (.ref 0), some (.int x1), none] [.int (s.1 a4 8), .int x1] (hp s) 0 0 _
    refine Ev.icmp_ge (off := 53) (tgt := 90) (by decide +kernel) (by decide) (fun b6 => ?_) (fun b6 => ?_)
    · have hf := (if_pos b6).symm.trans hf
      exact Ev.wk (hk90 s _ hf) (And.intro (Or.inr rfl) (And.intro (Or.inl rfl) (And.intro (Or.inr rfl) (trivial))))
    · have hf := (if_neg b6).symm.trans hf
      obtain ⟨c7, hf⟩ := gd_some hf
      refine Ev.blk (pc' := 52) [(.aload_n 0, 0, 0, 0), (.getfield 56, 0, 9, 6), (.getfield 189, 0, 3, 4), (.iload_n 1, 0, 0, 0), (.iaload, 0, 0, 0), (.istore_n 2, 0, 0, 0), (.aload_n 0, 0, 0, 0), (.iload_n 2, 0, 0, 0)] (by decide +kernel) ⟨kf_9_56, ⟨kf_9_189, trivial⟩⟩ rfl (And.intro (kc rfl rfl) (Exists.intro 36 (And.intro rfl (And.intro (kc rfl rfl) (Exists.intro 38 (And.intro rfl (And.intro (kc rfl rfl) (And.intro (ib_ok c7) (And.intro (Nat.le_of_ble_eq_true rfl) (?_))))))))))
      show Ev l d mi_X9_image 52 [some (.ref 0), some (.int x1), some (.int (s.1 38 x1.toNatClampNeg))] [.int (s.1 38 x1.toNatClampNeg), .ref 0] (hp s) 0 0 _
      refine Ev.if_ge (off := 9) (tgt := 61) (by decide +kernel) (by decide) (fun b8 => ?_) (fun b8 => ?_)
      · have hf := (if_pos b8).symm.trans hf
        obtain ⟨v9, hv9, hf⟩ := lt_some hf
        refine Ev.blk (pc' := 64) [(.iload_n 2, 0, 0, 0), (.iconst 5, 0, 0, 0), (.irem, 0, 0, 0)] (by decide +kernel) trivial rfl (And.intro (by decide) (?_))
        show Ev l d mi_X9_image 64 [some (.ref 0), some (.int x1), some (.int (s.1 38 x1.toNatClampNeg))] [.int ((s.1 38 x1.toNatClampNeg) - (s.1 38 x1.toNatClampNeg) / (Int32.ofInt 5) * (Int32.ofInt 5)), .ref 0] (hp s) 0 0 _
        rw [← hv9]
        exact (e_X9_image_j64 hd (f_X9_image_L29 k90 n) ih) x1 (s.1 38 x1.toNatClampNeg) v9 s _ hf
      · have hf := (if_neg b8).symm.trans hf
        refine Ev.blk (pc' := 58) [(.sipush 255, 0, 0, 0)] (by decide +kernel) trivial rfl (?_)
        show Ev l d mi_X9_image 58 [some (.ref 0), some (.int x1), some (.int (s.1 38 x1.toNatClampNeg))] [.int ((Int16.ofInt 255).toInt32), .ref 0] (hp s) 0 0 _
        refine Ev.goto (off := 6) (tgt := 64) (by decide +kernel) (by decide) ?_
        exact (e_X9_image_j64 hd (f_X9_image_L29 k90 n) ih) x1 (s.1 38 x1.toNatClampNeg) ((Int16.ofInt 255).toInt32) s _ hf
def f_X9_image_L92 (k122 : ST → Option (Int32 × ST)) : Nat → Int32 → ST → Option (Int32 × ST)
  | 0, _, _ => none
  | n + 1, x1, s => (RR s.2.2 0 3).bind (fun a13 => gd (kk a13 4) ((if (s.1 a13 12) ≤ x1 then k122 s else gd (ib x1 6) ((f_X9_writePair (s.1 39 x1.toNatClampNeg) s).bind (fun q17 => (f_X9_image_L92 k122 n) (x1 + Int32.ofInt 1) q17)))))
set_option maxHeartbeats 2000000 in
set_option maxRecDepth 20000 in
theorem e_X9_image_L92 {l : Launch} {d : Nat} (hd : 3 ≤ d) (k122 : ST → Option (Int32 × ST)) (hk122 : ∀ (s : ST) (r : Int32 × ST), k122 s = some r → Ev l d mi_X9_image 122 [some (.ref 0), none, none] [] (hp s) 0 0 (some (.int r.1), hp r.2)) : ∀ (n : Nat) (x1 : Int32) (s : ST) (r : Int32 × ST), f_X9_image_L92 k122 n x1 s = some r → Ev l d mi_X9_image 92 [some (.ref 0), some (.int x1), none] [] (hp s) 0 0 (some (.int r.1), hp r.2) := by
  intro n
  induction n with
  | zero =>
    intro x1 s r hf
    cases hf
  | succ n ih =>
    intro x1 s r hf
    unfold f_X9_image_L92 at hf
    obtain ⟨a13, ha13, hf⟩ := bd_some hf
    obtain ⟨c14, hf⟩ := gd_some hf
    refine Ev.blk (pc' := 100) [(.iload_n 1, 0, 0, 0), (.aload_n 0, 0, 0, 0), (.getfield 37, 0, 9, 3), (.getfield 141, 0, 4, 12)] (by decide +kernel) ⟨kf_9_37, ⟨kf_9_141, trivial⟩⟩ rfl (And.intro (kc rfl rfl) (Exists.intro a13 (And.intro ha13 (And.intro (kk_ok c14) (?_)))))
    show Ev l d mi_X9_image 100 [some (.ref 0), some (.int x1), none] [.int (s.1 a13 12), .int x1] (hp s) 0 0 _
    refine Ev.icmp_ge (off := 22) (tgt := 122) (by decide +kernel) (by decide) (fun b15 => ?_) (fun b15 => ?_)
    · have hf := (if_pos b15).symm.trans hf
      exact Ev.wk (hk122 s _ hf) (And.intro (Or.inr rfl) (And.intro (Or.inl rfl) (And.intro (Or.inr rfl) (trivial))))
    · have hf := (if_neg b15).symm.trans hf
      obtain ⟨c16, hf⟩ := gd_some hf
      refine Ev.blk (pc' := 113) [(.aload_n 0, 0, 0, 0), (.aload_n 0, 0, 0, 0), (.getfield 56, 0, 9, 6), (.getfield 213, 0, 3, 5), (.iload_n 1, 0, 0, 0), (.iaload, 0, 0, 0)] (by decide +kernel) ⟨kf_9_56, ⟨kf_9_213, trivial⟩⟩ rfl (And.intro (kc rfl rfl) (Exists.intro 36 (And.intro rfl (And.intro (kc rfl rfl) (Exists.intro 39 (And.intro rfl (And.intro (kc rfl rfl) (And.intro (ib_ok c16) (?_)))))))))
      show Ev l d mi_X9_image 113 [some (.ref 0), some (.int x1), none] [.int (s.1 39 x1.toNatClampNeg), .ref 0] (hp s) 0 0 _
      obtain ⟨q17, hq17, hf⟩ := bd_some hf
      refine Ev.callV (o := 0) (M' := mi_X9_writePair) (d' := d - 1) (As := [.int (s.1 39 x1.toNatClampNeg)]) (rest := []) (r' := (none, hp q17)) (e_X9_writePair (d := d - 1) (by omega) (s.1 39 x1.toNatClampNeg) s _ hq17) (by omega) wm_X9_writePair wi_X9_writePair wv_X9_writePair km_9_337 (kc rfl rfl) (Nat.le_of_ble_eq_true rfl) rfl rfl rfl (Nat.le_of_ble_eq_true rfl) ⟨Nat.le_of_ble_eq_true rfl, Nat.le_of_ble_eq_true rfl⟩ (by decide +kernel) ?_
      show Ev l d mi_X9_image 116 [some (.ref 0), some (.int x1), none] [] (hp q17) 0 0 _
      refine Ev.blk (pc' := 119) [(.iinc 1 1, 0, 0, 0)] (by decide +kernel) trivial rfl (And.intro (Nat.le_of_ble_eq_true rfl) (?_))
      show Ev l d mi_X9_image 119 [some (.ref 0), some (.int (x1 + Int32.ofInt 1)), none] [] (hp q17) 0 0 _
      refine Ev.goto (off := -27) (tgt := 92) (by decide +kernel) (by decide) ?_
      exact ih (x1 + Int32.ofInt 1) q17 _ hf
def f_X9_image_L127 (k152 : Int32 → ST → Option (Int32 × ST)) : Nat → Int32 → Int32 → ST → Option (Int32 × ST)
  | 0, _, _, _ => none
  | n + 1, x1, x2, s => (if (s.1 0 17) ≤ x2 then k152 x1 s else gd (ib x2 32) ((f_X9_marked x1 (s.1 62 x2.toNatClampNeg) s).bind (fun q20 => (f_X9_image_L127 k152 n) q20.1 (x2 + Int32.ofInt 1) q20.2)))
set_option maxHeartbeats 2000000 in
set_option maxRecDepth 20000 in
theorem e_X9_image_L127 {l : Launch} {d : Nat} (hd : 3 ≤ d) (k152 : Int32 → ST → Option (Int32 × ST)) (hk152 : ∀ (x1 : Int32) (s : ST) (r : Int32 × ST), k152 x1 s = some r → Ev l d mi_X9_image 152 [some (.ref 0), some (.int x1), none] [] (hp s) 0 0 (some (.int r.1), hp r.2)) : ∀ (n : Nat) (x1 : Int32) (x2 : Int32) (s : ST) (r : Int32 × ST), f_X9_image_L127 k152 n x1 x2 s = some r → Ev l d mi_X9_image 127 [some (.ref 0), some (.int x1), some (.int x2)] [] (hp s) 0 0 (some (.int r.1), hp r.2) := by
  intro n
  induction n with
  | zero =>
    intro x1 x2 s r hf
    cases hf
  | succ n ih =>
    intro x1 x2 s r hf
    unfold f_X9_image_L127 at hf
    refine Ev.blk (pc' := 132) [(.iload_n 2, 0, 0, 0), (.aload_n 0, 0, 0, 0), (.getfield 96, 0, 9, 17)] (by decide +kernel) ⟨kf_9_96, trivial⟩ rfl (And.intro (kc rfl rfl) (?_))
    show Ev l d mi_X9_image 132 [some (.ref 0), some (.int x1), some (.int x2)] [.int (s.1 0 17), .int x2] (hp s) 0 0 _
    refine Ev.icmp_ge (off := 20) (tgt := 152) (by decide +kernel) (by decide) (fun b18 => ?_) (fun b18 => ?_)
    · have hf := (if_pos b18).symm.trans hf
      exact Ev.wk (hk152 x1 s _ hf) (And.intro (Or.inr rfl) (And.intro (Or.inr rfl) (And.intro (Or.inl rfl) (trivial))))
    · have hf := (if_neg b18).symm.trans hf
      obtain ⟨c19, hf⟩ := gd_some hf
      refine Ev.blk (pc' := 142) [(.iload_n 1, 0, 0, 0), (.aload_n 0, 0, 0, 0), (.getfield 93, 0, 9, 16), (.iload_n 2, 0, 0, 0), (.iaload, 0, 0, 0)] (by decide +kernel) ⟨kf_9_93, trivial⟩ rfl (And.intro (kc rfl rfl) (Exists.intro 62 (And.intro rfl (And.intro (kc rfl rfl) (And.intro (ib_ok c19) (?_))))))
      show Ev l d mi_X9_image 142 [some (.ref 0), some (.int x1), some (.int x2)] [.int (s.1 62 x2.toNatClampNeg), .int x1] (hp s) 0 0 _
      obtain ⟨q20, hq20, hf⟩ := bd_some hf
      refine Ev.callS (M' := mi_X9_marked) (d' := d - 1) (As := [.int x1, .int (s.1 62 x2.toNatClampNeg)]) (rest := []) (r' := (some (.int q20.1), hp q20.2)) (e_X9_marked (d := d - 1) (by omega) x1 (s.1 62 x2.toNatClampNeg) s _ hq20) (by omega) wm_X9_marked wt_X9_marked km_9_343 rfl rfl rfl (Nat.le_of_ble_eq_true rfl) ⟨Nat.le_of_ble_eq_true rfl, Nat.le_of_ble_eq_true rfl⟩ (by decide +kernel) ?_
      show Ev l d mi_X9_image 145 [some (.ref 0), some (.int x1), some (.int x2)] [.int q20.1] (hp q20.2) 0 0 _
      refine Ev.blk (pc' := 149) [(.istore_n 1, 0, 0, 0), (.iinc 2 1, 0, 0, 0)] (by decide +kernel) trivial rfl (And.intro (Nat.le_of_ble_eq_true rfl) (And.intro (Nat.le_of_ble_eq_true rfl) (?_)))
      show Ev l d mi_X9_image 149 [some (.ref 0), some (.int q20.1), some (.int (x2 + Int32.ofInt 1))] [] (hp q20.2) 0 0 _
      refine Ev.goto (off := -22) (tgt := 127) (by decide +kernel) (by decide) ?_
      exact ih q20.1 (x2 + Int32.ofInt 1) q20.2 _ hf
def f_X9_image_j152 (x1 : Int32) (s : ST) : Option (Int32 × ST) := (f_X9_write x1 s).bind (fun q21 => some ((q21.1 0 17), q21))
set_option maxHeartbeats 2000000 in
set_option maxRecDepth 20000 in
theorem e_X9_image_j152 {l : Launch} {d : Nat} (hd : 3 ≤ d) (x1 : Int32) (s : ST) (r : Int32 × ST) (hf : f_X9_image_j152 x1 s = some r) : Ev l d mi_X9_image 152 [some (.ref 0), some (.int x1), none] [] (hp s) 0 0 (some (.int r.1), hp r.2) := by
  unfold f_X9_image_j152 at hf
  refine Ev.blk (pc' := 154) [(.aload_n 0, 0, 0, 0), (.iload_n 1, 0, 0, 0)] (by decide +kernel) trivial rfl (?_)
  show Ev l d mi_X9_image 154 [some (.ref 0), some (.int x1), none] [.int x1, .ref 0] (hp s) 0 0 _
  obtain ⟨q21, hq21, hf⟩ := bd_some hf
  refine Ev.callV (o := 0) (M' := mi_X9_write) (d' := d - 1) (As := [.int x1]) (rest := []) (r' := (none, hp q21)) (e_X9_write (d := d - 1) (by omega) x1 s _ hq21) (by omega) wm_X9_write wi_X9_write wv_X9_write km_9_340 (kc rfl rfl) (Nat.le_of_ble_eq_true rfl) rfl rfl rfl (Nat.le_of_ble_eq_true rfl) ⟨Nat.le_of_ble_eq_true rfl, Nat.le_of_ble_eq_true rfl⟩ (by decide +kernel) ?_
  show Ev l d mi_X9_image 157 [some (.ref 0), some (.int x1), none] [] (hp q21) 0 0 _
  refine Ev.blk (pc' := 161) [(.aload_n 0, 0, 0, 0), (.getfield 96, 0, 9, 17)] (by decide +kernel) ⟨kf_9_96, trivial⟩ rfl (And.intro (kc rfl rfl) (?_))
  show Ev l d mi_X9_image 161 [some (.ref 0), some (.int x1), none] [.int (q21.1 0 17)] (hp q21) 0 0 _
  cases hf
  exact Ev.iret .int rfl rfl (by decide +kernel) (Nat.le_refl _) (Nat.le_refl _)
def f_X9_image_j122 (s : ST) : Option (Int32 × ST) := (f_X9_image_L127 f_X9_image_j152 fuel) ((Int8.ofInt 59).toInt32) (Int32.ofInt 0) s
set_option maxHeartbeats 2000000 in
set_option maxRecDepth 20000 in
theorem e_X9_image_j122 {l : Launch} {d : Nat} (hd : 3 ≤ d) (s : ST) (r : Int32 × ST) (hf : f_X9_image_j122 s = some r) : Ev l d mi_X9_image 122 [some (.ref 0), none, none] [] (hp s) 0 0 (some (.int r.1), hp r.2) := by
  unfold f_X9_image_j122 at hf
  refine Ev.blk (pc' := 127) [(.bipush 59, 0, 0, 0), (.istore_n 1, 0, 0, 0), (.iconst 0, 0, 0, 0), (.istore_n 2, 0, 0, 0)] (by decide +kernel) trivial rfl (And.intro (Nat.le_of_ble_eq_true rfl) (And.intro (Nat.le_of_ble_eq_true rfl) (?_)))
  show Ev l d mi_X9_image 127 [some (.ref 0), some (.int ((Int8.ofInt 59).toInt32)), some (.int (Int32.ofInt 0))] [] (hp s) 0 0 _
  exact (e_X9_image_L127 hd f_X9_image_j152 (e_X9_image_j152 hd) fuel) ((Int8.ofInt 59).toInt32) (Int32.ofInt 0) s _ hf
def f_X9_image_j90 (s : ST) : Option (Int32 × ST) := (f_X9_image_L92 f_X9_image_j122 fuel) (Int32.ofInt 0) s
set_option maxHeartbeats 2000000 in
set_option maxRecDepth 20000 in
theorem e_X9_image_j90 {l : Launch} {d : Nat} (hd : 3 ≤ d) (s : ST) (r : Int32 × ST) (hf : f_X9_image_j90 s = some r) : Ev l d mi_X9_image 90 [some (.ref 0), none, none] [] (hp s) 0 0 (some (.int r.1), hp r.2) := by
  unfold f_X9_image_j90 at hf
  refine Ev.blk (pc' := 92) [(.iconst 0, 0, 0, 0), (.istore_n 1, 0, 0, 0)] (by decide +kernel) trivial rfl (And.intro (Nat.le_of_ble_eq_true rfl) (?_))
  show Ev l d mi_X9_image 92 [some (.ref 0), some (.int (Int32.ofInt 0)), none] [] (hp s) 0 0 _
  exact (e_X9_image_L92 hd f_X9_image_j122 (e_X9_image_j122 hd) fuel) (Int32.ofInt 0) s _ hf
def f_X9_image (s : ST) : Option (Int32 × ST) := lt (uI s 0 17 (Int32.ofInt 0)) (fun s1 => (f_X9_writePair (s1.1 36 1) s1).bind (fun q2 => (f_X9_write (q2.1 36 2) q2).bind (fun q3 => (f_X9_image_L29 f_X9_image_j90 fuel) (Int32.ofInt 0) q3)))
set_option maxHeartbeats 2000000 in
set_option maxRecDepth 20000 in
theorem e_X9_image {l : Launch} {d : Nat} (hd : 3 ≤ d) (s : ST) (r : Int32 × ST) (hf : f_X9_image s = some r) : Cl l d mi_X9_image [.ref 0] (hp s) (some (.int r.1), hp r.2) := by
  refine Ev.entry (by decide +kernel) rfl rfl ?_
  show Ev l d mi_X9_image 0 [some (.ref 0), none, none] [] (hp s) 0 0 _
  unfold f_X9_image at hf
  obtain ⟨s1, hs1, hf⟩ := lt_some hf
  refine Ev.blk (pc' := 13) [(.aload_n 0, 0, 0, 0), (.iconst 0, 0, 0, 0), (.putfield 96, 0, 9, 17), (.aload_n 0, 0, 0, 0), (.aload_n 0, 0, 0, 0), (.getfield 56, 0, 9, 6), (.getfield 144, 0, 3, 1)] (by decide +kernel) ⟨⟨kf_9_96, Or.inl rfl⟩, ⟨kf_9_56, ⟨kf_9_144, trivial⟩⟩⟩ rfl (And.intro (kc rfl rfl) (And.intro (kc rfl rfl) (Exists.intro 36 (And.intro rfl (And.intro (kc rfl rfl) (?_))))))
  show Ev l d mi_X9_image 13 [some (.ref 0), none, none] [.int ((uI s 0 17 (Int32.ofInt 0)).1 36 1), .ref 0] (hp (uI s 0 17 (Int32.ofInt 0))) 0 0 _
  rw [← hs1]
  obtain ⟨q2, hq2, hf⟩ := bd_some hf
  refine Ev.callV (o := 0) (M' := mi_X9_writePair) (d' := d - 1) (As := [.int (s1.1 36 1)]) (rest := []) (r' := (none, hp q2)) (e_X9_writePair (d := d - 1) (by omega) (s1.1 36 1) s1 _ hq2) (by omega) wm_X9_writePair wi_X9_writePair wv_X9_writePair km_9_337 (kc rfl rfl) (Nat.le_of_ble_eq_true rfl) rfl rfl rfl (Nat.le_of_ble_eq_true rfl) ⟨Nat.le_of_ble_eq_true rfl, Nat.le_of_ble_eq_true rfl⟩ (by decide +kernel) ?_
  show Ev l d mi_X9_image 16 [some (.ref 0), none, none] [] (hp q2) 0 0 _
  refine Ev.blk (pc' := 24) [(.aload_n 0, 0, 0, 0), (.aload_n 0, 0, 0, 0), (.getfield 56, 0, 9, 6), (.getfield 147, 0, 3, 2)] (by decide +kernel) ⟨kf_9_56, ⟨kf_9_147, trivial⟩⟩ rfl (And.intro (kc rfl rfl) (Exists.intro 36 (And.intro rfl (And.intro (kc rfl rfl) (?_)))))
  show Ev l d mi_X9_image 24 [some (.ref 0), none, none] [.int (q2.1 36 2), .ref 0] (hp q2) 0 0 _
  obtain ⟨q3, hq3, hf⟩ := bd_some hf
  refine Ev.callV (o := 0) (M' := mi_X9_write) (d' := d - 1) (As := [.int (q2.1 36 2)]) (rest := []) (r' := (none, hp q3)) (e_X9_write (d := d - 1) (by omega) (q2.1 36 2) q2 _ hq3) (by omega) wm_X9_write wi_X9_write wv_X9_write km_9_340 (kc rfl rfl) (Nat.le_of_ble_eq_true rfl) rfl rfl rfl (Nat.le_of_ble_eq_true rfl) ⟨Nat.le_of_ble_eq_true rfl, Nat.le_of_ble_eq_true rfl⟩ (by decide +kernel) ?_
  show Ev l d mi_X9_image 27 [some (.ref 0), none, none] [] (hp q3) 0 0 _
  refine Ev.blk (pc' := 29) [(.iconst 0, 0, 0, 0), (.istore_n 1, 0, 0, 0)] (by decide +kernel) trivial rfl (And.intro (Nat.le_of_ble_eq_true rfl) (?_))
  show Ev l d mi_X9_image 29 [some (.ref 0), some (.int (Int32.ofInt 0)), none] [] (hp q3) 0 0 _
  exact (e_X9_image_L29 hd f_X9_image_j90 (e_X9_image_j90 hd) fuel) (Int32.ofInt 0) q3 _ hf
def f_X9_octet (p0 : Int32) (s : ST) : Option (Int32 × ST) := (if p0 < 0 then some ((Int32.ofInt (-1)), s) else (if (s.1 0 17) ≤ p0 then some ((Int32.ofInt (-1)), s) else gd (ib p0 32) (some ((s.1 62 p0.toNatClampNeg), s))))
set_option maxHeartbeats 2000000 in
set_option maxRecDepth 20000 in
theorem e_X9_octet {l : Launch} {d : Nat} (hd : 1 ≤ d) (p0 : Int32) (s : ST) (r : Int32 × ST) (hf : f_X9_octet p0 s = some r) : Cl l d mi_X9_octet [.ref 0, .int p0] (hp s) (some (.int r.1), hp r.2) := by
  refine Ev.entry (by decide +kernel) rfl rfl ?_
  show Ev l d mi_X9_octet 0 [some (.ref 0), some (.int p0)] [] (hp s) 0 0 _
  unfold f_X9_octet at hf
  refine Ev.blk (pc' := 1) [(.iload_n 1, 0, 0, 0)] (by decide +kernel) trivial rfl (?_)
  show Ev l d mi_X9_octet 1 [some (.ref 0), some (.int p0)] [.int p0] (hp s) 0 0 _
  refine Ev.if_lt (off := 20) (tgt := 21) (by decide +kernel) (by decide) (fun b1 => ?_) (fun b1 => ?_)
  · have hf := (if_pos b1).symm.trans hf
    refine Ev.blk (pc' := 22) [(.iconst (-1), 0, 0, 0)] (by decide +kernel) trivial rfl (?_)
    show Ev l d mi_X9_octet 22 [some (.ref 0), some (.int p0)] [.int (Int32.ofInt (-1))] (hp s) 0 0 _
    cases hf
    exact Ev.iret .int rfl rfl (by decide +kernel) (Nat.le_refl _) (Nat.le_refl _)
  · have hf := (if_neg b1).symm.trans hf
    refine Ev.blk (pc' := 9) [(.iload_n 1, 0, 0, 0), (.aload_n 0, 0, 0, 0), (.getfield 96, 0, 9, 17)] (by decide +kernel) ⟨kf_9_96, trivial⟩ rfl (And.intro (kc rfl rfl) (?_))
    show Ev l d mi_X9_octet 9 [some (.ref 0), some (.int p0)] [.int (s.1 0 17), .int p0] (hp s) 0 0 _
    refine Ev.icmp_ge (off := 12) (tgt := 21) (by decide +kernel) (by decide) (fun b2 => ?_) (fun b2 => ?_)
    · have hf := (if_pos b2).symm.trans hf
      refine Ev.blk (pc' := 22) [(.iconst (-1), 0, 0, 0)] (by decide +kernel) trivial rfl (?_)
      show Ev l d mi_X9_octet 22 [some (.ref 0), some (.int p0)] [.int (Int32.ofInt (-1))] (hp s) 0 0 _
      cases hf
      exact Ev.iret .int rfl rfl (by decide +kernel) (Nat.le_refl _) (Nat.le_refl _)
    · have hf := (if_neg b2).symm.trans hf
      obtain ⟨c3, hf⟩ := gd_some hf
      refine Ev.blk (pc' := 18) [(.aload_n 0, 0, 0, 0), (.getfield 93, 0, 9, 16), (.iload_n 1, 0, 0, 0), (.iaload, 0, 0, 0)] (by decide +kernel) ⟨kf_9_93, trivial⟩ rfl (And.intro (kc rfl rfl) (Exists.intro 62 (And.intro rfl (And.intro (kc rfl rfl) (And.intro (ib_ok c3) (?_))))))
      show Ev l d mi_X9_octet 18 [some (.ref 0), some (.int p0)] [.int (s.1 62 p0.toNatClampNeg)] (hp s) 0 0 _
      refine Ev.goto (off := 4) (tgt := 22) (by decide +kernel) (by decide) ?_
      cases hf
      exact Ev.iret .int rfl rfl (by decide +kernel) (Nat.le_refl _) (Nat.le_refl _)
def f_X9_isImage_L73 (k99 : Int32 → Int32 → Int32 → ST → Option (Int32 × ST)) : Nat → Int32 → Int32 → Int32 → Int32 → ST → Option (Int32 × ST)
  | 0, _, _, _, _, _ => none
  | n + 1, x1, x2, x3, x4, s => (if x2 ≤ x4 then k99 x1 x2 x3 s else (f_X7_byteAt x4 s).bind (fun q14 => (f_X9_marked x3 q14.1 q14.2).bind (fun q15 => (f_X9_isImage_L73 k99 n) x1 x2 q15.1 (x4 + Int32.ofInt 1) q15.2)))
set_option maxHeartbeats 2000000 in
set_option maxRecDepth 20000 in
theorem e_X9_isImage_L73 {l : Launch} {d : Nat} (hd : 3 ≤ d) (k99 : Int32 → Int32 → Int32 → ST → Option (Int32 × ST)) (hk99 : ∀ (x1 : Int32) (x2 : Int32) (x3 : Int32) (s : ST) (r : Int32 × ST), k99 x1 x2 x3 s = some r → Ev l d mi_X9_isImage 99 [some (.ref 0), some (.int x1), some (.int x2), some (.int x3), none] [] (hp s) 0 0 (some (.int r.1), hp r.2)) : ∀ (n : Nat) (x1 : Int32) (x2 : Int32) (x3 : Int32) (x4 : Int32) (s : ST) (r : Int32 × ST), f_X9_isImage_L73 k99 n x1 x2 x3 x4 s = some r → Ev l d mi_X9_isImage 73 [some (.ref 0), some (.int x1), some (.int x2), some (.int x3), some (.int x4)] [] (hp s) 0 0 (some (.int r.1), hp r.2) := by
  intro n
  induction n with
  | zero =>
    intro x1 x2 x3 x4 s r hf
    cases hf
  | succ n ih =>
    intro x1 x2 x3 x4 s r hf
    unfold f_X9_isImage_L73 at hf
    refine Ev.blk (pc' := 76) [(.iload 4, 0, 0, 0), (.iload_n 2, 0, 0, 0)] (by decide +kernel) trivial rfl (?_)
    show Ev l d mi_X9_isImage 76 [some (.ref 0), some (.int x1), some (.int x2), some (.int x3), some (.int x4)] [.int x2, .int x4] (hp s) 0 0 _
    refine Ev.icmp_ge (off := 23) (tgt := 99) (by decide +kernel) (by decide) (fun b13 => ?_) (fun b13 => ?_)
    · have hf := (if_pos b13).symm.trans hf
      exact Ev.wk (hk99 x1 x2 x3 s _ hf) (And.intro (Or.inr rfl) (And.intro (Or.inr rfl) (And.intro (Or.inr rfl) (And.intro (Or.inr rfl) (And.intro (Or.inl rfl) (trivial))))))
    · have hf := (if_neg b13).symm.trans hf
      refine Ev.blk (pc' := 86) [(.iload_n 3, 0, 0, 0), (.aload_n 0, 0, 0, 0), (.getfield 12, 0, 9, 0), (.iload 4, 0, 0, 0)] (by decide +kernel) ⟨kf_9_12, trivial⟩ rfl (And.intro (kc rfl rfl) (Exists.intro 1 (And.intro rfl (?_))))
      show Ev l d mi_X9_isImage 86 [some (.ref 0), some (.int x1), some (.int x2), some (.int x3), some (.int x4)] [.int x4, .ref 1, .int x3] (hp s) 0 0 _
      obtain ⟨q14, hq14, hf⟩ := bd_some hf
      refine Ev.callV (o := 1) (M' := mi_X7_byteAt) (d' := d - 1) (As := [.int x4]) (rest := [.int x3]) (r' := (some (.int q14.1), hp q14.2)) (e_X7_byteAt (d := d - 1) (by omega) x4 s _ hq14) (by omega) wm_X7_byteAt wi_X7_byteAt wv_X7_byteAt km_9_295 (kc rfl rfl) (Nat.le_of_ble_eq_true rfl) rfl rfl rfl (Nat.le_of_ble_eq_true rfl) ⟨Nat.le_of_ble_eq_true rfl, Nat.le_of_ble_eq_true rfl⟩ (by decide +kernel) ?_
      show Ev l d mi_X9_isImage 89 [some (.ref 0), some (.int x1), some (.int x2), some (.int x3), some (.int x4)] [.int q14.1, .int x3] (hp q14.2) 0 0 _
      obtain ⟨q15, hq15, hf⟩ := bd_some hf
      refine Ev.callS (M' := mi_X9_marked) (d' := d - 1) (As := [.int x3, .int q14.1]) (rest := []) (r' := (some (.int q15.1), hp q15.2)) (e_X9_marked (d := d - 1) (by omega) x3 q14.1 q14.2 _ hq15) (by omega) wm_X9_marked wt_X9_marked km_9_343 rfl rfl rfl (Nat.le_of_ble_eq_true rfl) ⟨Nat.le_of_ble_eq_true rfl, Nat.le_of_ble_eq_true rfl⟩ (by decide +kernel) ?_
      show Ev l d mi_X9_isImage 92 [some (.ref 0), some (.int x1), some (.int x2), some (.int x3), some (.int x4)] [.int q15.1] (hp q15.2) 0 0 _
      refine Ev.blk (pc' := 96) [(.istore_n 3, 0, 0, 0), (.iinc 4 1, 0, 0, 0)] (by decide +kernel) trivial rfl (And.intro (Nat.le_of_ble_eq_true rfl) (And.intro (Nat.le_of_ble_eq_true rfl) (?_)))
      show Ev l d mi_X9_isImage 96 [some (.ref 0), some (.int x1), some (.int x2), some (.int q15.1), some (.int (x4 + Int32.ofInt 1))] [] (hp q15.2) 0 0 _
      refine Ev.goto (off := -23) (tgt := 73) (by decide +kernel) (by decide) ?_
      exact ih x1 x2 q15.1 (x4 + Int32.ofInt 1) q15.2 _ hf
def f_X9_isImage_L102 (k141 : Int32 → Int32 → ST → Option (Int32 × ST)) : Nat → Int32 → Int32 → Int32 → Int32 → ST → Option (Int32 × ST)
  | 0, _, _, _, _, _ => none
  | n + 1, x1, x2, x3, x4, s => (RR s.2.2 0 3).bind (fun a16 => gd (kk a16 4) ((if (s.1 a16 12) ≤ x4 then k141 x2 x3 s else (f_X7_pairAt (x1 + ((Int32.ofInt 2) * x4)) s).bind (fun q19 => (if q19.1 ≤ ((Int16.ofInt 999).toInt32) then (f_X9_isImage_L102 k141 n) x1 x2 x3 (x4 + Int32.ofInt 1) q19.2 else some ((Int32.ofInt 0), q19.2))))))
set_option maxHeartbeats 2000000 in
set_option maxRecDepth 20000 in
theorem e_X9_isImage_L102 {l : Launch} {d : Nat} (hd : 3 ≤ d) (k141 : Int32 → Int32 → ST → Option (Int32 × ST)) (hk141 : ∀ (x2 : Int32) (x3 : Int32) (s : ST) (r : Int32 × ST), k141 x2 x3 s = some r → Ev l d mi_X9_isImage 141 [some (.ref 0), none, some (.int x2), some (.int x3), none] [] (hp s) 0 0 (some (.int r.1), hp r.2)) : ∀ (n : Nat) (x1 : Int32) (x2 : Int32) (x3 : Int32) (x4 : Int32) (s : ST) (r : Int32 × ST), f_X9_isImage_L102 k141 n x1 x2 x3 x4 s = some r → Ev l d mi_X9_isImage 102 [some (.ref 0), some (.int x1), some (.int x2), some (.int x3), some (.int x4)] [] (hp s) 0 0 (some (.int r.1), hp r.2) := by
  intro n
  induction n with
  | zero =>
    intro x1 x2 x3 x4 s r hf
    cases hf
  | succ n ih =>
    intro x1 x2 x3 x4 s r hf
    unfold f_X9_isImage_L102 at hf
    obtain ⟨a16, ha16, hf⟩ := bd_some hf
    obtain ⟨c17, hf⟩ := gd_some hf
    refine Ev.blk (pc' := 111) [(.iload 4, 0, 0, 0), (.aload_n 0, 0, 0, 0), (.getfield 37, 0, 9, 3), (.getfield 141, 0, 4, 12)] (by decide +kernel) ⟨kf_9_37, ⟨kf_9_141, trivial⟩⟩ rfl (And.intro (kc rfl rfl) (Exists.intro a16 (And.intro ha16 (And.intro (kk_ok c17) (?_)))))
    show Ev l d mi_X9_isImage 111 [some (.ref 0), some (.int x1), some (.int x2), some (.int x3), some (.int x4)] [.int (s.1 a16 12), .int x4] (hp s) 0 0 _
    refine Ev.icmp_ge (off := 30) (tgt := 141) (by decide +kernel) (by decide) (fun b18 => ?_) (fun b18 => ?_)
    · have hf := (if_pos b18).symm.trans hf
      exact Ev.wk (hk141 x2 x3 s _ hf) (And.intro (Or.inr rfl) (And.intro (Or.inl rfl) (And.intro (Or.inr rfl) (And.intro (Or.inr rfl) (And.intro (Or.inl rfl) (trivial))))))
    · have hf := (if_neg b18).symm.trans hf
      refine Ev.blk (pc' := 124) [(.aload_n 0, 0, 0, 0), (.getfield 12, 0, 9, 0), (.iload_n 1, 0, 0, 0), (.iconst 2, 0, 0, 0), (.iload 4, 0, 0, 0), (.imul, 0, 0, 0), (.iadd, 0, 0, 0)] (by decide +kernel) ⟨kf_9_12, trivial⟩ rfl (And.intro (kc rfl rfl) (Exists.intro 1 (And.intro rfl (?_))))
      show Ev l d mi_X9_isImage 124 [some (.ref 0), some (.int x1), some (.int x2), some (.int x3), some (.int x4)] [.int (x1 + ((Int32.ofInt 2) * x4)), .ref 1] (hp s) 0 0 _
      obtain ⟨q19, hq19, hf⟩ := bd_some hf
      refine Ev.callV (o := 1) (M' := mi_X7_pairAt) (d' := d - 1) (As := [.int (x1 + ((Int32.ofInt 2) * x4))]) (rest := []) (r' := (some (.int q19.1), hp q19.2)) (e_X7_pairAt (d := d - 1) (by omega) (x1 + ((Int32.ofInt 2) * x4)) s _ hq19) (by omega) wm_X7_pairAt wi_X7_pairAt wv_X7_pairAt km_9_298 (kc rfl rfl) (Nat.le_of_ble_eq_true rfl) rfl rfl rfl (Nat.le_of_ble_eq_true rfl) ⟨Nat.le_of_ble_eq_true rfl, Nat.le_of_ble_eq_true rfl⟩ (by decide +kernel) ?_
      show Ev l d mi_X9_isImage 127 [some (.ref 0), some (.int x1), some (.int x2), some (.int x3), some (.int x4)] [.int q19.1] (hp q19.2) 0 0 _
      refine Ev.blk (pc' := 130) [(.sipush 999, 0, 0, 0)] (by decide +kernel) trivial rfl (?_)
      show Ev l d mi_X9_isImage 130 [some (.ref 0), some (.int x1), some (.int x2), some (.int x3), some (.int x4)] [.int ((Int16.ofInt 999).toInt32), .int q19.1] (hp q19.2) 0 0 _
      refine Ev.icmp_le (off := 5) (tgt := 135) (by decide +kernel) (by decide) (fun b20 => ?_) (fun b20 => ?_)
      · have hf := (if_pos b20).symm.trans hf
        refine Ev.blk (pc' := 138) [(.iinc 4 1, 0, 0, 0)] (by decide +kernel) trivial rfl (And.intro (Nat.le_of_ble_eq_true rfl) (?_))
        show Ev l d mi_X9_isImage 138 [some (.ref 0), some (.int x1), some (.int x2), some (.int x3), some (.int (x4 + Int32.ofInt 1))] [] (hp q19.2) 0 0 _
        refine Ev.goto (off := -36) (tgt := 102) (by decide +kernel) (by decide) ?_
        exact ih x1 x2 x3 (x4 + Int32.ofInt 1) q19.2 _ hf
      · have hf := (if_neg b20).symm.trans hf
        refine Ev.blk (pc' := 134) [(.iconst 0, 0, 0, 0)] (by decide +kernel) trivial rfl (?_)
        show Ev l d mi_X9_isImage 134 [some (.ref 0), some (.int x1), some (.int x2), some (.int x3), some (.int x4)] [.int (Int32.ofInt 0)] (hp q19.2) 0 0 _
        cases hf
        exact Ev.iret .boolean rfl rfl (by decide +kernel) (Nat.le_refl _) (Nat.le_refl _)
def f_X9_isImage_j141 (x2 : Int32) (x3 : Int32) (s : ST) : Option (Int32 × ST) := (f_X7_byteAt x2 s).bind (fun q21 => (if x3 = q21.1 then some ((Int32.ofInt 1), q21.2) else some ((Int32.ofInt 0), q21.2)))
set_option maxHeartbeats 2000000 in
set_option maxRecDepth 20000 in
theorem e_X9_isImage_j141 {l : Launch} {d : Nat} (hd : 3 ≤ d) (x2 : Int32) (x3 : Int32) (s : ST) (r : Int32 × ST) (hf : f_X9_isImage_j141 x2 x3 s = some r) : Ev l d mi_X9_isImage 141 [some (.ref 0), none, some (.int x2), some (.int x3), none] [] (hp s) 0 0 (some (.int r.1), hp r.2) := by
  unfold f_X9_isImage_j141 at hf
  refine Ev.blk (pc' := 147) [(.iload_n 3, 0, 0, 0), (.aload_n 0, 0, 0, 0), (.getfield 12, 0, 9, 0), (.iload_n 2, 0, 0, 0)] (by decide +kernel) ⟨kf_9_12, trivial⟩ rfl (And.intro (kc rfl rfl) (Exists.intro 1 (And.intro rfl (?_))))
  show Ev l d mi_X9_isImage 147 [some (.ref 0), none, some (.int x2), some (.int x3), none] [.int x2, .ref 1, .int x3] (hp s) 0 0 _
  obtain ⟨q21, hq21, hf⟩ := bd_some hf
  refine Ev.callV (o := 1) (M' := mi_X7_byteAt) (d' := d - 1) (As := [.int x2]) (rest := [.int x3]) (r' := (some (.int q21.1), hp q21.2)) (e_X7_byteAt (d := d - 1) (by omega) x2 s _ hq21) (by omega) wm_X7_byteAt wi_X7_byteAt wv_X7_byteAt km_9_295 (kc rfl rfl) (Nat.le_of_ble_eq_true rfl) rfl rfl rfl (Nat.le_of_ble_eq_true rfl) ⟨Nat.le_of_ble_eq_true rfl, Nat.le_of_ble_eq_true rfl⟩ (by decide +kernel) ?_
  show Ev l d mi_X9_isImage 150 [some (.ref 0), none, some (.int x2), some (.int x3), none] [.int q21.1, .int x3] (hp q21.2) 0 0 _
  refine Ev.icmp_ne (off := 7) (tgt := 157) (by decide +kernel) (by decide) (fun b22 => ?_) (fun b22 => ?_)
  · have hf := (if_neg b22).symm.trans hf
    refine Ev.blk (pc' := 158) [(.iconst 0, 0, 0, 0)] (by decide +kernel) trivial rfl (?_)
    show Ev l d mi_X9_isImage 158 [some (.ref 0), none, some (.int x2), some (.int x3), none] [.int (Int32.ofInt 0)] (hp q21.2) 0 0 _
    cases hf
    exact Ev.iret .boolean rfl rfl (by decide +kernel) (Nat.le_refl _) (Nat.le_refl _)
  · have hf := (if_pos b22).symm.trans hf
    refine Ev.blk (pc' := 154) [(.iconst 1, 0, 0, 0)] (by decide +kernel) trivial rfl (?_)
    show Ev l d mi_X9_isImage 154 [some (.ref 0), none, some (.int x2), some (.int x3), none] [.int (Int32.ofInt 1)] (hp q21.2) 0 0 _
    refine Ev.goto (off := 4) (tgt := 158) (by decide +kernel) (by decide) ?_
    cases hf
    exact Ev.iret .boolean rfl rfl (by decide +kernel) (Nat.le_refl _) (Nat.le_refl _)
def f_X9_isImage_j99 (x1 : Int32) (x2 : Int32) (x3 : Int32) (s : ST) : Option (Int32 × ST) := (f_X9_isImage_L102 f_X9_isImage_j141 fuel) x1 x2 x3 (Int32.ofInt 0) s
set_option maxHeartbeats 2000000 in
set_option maxRecDepth 20000 in
theorem e_X9_isImage_j99 {l : Launch} {d : Nat} (hd : 3 ≤ d) (x1 : Int32) (x2 : Int32) (x3 : Int32) (s : ST) (r : Int32 × ST) (hf : f_X9_isImage_j99 x1 x2 x3 s = some r) : Ev l d mi_X9_isImage 99 [some (.ref 0), some (.int x1), some (.int x2), some (.int x3), none] [] (hp s) 0 0 (some (.int r.1), hp r.2) := by
  unfold f_X9_isImage_j99 at hf
  refine Ev.blk (pc' := 102) [(.iconst 0, 0, 0, 0), (.istore 4, 0, 0, 0)] (by decide +kernel) trivial rfl (And.intro (Nat.le_of_ble_eq_true rfl) (?_))
  show Ev l d mi_X9_isImage 102 [some (.ref 0), some (.int x1), some (.int x2), some (.int x3), some (.int (Int32.ofInt 0))] [] (hp s) 0 0 _
  exact (e_X9_isImage_L102 hd f_X9_isImage_j141 (e_X9_isImage_j141 hd) fuel) x1 x2 x3 (Int32.ofInt 0) s _ hf
def f_X9_isImage (s : ST) : Option (Int32 × ST) := (RR s.2.2 0 3).bind (fun a1 => gd (kk a1 4) ((RR s.2.2 0 3).bind (fun a3 => gd (kk a3 4) (lt (((Int32.ofInt 3) + ((Int32.ofInt 2) * (s.1 a1 8))) + ((Int32.ofInt 2) * (s.1 a3 12))) (fun v5 => lt (v5 + (Int32.ofInt 1)) (fun v6 => (if (s.1 1 1) = v6 then (f_X7_pairAt (Int32.ofInt 0) s).bind (fun q8 => (if ((Int16.ofInt 999).toInt32) < q8.1 then some ((Int32.ofInt 0), q8.2) else (f_X7_byteAt (Int32.ofInt 2) q8.2).bind (fun q10 => (f_X9_isSide q10.1 q10.2).bind (fun q11 => (if q11.1 = 0 then some ((Int32.ofInt 0), q11.2) else (f_X9_isImage_L73 f_X9_isImage_j99 fuel) ((Int32.ofInt 3) + ((Int32.ofInt 2) * (s.1 a1 8))) v5 ((Int8.ofInt 59).toInt32) (Int32.ofInt 0) q11.2))))) else some ((Int32.ofInt 0), s))))))))
set_option maxHeartbeats 2000000 in
set_option maxRecDepth 20000 in
theorem e_X9_isImage {l : Launch} {d : Nat} (hd : 3 ≤ d) (s : ST) (r : Int32 × ST) (hf : f_X9_isImage s = some r) : Cl l d mi_X9_isImage [.ref 0] (hp s) (some (.int r.1), hp r.2) := by
  refine Ev.entry (by decide +kernel) rfl rfl ?_
  show Ev l d mi_X9_isImage 0 [some (.ref 0), none, none, none, none] [] (hp s) 0 0 _
  unfold f_X9_isImage at hf
  obtain ⟨a1, ha1, hf⟩ := bd_some hf
  obtain ⟨c2, hf⟩ := gd_some hf
  obtain ⟨a3, ha3, hf⟩ := bd_some hf
  obtain ⟨c4, hf⟩ := gd_some hf
  obtain ⟨v5, hv5, hf⟩ := lt_some hf
  obtain ⟨v6, hv6, hf⟩ := lt_some hf
  refine Ev.blk (pc' := 34) [(.iconst 3, 0, 0, 0), (.iconst 2, 0, 0, 0), (.aload_n 0, 0, 0, 0), (.getfield 37, 0, 9, 3), (.getfield 138, 0, 4, 8), (.imul, 0, 0, 0), (.iadd, 0, 0, 0), (.istore_n 1, 0, 0, 0), (.iload_n 1, 0, 0, 0), (.iconst 2, 0, 0, 0), (.aload_n 0, 0, 0, 0), (.getfield 37, 0, 9, 3), (.getfield 141, 0, 4, 12), (.imul, 0, 0, 0), (.iadd, 0, 0, 0), (.istore_n 2, 0, 0, 0), (.aload_n 0, 0, 0, 0), (.getfield 12, 0, 9, 0), (.getfield 105, 0, 7, 1), (.iload_n 2, 0, 0, 0), (.iconst 1, 0, 0, 0), (.iadd, 0, 0, 0)] (by decide +kernel) ⟨kf_9_37, ⟨kf_9_138, ⟨kf_9_37, ⟨kf_9_141, ⟨kf_9_12, ⟨kf_9_105, trivial⟩⟩⟩⟩⟩⟩ rfl (And.intro (kc rfl rfl) (Exists.intro a1 (And.intro ha1 (And.intro (kk_ok c2) (And.intro (Nat.le_of_ble_eq_true rfl) (And.intro (kc rfl rfl) (Exists.intro a3 (And.intro ha3 (And.intro (kk_ok c4) (And.intro (Nat.le_of_ble_eq_true rfl) (And.intro (kc rfl rfl) (Exists.intro 1 (And.intro rfl (And.intro (kc rfl rfl) (?_)))))))))))))))
  show Ev l d mi_X9_isImage 34 [some (.ref 0), some (.int ((Int32.ofInt 3) + ((Int32.ofInt 2) * (s.1 a1 8)))), some (.int (((Int32.ofInt 3) + ((Int32.ofInt 2) * (s.1 a1 8))) + ((Int32.ofInt 2) * (s.1 a3 12)))), none, none] [.int ((((Int32.ofInt 3) + ((Int32.ofInt 2) * (s.1 a1 8))) + ((Int32.ofInt 2) * (s.1 a3 12))) + (Int32.ofInt 1)), .int (s.1 1 1)] (hp s) 0 0 _
  rw [← hv5, ← hv6]
  refine Ev.icmp_ne (off := 31) (tgt := 65) (by decide +kernel) (by decide) (fun b7 => ?_) (fun b7 => ?_)
  · have hf := (if_neg b7).symm.trans hf
    refine Ev.blk (pc' := 66) [(.iconst 0, 0, 0, 0)] (by decide +kernel) trivial rfl (?_)
    show Ev l d mi_X9_isImage 66 [some (.ref 0), some (.int ((Int32.ofInt 3) + ((Int32.ofInt 2) * (s.1 a1 8)))), some (.int v5), none, none] [.int (Int32.ofInt 0)] (hp s) 0 0 _
    cases hf
    exact Ev.iret .boolean rfl rfl (by decide +kernel) (Nat.le_refl _) (Nat.le_refl _)
  · have hf := (if_pos b7).symm.trans hf
    refine Ev.blk (pc' := 42) [(.aload_n 0, 0, 0, 0), (.getfield 12, 0, 9, 0), (.iconst 0, 0, 0, 0)] (by decide +kernel) ⟨kf_9_12, trivial⟩ rfl (And.intro (kc rfl rfl) (Exists.intro 1 (And.intro rfl (?_))))
    show Ev l d mi_X9_isImage 42 [some (.ref 0), some (.int ((Int32.ofInt 3) + ((Int32.ofInt 2) * (s.1 a1 8)))), some (.int v5), none, none] [.int (Int32.ofInt 0), .ref 1] (hp s) 0 0 _
    obtain ⟨q8, hq8, hf⟩ := bd_some hf
    refine Ev.callV (o := 1) (M' := mi_X7_pairAt) (d' := d - 1) (As := [.int (Int32.ofInt 0)]) (rest := []) (r' := (some (.int q8.1), hp q8.2)) (e_X7_pairAt (d := d - 1) (by omega) (Int32.ofInt 0) s _ hq8) (by omega) wm_X7_pairAt wi_X7_pairAt wv_X7_pairAt km_9_298 (kc rfl rfl) (Nat.le_of_ble_eq_true rfl) rfl rfl rfl (Nat.le_of_ble_eq_true rfl) ⟨Nat.le_of_ble_eq_true rfl, Nat.le_of_ble_eq_true rfl⟩ (by decide +kernel) ?_
    show Ev l d mi_X9_isImage 45 [some (.ref 0), some (.int ((Int32.ofInt 3) + ((Int32.ofInt 2) * (s.1 a1 8)))), some (.int v5), none, none] [.int q8.1] (hp q8.2) 0 0 _
    refine Ev.blk (pc' := 48) [(.sipush 999, 0, 0, 0)] (by decide +kernel) trivial rfl (?_)
    show Ev l d mi_X9_isImage 48 [some (.ref 0), some (.int ((Int32.ofInt 3) + ((Int32.ofInt 2) * (s.1 a1 8)))), some (.int v5), none, none] [.int ((Int16.ofInt 999).toInt32), .int q8.1] (hp q8.2) 0 0 _
    refine Ev.icmp_gt (off := 17) (tgt := 65) (by decide +kernel) (by decide) (fun b9 => ?_) (fun b9 => ?_)
    · have hf := (if_pos b9).symm.trans hf
      refine Ev.blk (pc' := 66) [(.iconst 0, 0, 0, 0)] (by decide +kernel) trivial rfl (?_)
      show Ev l d mi_X9_isImage 66 [some (.ref 0), some (.int ((Int32.ofInt 3) + ((Int32.ofInt 2) * (s.1 a1 8)))), some (.int v5), none, none] [.int (Int32.ofInt 0)] (hp q8.2) 0 0 _
      cases hf
      exact Ev.iret .boolean rfl rfl (by decide +kernel) (Nat.le_refl _) (Nat.le_refl _)
    · have hf := (if_neg b9).symm.trans hf
      refine Ev.blk (pc' := 56) [(.aload_n 0, 0, 0, 0), (.getfield 12, 0, 9, 0), (.iconst 2, 0, 0, 0)] (by decide +kernel) ⟨kf_9_12, trivial⟩ rfl (And.intro (kc rfl rfl) (Exists.intro 1 (And.intro rfl (?_))))
      show Ev l d mi_X9_isImage 56 [some (.ref 0), some (.int ((Int32.ofInt 3) + ((Int32.ofInt 2) * (s.1 a1 8)))), some (.int v5), none, none] [.int (Int32.ofInt 2), .ref 1] (hp q8.2) 0 0 _
      obtain ⟨q10, hq10, hf⟩ := bd_some hf
      refine Ev.callV (o := 1) (M' := mi_X7_byteAt) (d' := d - 1) (As := [.int (Int32.ofInt 2)]) (rest := []) (r' := (some (.int q10.1), hp q10.2)) (e_X7_byteAt (d := d - 1) (by omega) (Int32.ofInt 2) q8.2 _ hq10) (by omega) wm_X7_byteAt wi_X7_byteAt wv_X7_byteAt km_9_295 (kc rfl rfl) (Nat.le_of_ble_eq_true rfl) rfl rfl rfl (Nat.le_of_ble_eq_true rfl) ⟨Nat.le_of_ble_eq_true rfl, Nat.le_of_ble_eq_true rfl⟩ (by decide +kernel) ?_
      show Ev l d mi_X9_isImage 59 [some (.ref 0), some (.int ((Int32.ofInt 3) + ((Int32.ofInt 2) * (s.1 a1 8)))), some (.int v5), none, none] [.int q10.1] (hp q10.2) 0 0 _
      obtain ⟨q11, hq11, hf⟩ := bd_some hf
      refine Ev.callS (M' := mi_X9_isSide) (d' := d - 1) (As := [.int q10.1]) (rest := []) (r' := (some (.int q11.1), hp q11.2)) (e_X9_isSide (d := d - 1) (by omega) q10.1 q10.2 _ hq11) (by omega) wm_X9_isSide wt_X9_isSide km_9_247 rfl rfl rfl (Nat.le_of_ble_eq_true rfl) ⟨Nat.le_of_ble_eq_true rfl, Nat.le_of_ble_eq_true rfl⟩ (by decide +kernel) ?_
      show Ev l d mi_X9_isImage 62 [some (.ref 0), some (.int ((Int32.ofInt 3) + ((Int32.ofInt 2) * (s.1 a1 8)))), some (.int v5), none, none] [.int q11.1] (hp q11.2) 0 0 _
      refine Ev.if_ne (off := 5) (tgt := 67) (by decide +kernel) (by decide) (fun b12 => ?_) (fun b12 => ?_)
      · have hf := (if_neg b12).symm.trans hf
        refine Ev.blk (pc' := 73) [(.bipush 59, 0, 0, 0), (.istore_n 3, 0, 0, 0), (.iconst 0, 0, 0, 0), (.istore 4, 0, 0, 0)] (by decide +kernel) trivial rfl (And.intro (Nat.le_of_ble_eq_true rfl) (And.intro (Nat.le_of_ble_eq_true rfl) (?_)))
        show Ev l d mi_X9_isImage 73 [some (.ref 0), some (.int ((Int32.ofInt 3) + ((Int32.ofInt 2) * (s.1 a1 8)))), some (.int v5), some (.int ((Int8.ofInt 59).toInt32)), some (.int (Int32.ofInt 0))] [] (hp q11.2) 0 0 _
        exact (e_X9_isImage_L73 hd f_X9_isImage_j99 (e_X9_isImage_j99 hd) fuel) ((Int32.ofInt 3) + ((Int32.ofInt 2) * (s.1 a1 8))) v5 ((Int8.ofInt 59).toInt32) (Int32.ofInt 0) q11.2 _ hf
      · have hf := (if_pos b12).symm.trans hf
        refine Ev.blk (pc' := 66) [(.iconst 0, 0, 0, 0)] (by decide +kernel) trivial rfl (?_)
        show Ev l d mi_X9_isImage 66 [some (.ref 0), some (.int ((Int32.ofInt 3) + ((Int32.ofInt 2) * (s.1 a1 8)))), some (.int v5), none, none] [.int (Int32.ofInt 0)] (hp q11.2) 0 0 _
        cases hf
        exact Ev.iret .boolean rfl rfl (by decide +kernel) (Nat.le_refl _) (Nat.le_refl _)
def f_X9_takeImage_L32 (k64 : ST → Option (ST)) : Nat → Int32 → ST → Option (ST)
  | 0, _, _ => none
  | n + 1, x1, s => (RR s.2.2 0 3).bind (fun a5 => gd (kk a5 4) ((if (s.1 a5 8) ≤ x1 then k64 s else gd (ib x1 8) (gd (ib x1 8) (lt (uI s 38 x1.toNatClampNeg (s.1 63 x1.toNatClampNeg)) (fun s10 => (f_X9_takeImage_L32 k64 n) (x1 + Int32.ofInt 1) s10))))))
set_option maxHeartbeats 2000000 in
set_option maxRecDepth 20000 in
theorem e_X9_takeImage_L32 {l : Launch} {d : Nat} (hd : 3 ≤ d) (k64 : ST → Option (ST)) (hk64 : ∀ (s : ST) (r : ST), k64 s = some r → Ev l d mi_X9_takeImage 64 [some (.ref 0), none] [] (hp s) 0 0 (none, hp r)) : ∀ (n : Nat) (x1 : Int32) (s : ST) (r : ST), f_X9_takeImage_L32 k64 n x1 s = some r → Ev l d mi_X9_takeImage 32 [some (.ref 0), some (.int x1)] [] (hp s) 0 0 (none, hp r) := by
  intro n
  induction n with
  | zero =>
    intro x1 s r hf
    cases hf
  | succ n ih =>
    intro x1 s r hf
    unfold f_X9_takeImage_L32 at hf
    obtain ⟨a5, ha5, hf⟩ := bd_some hf
    obtain ⟨c6, hf⟩ := gd_some hf
    refine Ev.blk (pc' := 40) [(.iload_n 1, 0, 0, 0), (.aload_n 0, 0, 0, 0), (.getfield 37, 0, 9, 3), (.getfield 138, 0, 4, 8)] (by decide +kernel) ⟨kf_9_37, ⟨kf_9_138, trivial⟩⟩ rfl (And.intro (kc rfl rfl) (Exists.intro a5 (And.intro ha5 (And.intro (kk_ok c6) (?_)))))
    show Ev l d mi_X9_takeImage 40 [some (.ref 0), some (.int x1)] [.int (s.1 a5 8), .int x1] (hp s) 0 0 _
    refine Ev.icmp_ge (off := 24) (tgt := 64) (by decide +kernel) (by decide) (fun b7 => ?_) (fun b7 => ?_)
    · have hf := (if_pos b7).symm.trans hf
      exact Ev.wk (hk64 s _ hf) (And.intro (Or.inr rfl) (And.intro (Or.inl rfl) (trivial)))
    · have hf := (if_neg b7).symm.trans hf
      obtain ⟨c8, hf⟩ := gd_some hf
      obtain ⟨c9, hf⟩ := gd_some hf
      obtain ⟨s10, hs10, hf⟩ := lt_some hf
      refine Ev.blk (pc' := 61) [(.aload_n 0, 0, 0, 0), (.getfield 56, 0, 9, 6), (.getfield 189, 0, 3, 4), (.iload_n 1, 0, 0, 0), (.aload_n 0, 0, 0, 0), (.getfield 99, 0, 9, 18), (.iload_n 1, 0, 0, 0), (.iaload, 0, 0, 0), (.iastore, 0, 0, 0), (.iinc 1 1, 0, 0, 0)] (by decide +kernel) ⟨kf_9_56, ⟨kf_9_189, ⟨kf_9_99, trivial⟩⟩⟩ rfl (And.intro (kc rfl rfl) (Exists.intro 36 (And.intro rfl (And.intro (kc rfl rfl) (Exists.intro 38 (And.intro rfl (And.intro (kc rfl rfl) (Exists.intro 63 (And.intro rfl (And.intro (kc rfl rfl) (And.intro (ib_ok c8) (And.intro (kc rfl rfl) (And.intro (ib_ok c9) (And.intro (Nat.le_of_ble_eq_true rfl) (?_)))))))))))))))
      show Ev l d mi_X9_takeImage 61 [some (.ref 0), some (.int (x1 + Int32.ofInt 1))] [] (hp (uI s 38 x1.toNatClampNeg (s.1 63 x1.toNatClampNeg))) 0 0 _
      rw [← hs10]
      refine Ev.goto (off := -29) (tgt := 32) (by decide +kernel) (by decide) ?_
      exact ih (x1 + Int32.ofInt 1) s10 _ hf
def f_X9_takeImage_L66 (k114 : ST → Option (ST)) : Nat → Int32 → ST → Option (ST)
  | 0, _, _ => none
  | n + 1, x1, s => (RR s.2.2 0 3).bind (fun a11 => gd (kk a11 4) ((if (s.1 a11 12) ≤ x1 then k114 s else (RR s.2.2 0 3).bind (fun a14 => gd (kk a14 4) (lt (((Int32.ofInt 3) + ((Int32.ofInt 2) * (s.1 a14 8))) + ((Int32.ofInt 2) * x1)) (fun v16 => (f_X7_pairAt v16 s).bind (fun q17 => gd (ib x1 6) (lt (uI q17.2 39 x1.toNatClampNeg q17.1) (fun s19 => (f_X9_takeImage_L66 k114 n) (x1 + Int32.ofInt 1) s19)))))))))
set_option maxHeartbeats 2000000 in
set_option maxRecDepth 20000 in
theorem e_X9_takeImage_L66 {l : Launch} {d : Nat} (hd : 3 ≤ d) (k114 : ST → Option (ST)) (hk114 : ∀ (s : ST) (r : ST), k114 s = some r → Ev l d mi_X9_takeImage 114 [some (.ref 0), none] [] (hp s) 0 0 (none, hp r)) : ∀ (n : Nat) (x1 : Int32) (s : ST) (r : ST), f_X9_takeImage_L66 k114 n x1 s = some r → Ev l d mi_X9_takeImage 66 [some (.ref 0), some (.int x1)] [] (hp s) 0 0 (none, hp r) := by
  intro n
  induction n with
  | zero =>
    intro x1 s r hf
    cases hf
  | succ n ih =>
    intro x1 s r hf
    unfold f_X9_takeImage_L66 at hf
    obtain ⟨a11, ha11, hf⟩ := bd_some hf
    obtain ⟨c12, hf⟩ := gd_some hf
    refine Ev.blk (pc' := 74) [(.iload_n 1, 0, 0, 0), (.aload_n 0, 0, 0, 0), (.getfield 37, 0, 9, 3), (.getfield 141, 0, 4, 12)] (by decide +kernel) ⟨kf_9_37, ⟨kf_9_141, trivial⟩⟩ rfl (And.intro (kc rfl rfl) (Exists.intro a11 (And.intro ha11 (And.intro (kk_ok c12) (?_)))))
    show Ev l d mi_X9_takeImage 74 [some (.ref 0), some (.int x1)] [.int (s.1 a11 12), .int x1] (hp s) 0 0 _
    refine Ev.icmp_ge (off := 40) (tgt := 114) (by decide +kernel) (by decide) (fun b13 => ?_) (fun b13 => ?_)
    · have hf := (if_pos b13).symm.trans hf
      exact Ev.wk (hk114 s _ hf) (And.intro (Or.inr rfl) (And.intro (Or.inl rfl) (trivial)))
    · have hf := (if_neg b13).symm.trans hf
      obtain ⟨a14, ha14, hf⟩ := bd_some hf
      obtain ⟨c15, hf⟩ := gd_some hf
      obtain ⟨v16, hv16, hf⟩ := lt_some hf
      refine Ev.blk (pc' := 104) [(.aload_n 0, 0, 0, 0), (.getfield 56, 0, 9, 6), (.getfield 213, 0, 3, 5), (.iload_n 1, 0, 0, 0), (.aload_n 0, 0, 0, 0), (.getfield 12, 0, 9, 0), (.iconst 3, 0, 0, 0), (.iconst 2, 0, 0, 0), (.aload_n 0, 0, 0, 0), (.getfield 37, 0, 9, 3), (.getfield 138, 0, 4, 8), (.imul, 0, 0, 0), (.iadd, 0, 0, 0), (.iconst 2, 0, 0, 0), (.iload_n 1, 0, 0, 0), (.imul, 0, 0, 0), (.iadd, 0, 0, 0)] (by decide +kernel) ⟨kf_9_56, ⟨kf_9_213, ⟨kf_9_12, ⟨kf_9_37, ⟨kf_9_138, trivial⟩⟩⟩⟩⟩ rfl (And.intro (kc rfl rfl) (Exists.intro 36 (And.intro rfl (And.intro (kc rfl rfl) (Exists.intro 39 (And.intro rfl (And.intro (kc rfl rfl) (Exists.intro 1 (And.intro rfl (And.intro (kc rfl rfl) (Exists.intro a14 (And.intro ha14 (And.intro (kk_ok c15) (?_))))))))))))))
      show Ev l d mi_X9_takeImage 104 [some (.ref 0), some (.int x1)] [.int (((Int32.ofInt 3) + ((Int32.ofInt 2) * (s.1 a14 8))) + ((Int32.ofInt 2) * x1)), .ref 1, .int x1, .ref 39] (hp s) 0 0 _
      rw [← hv16]
      obtain ⟨q17, hq17, hf⟩ := bd_some hf
      refine Ev.callV (o := 1) (M' := mi_X7_pairAt) (d' := d - 1) (As := [.int v16]) (rest := [.int x1, .ref 39]) (r' := (some (.int q17.1), hp q17.2)) (e_X7_pairAt (d := d - 1) (by omega) v16 s _ hq17) (by omega) wm_X7_pairAt wi_X7_pairAt wv_X7_pairAt km_9_298 (kc rfl rfl) (Nat.le_of_ble_eq_true rfl) rfl rfl rfl (Nat.le_of_ble_eq_true rfl) ⟨Nat.le_of_ble_eq_true rfl, Nat.le_of_ble_eq_true rfl⟩ (by decide +kernel) ?_
      show Ev l d mi_X9_takeImage 107 [some (.ref 0), some (.int x1)] [.int q17.1, .int x1, .ref 39] (hp q17.2) 0 0 _
      obtain ⟨c18, hf⟩ := gd_some hf
      obtain ⟨s19, hs19, hf⟩ := lt_some hf
      refine Ev.blk (pc' := 111) [(.iastore, 0, 0, 0), (.iinc 1 1, 0, 0, 0)] (by decide +kernel) trivial rfl (And.intro (kc rfl rfl) (And.intro (ib_ok c18) (And.intro (Nat.le_of_ble_eq_true rfl) (?_))))
      show Ev l d mi_X9_takeImage 111 [some (.ref 0), some (.int (x1 + Int32.ofInt 1))] [] (hp (uI q17.2 39 x1.toNatClampNeg q17.1)) 0 0 _
      rw [← hs19]
      refine Ev.goto (off := -45) (tgt := 66) (by decide +kernel) (by decide) ?_
      exact ih (x1 + Int32.ofInt 1) s19 _ hf
def f_X9_takeImage_j114 (s : ST) : Option (ST) := (f_X3_settle 36 s).bind (fun q20 => (f_X0_forget q20).bind (fun q21 => some q21))
set_option maxHeartbeats 2000000 in
set_option maxRecDepth 20000 in
theorem e_X9_takeImage_j114 {l : Launch} {d : Nat} (hd : 3 ≤ d) (s : ST) (r : ST) (hf : f_X9_takeImage_j114 s = some r) : Ev l d mi_X9_takeImage 114 [some (.ref 0), none] [] (hp s) 0 0 (none, hp r) := by
  unfold f_X9_takeImage_j114 at hf
  refine Ev.blk (pc' := 118) [(.aload_n 0, 0, 0, 0), (.getfield 56, 0, 9, 6)] (by decide +kernel) ⟨kf_9_56, trivial⟩ rfl (And.intro (kc rfl rfl) (Exists.intro 36 (And.intro rfl (?_))))
  show Ev l d mi_X9_takeImage 118 [some (.ref 0), none] [.ref 36] (hp s) 0 0 _
  obtain ⟨q20, hq20, hf⟩ := bd_some hf
  refine Ev.callV (o := 36) (M' := mi_X3_settle) (d' := d - 1) (As := []) (rest := []) (r' := (none, hp q20)) (e_X3_settle (d := d - 1) (by omega) 36 s _ hq20) (by omega) wm_X3_settle wi_X3_settle wv_X3_settle km_9_388 (kc rfl rfl) (Nat.le_of_ble_eq_true rfl) rfl rfl rfl (Nat.le_of_ble_eq_true rfl) ⟨Nat.le_of_ble_eq_true rfl, Nat.le_of_ble_eq_true rfl⟩ (by decide +kernel) ?_
  show Ev l d mi_X9_takeImage 121 [some (.ref 0), none] [] (hp q20) 0 0 _
  refine Ev.blk (pc' := 125) [(.aload_n 0, 0, 0, 0), (.getfield 66, 0, 9, 8)] (by decide +kernel) ⟨kf_9_66, trivial⟩ rfl (And.intro (kc rfl rfl) (Exists.intro 56 (And.intro rfl (?_))))
  show Ev l d mi_X9_takeImage 125 [some (.ref 0), none] [.ref 56] (hp q20) 0 0 _
  obtain ⟨q21, hq21, hf⟩ := bd_some hf
  refine Ev.callV (o := 56) (M' := mi_X0_forget) (d' := d - 1) (As := []) (rest := []) (r' := (none, hp q21)) (e_X0_forget (d := d - 1) (by omega) q20 _ hq21) (by omega) wm_X0_forget wi_X0_forget wv_X0_forget km_9_126 (kc rfl rfl) (Nat.le_of_ble_eq_true rfl) rfl rfl rfl (Nat.le_of_ble_eq_true rfl) ⟨Nat.le_of_ble_eq_true rfl, Nat.le_of_ble_eq_true rfl⟩ (by decide +kernel) ?_
  show Ev l d mi_X9_takeImage 128 [some (.ref 0), none] [] (hp q21) 0 0 _
  cases hf
  exact Ev.vret rfl (by decide +kernel) (Nat.le_refl _) (Nat.le_refl _)
def f_X9_takeImage_j64 (s : ST) : Option (ST) := (f_X9_takeImage_L66 f_X9_takeImage_j114 fuel) (Int32.ofInt 0) s
set_option maxHeartbeats 2000000 in
set_option maxRecDepth 20000 in
theorem e_X9_takeImage_j64 {l : Launch} {d : Nat} (hd : 3 ≤ d) (s : ST) (r : ST) (hf : f_X9_takeImage_j64 s = some r) : Ev l d mi_X9_takeImage 64 [some (.ref 0), none] [] (hp s) 0 0 (none, hp r) := by
  unfold f_X9_takeImage_j64 at hf
  refine Ev.blk (pc' := 66) [(.iconst 0, 0, 0, 0), (.istore_n 1, 0, 0, 0)] (by decide +kernel) trivial rfl (And.intro (Nat.le_of_ble_eq_true rfl) (?_))
  show Ev l d mi_X9_takeImage 66 [some (.ref 0), some (.int (Int32.ofInt 0))] [] (hp s) 0 0 _
  exact (e_X9_takeImage_L66 hd f_X9_takeImage_j114 (e_X9_takeImage_j114 hd) fuel) (Int32.ofInt 0) s _ hf
def f_X9_takeImage (s : ST) : Option (ST) := (f_X7_pairAt (Int32.ofInt 0) s).bind (fun q1 => lt (uI q1.2 36 1 q1.1) (fun s2 => (f_X7_byteAt (Int32.ofInt 2) s2).bind (fun q3 => lt (uI q3.2 36 2 q3.1) (fun s4 => (f_X9_takeImage_L32 f_X9_takeImage_j64 fuel) (Int32.ofInt 0) s4))))
set_option maxHeartbeats 2000000 in
set_option maxRecDepth 20000 in
theorem e_X9_takeImage {l : Launch} {d : Nat} (hd : 3 ≤ d) (s : ST) (r : ST) (hf : f_X9_takeImage s = some r) : Cl l d mi_X9_takeImage [.ref 0] (hp s) (none, hp r) := by
  refine Ev.entry (by decide +kernel) rfl rfl ?_
  show Ev l d mi_X9_takeImage 0 [some (.ref 0), none] [] (hp s) 0 0 _
  unfold f_X9_takeImage at hf
  refine Ev.blk (pc' := 9) [(.aload_n 0, 0, 0, 0), (.getfield 56, 0, 9, 6), (.aload_n 0, 0, 0, 0), (.getfield 12, 0, 9, 0), (.iconst 0, 0, 0, 0)] (by decide +kernel) ⟨kf_9_56, ⟨kf_9_12, trivial⟩⟩ rfl (And.intro (kc rfl rfl) (Exists.intro 36 (And.intro rfl (And.intro (kc rfl rfl) (Exists.intro 1 (And.intro rfl (?_)))))))
  show Ev l d mi_X9_takeImage 9 [some (.ref 0), none] [.int (Int32.ofInt 0), .ref 1, .ref 36] (hp s) 0 0 _
  obtain ⟨q1, hq1, hf⟩ := bd_some hf
  refine Ev.callV (o := 1) (M' := mi_X7_pairAt) (d' := d - 1) (As := [.int (Int32.ofInt 0)]) (rest := [.ref 36]) (r' := (some (.int q1.1), hp q1.2)) (e_X7_pairAt (d := d - 1) (by omega) (Int32.ofInt 0) s _ hq1) (by omega) wm_X7_pairAt wi_X7_pairAt wv_X7_pairAt km_9_298 (kc rfl rfl) (Nat.le_of_ble_eq_true rfl) rfl rfl rfl (Nat.le_of_ble_eq_true rfl) ⟨Nat.le_of_ble_eq_true rfl, Nat.le_of_ble_eq_true rfl⟩ (by decide +kernel) ?_
  show Ev l d mi_X9_takeImage 12 [some (.ref 0), none] [.int q1.1, .ref 36] (hp q1.2) 0 0 _
  obtain ⟨s2, hs2, hf⟩ := lt_some hf
  refine Ev.blk (pc' := 24) [(.putfield 144, 0, 3, 1), (.aload_n 0, 0, 0, 0), (.getfield 56, 0, 9, 6), (.aload_n 0, 0, 0, 0), (.getfield 12, 0, 9, 0), (.iconst 2, 0, 0, 0)] (by decide +kernel) ⟨⟨kf_9_144, Or.inl rfl⟩, ⟨kf_9_56, ⟨kf_9_12, trivial⟩⟩⟩ rfl (And.intro (kc rfl rfl) (And.intro (kc rfl rfl) (Exists.intro 36 (And.intro rfl (And.intro (kc rfl rfl) (Exists.intro 1 (And.intro rfl (?_))))))))
  show Ev l d mi_X9_takeImage 24 [some (.ref 0), none] [.int (Int32.ofInt 2), .ref 1, .ref 36] (hp (uI q1.2 36 1 q1.1)) 0 0 _
  rw [← hs2]
  obtain ⟨q3, hq3, hf⟩ := bd_some hf
  refine Ev.callV (o := 1) (M' := mi_X7_byteAt) (d' := d - 1) (As := [.int (Int32.ofInt 2)]) (rest := [.ref 36]) (r' := (some (.int q3.1), hp q3.2)) (e_X7_byteAt (d := d - 1) (by omega) (Int32.ofInt 2) s2 _ hq3) (by omega) wm_X7_byteAt wi_X7_byteAt wv_X7_byteAt km_9_295 (kc rfl rfl) (Nat.le_of_ble_eq_true rfl) rfl rfl rfl (Nat.le_of_ble_eq_true rfl) ⟨Nat.le_of_ble_eq_true rfl, Nat.le_of_ble_eq_true rfl⟩ (by decide +kernel) ?_
  show Ev l d mi_X9_takeImage 27 [some (.ref 0), none] [.int q3.1, .ref 36] (hp q3.2) 0 0 _
  obtain ⟨s4, hs4, hf⟩ := lt_some hf
  refine Ev.blk (pc' := 32) [(.putfield 147, 0, 3, 2), (.iconst 0, 0, 0, 0), (.istore_n 1, 0, 0, 0)] (by decide +kernel) ⟨⟨kf_9_147, Or.inl rfl⟩, trivial⟩ rfl (And.intro (kc rfl rfl) (And.intro (Nat.le_of_ble_eq_true rfl) (?_)))
  show Ev l d mi_X9_takeImage 32 [some (.ref 0), some (.int (Int32.ofInt 0))] [] (hp (uI q3.2 36 2 q3.1)) 0 0 _
  rw [← hs4]
  exact (e_X9_takeImage_L32 hd f_X9_takeImage_j64 (e_X9_takeImage_j64 hd) fuel) (Int32.ofInt 0) s4 _ hf
def f_X9_on_j45 (x1 : Int32) (s : ST) : Option (Int32 × ST) := lt (uI s 1 1 (Int32.ofInt 0)) (fun s10 => gd (nb x1) (some (x1, s10)))
set_option maxHeartbeats 2000000 in
set_option maxRecDepth 20000 in
theorem e_X9_on_j45 {l : Launch} {d : Nat} (hd : 4 ≤ d) (x1 : Int32) (s : ST) (r : Int32 × ST) (hf : f_X9_on_j45 x1 s = some r) : Ev l d mi_X9_on 45 [some (.ref 0), some (.int x1)] [] (hp s) 0 0 (some (.int r.1), hp r.2) := by
  unfold f_X9_on_j45 at hf
  obtain ⟨s10, hs10, hf⟩ := lt_some hf
  refine Ev.blk (pc' := 54) [(.aload_n 0, 0, 0, 0), (.getfield 12, 0, 9, 0), (.iconst 0, 0, 0, 0), (.putfield 105, 0, 7, 1), (.iload_n 1, 0, 0, 0)] (by decide +kernel) ⟨kf_9_12, ⟨⟨kf_9_105, Or.inl rfl⟩, trivial⟩⟩ rfl (And.intro (kc rfl rfl) (Exists.intro 1 (And.intro rfl (And.intro (kc rfl rfl) (?_)))))
  show Ev l d mi_X9_on 54 [some (.ref 0), some (.int x1)] [.int x1] (hp (uI s 1 1 (Int32.ofInt 0))) 0 0 _
  rw [← hs10]
  obtain ⟨c11, hf⟩ := gd_some hf
  cases hf
  exact Ev.iret .boolean rfl (nb_ok c11) (by decide +kernel) (Nat.le_refl _) (Nat.le_refl _)
def f_X9_on_j27 (y0 : Int32) (s : ST) : Option (Int32 × ST) := (if y0 = 0 then (f_X9_refuse (Int32.ofInt 5) s).bind (fun q8 => f_X9_on_j45 y0 q8.2) else (f_X9_takeImage s).bind (fun q9 => f_X9_on_j45 y0 q9))
set_option maxHeartbeats 2000000 in
set_option maxRecDepth 20000 in
theorem e_X9_on_j27 {l : Launch} {d : Nat} (hd : 4 ≤ d) (y0 : Int32) (s : ST) (r : Int32 × ST) (hf : f_X9_on_j27 y0 s = some r) : Ev l d mi_X9_on 27 [some (.ref 0), none] [.int y0] (hp s) 0 0 (some (.int r.1), hp r.2) := by
  unfold f_X9_on_j27 at hf
  refine Ev.blk (pc' := 29) [(.istore_n 1, 0, 0, 0), (.iload_n 1, 0, 0, 0)] (by decide +kernel) trivial rfl (And.intro (Nat.le_of_ble_eq_true rfl) (?_))
  show Ev l d mi_X9_on 29 [some (.ref 0), some (.int y0)] [.int y0] (hp s) 0 0 _
  refine Ev.if_eq (off := 10) (tgt := 39) (by decide +kernel) (by decide) (fun b7 => ?_) (fun b7 => ?_)
  · have hf := (if_pos b7).symm.trans hf
    refine Ev.blk (pc' := 41) [(.aload_n 0, 0, 0, 0), (.iconst 5, 0, 0, 0)] (by decide +kernel) trivial rfl (?_)
    show Ev l d mi_X9_on 41 [some (.ref 0), some (.int y0)] [.int (Int32.ofInt 5), .ref 0] (hp s) 0 0 _
    obtain ⟨q8, hq8, hf⟩ := bd_some hf
    refine Ev.callV (o := 0) (M' := mi_X9_refuse) (d' := d - 1) (As := [.int (Int32.ofInt 5)]) (rest := []) (r' := (some (.int q8.1), hp q8.2)) (e_X9_refuse (d := d - 1) (by omega) (Int32.ofInt 5) s _ hq8) (by omega) wm_X9_refuse wi_X9_refuse wv_X9_refuse km_9_108 (kc rfl rfl) (Nat.le_of_ble_eq_true rfl) rfl rfl rfl (Nat.le_of_ble_eq_true rfl) ⟨Nat.le_of_ble_eq_true rfl, Nat.le_of_ble_eq_true rfl⟩ (by decide +kernel) ?_
    show Ev l d mi_X9_on 44 [some (.ref 0), some (.int y0)] [.int q8.1] (hp q8.2) 0 0 _
    refine Ev.blk (pc' := 45) [(.pop, 0, 0, 0)] (by decide +kernel) trivial rfl (And.intro rfl (?_))
    show Ev l d mi_X9_on 45 [some (.ref 0), some (.int y0)] [] (hp q8.2) 0 0 _
    exact (e_X9_on_j45 hd) y0 q8.2 _ hf
  · have hf := (if_neg b7).symm.trans hf
    refine Ev.blk (pc' := 33) [(.aload_n 0, 0, 0, 0)] (by decide +kernel) trivial rfl (?_)
    show Ev l d mi_X9_on 33 [some (.ref 0), some (.int y0)] [.ref 0] (hp s) 0 0 _
    obtain ⟨q9, hq9, hf⟩ := bd_some hf
    refine Ev.callV (o := 0) (M' := mi_X9_takeImage) (d' := d - 1) (As := []) (rest := []) (r' := (none, hp q9)) (e_X9_takeImage (d := d - 1) (by omega) s _ hq9) (by omega) wm_X9_takeImage wi_X9_takeImage wv_X9_takeImage km_9_349 (kc rfl rfl) (Nat.le_of_ble_eq_true rfl) rfl rfl rfl (Nat.le_of_ble_eq_true rfl) ⟨Nat.le_of_ble_eq_true rfl, Nat.le_of_ble_eq_true rfl⟩ (by decide +kernel) ?_
    show Ev l d mi_X9_on 36 [some (.ref 0), some (.int y0)] [] (hp q9) 0 0 _
    refine Ev.goto (off := 9) (tgt := 45) (by decide +kernel) (by decide) ?_
    exact (e_X9_on_j45 hd) y0 q9 _ hf
def f_X9_on_j26 (s : ST) : Option (Int32 × ST) := f_X9_on_j27 (Int32.ofInt 0) s
set_option maxHeartbeats 2000000 in
set_option maxRecDepth 20000 in
theorem e_X9_on_j26 {l : Launch} {d : Nat} (hd : 4 ≤ d) (s : ST) (r : Int32 × ST) (hf : f_X9_on_j26 s = some r) : Ev l d mi_X9_on 26 [some (.ref 0), none] [] (hp s) 0 0 (some (.int r.1), hp r.2) := by
  unfold f_X9_on_j26 at hf
  refine Ev.blk (pc' := 27) [(.iconst 0, 0, 0, 0)] (by decide +kernel) trivial rfl (?_)
  show Ev l d mi_X9_on 27 [some (.ref 0), none] [.int (Int32.ofInt 0)] (hp s) 0 0 _
  exact (e_X9_on_j27 hd) (Int32.ofInt 0) s _ hf
def f_X9_on (s : ST) : Option (Int32 × ST) := (f_X9_isTold s).bind (fun q1 => (if q1.1 = 0 then f_X9_on_j26 q1.2 else (f_X9_isImage q1.2).bind (fun q3 => (if q3.1 = 0 then f_X9_on_j26 q3.2 else (f_X9_readPlaces (Int32.ofInt 3) q3.2).bind (fun q5 => (if q5.1 = 0 then f_X9_on_j26 q5.2 else f_X9_on_j27 (Int32.ofInt 1) q5.2))))))
set_option maxHeartbeats 2000000 in
set_option maxRecDepth 20000 in
theorem e_X9_on {l : Launch} {d : Nat} (hd : 4 ≤ d) (s : ST) (r : Int32 × ST) (hf : f_X9_on s = some r) : Cl l d mi_X9_on [.ref 0] (hp s) (some (.int r.1), hp r.2) := by
  refine Ev.entry (by decide +kernel) rfl rfl ?_
  show Ev l d mi_X9_on 0 [some (.ref 0), none] [] (hp s) 0 0 _
  unfold f_X9_on at hf
  refine Ev.blk (pc' := 1) [(.aload_n 0, 0, 0, 0)] (by decide +kernel) trivial rfl (?_)
  show Ev l d mi_X9_on 1 [some (.ref 0), none] [.ref 0] (hp s) 0 0 _
  obtain ⟨q1, hq1, hf⟩ := bd_some hf
  refine Ev.callV (o := 0) (M' := mi_X9_isTold) (d' := d - 1) (As := []) (rest := []) (r' := (some (.int q1.1), hp q1.2)) (e_X9_isTold (d := d - 1) (by omega) s _ hq1) (by omega) wm_X9_isTold wi_X9_isTold wv_X9_isTold km_9_150 (kc rfl rfl) (Nat.le_of_ble_eq_true rfl) rfl rfl rfl (Nat.le_of_ble_eq_true rfl) ⟨Nat.le_of_ble_eq_true rfl, Nat.le_of_ble_eq_true rfl⟩ (by decide +kernel) ?_
  show Ev l d mi_X9_on 4 [some (.ref 0), none] [.int q1.1] (hp q1.2) 0 0 _
  refine Ev.if_eq (off := 22) (tgt := 26) (by decide +kernel) (by decide) (fun b2 => ?_) (fun b2 => ?_)
  · have hf := (if_pos b2).symm.trans hf
    exact (e_X9_on_j26 hd) q1.2 _ hf
  · have hf := (if_neg b2).symm.trans hf
    refine Ev.blk (pc' := 8) [(.aload_n 0, 0, 0, 0)] (by decide +kernel) trivial rfl (?_)
    show Ev l d mi_X9_on 8 [some (.ref 0), none] [.ref 0] (hp q1.2) 0 0 _
    obtain ⟨q3, hq3, hf⟩ := bd_some hf
    refine Ev.callV (o := 0) (M' := mi_X9_isImage) (d' := d - 1) (As := []) (rest := []) (r' := (some (.int q3.1), hp q3.2)) (e_X9_isImage (d := d - 1) (by omega) q1.2 _ hq3) (by omega) wm_X9_isImage wi_X9_isImage wv_X9_isImage km_9_346 (kc rfl rfl) (Nat.le_of_ble_eq_true rfl) rfl rfl rfl (Nat.le_of_ble_eq_true rfl) ⟨Nat.le_of_ble_eq_true rfl, Nat.le_of_ble_eq_true rfl⟩ (by decide +kernel) ?_
    show Ev l d mi_X9_on 11 [some (.ref 0), none] [.int q3.1] (hp q3.2) 0 0 _
    refine Ev.if_eq (off := 15) (tgt := 26) (by decide +kernel) (by decide) (fun b4 => ?_) (fun b4 => ?_)
    · have hf := (if_pos b4).symm.trans hf
      exact (e_X9_on_j26 hd) q3.2 _ hf
    · have hf := (if_neg b4).symm.trans hf
      refine Ev.blk (pc' := 16) [(.aload_n 0, 0, 0, 0), (.iconst 3, 0, 0, 0)] (by decide +kernel) trivial rfl (?_)
      show Ev l d mi_X9_on 16 [some (.ref 0), none] [.int (Int32.ofInt 3), .ref 0] (hp q3.2) 0 0 _
      obtain ⟨q5, hq5, hf⟩ := bd_some hf
      refine Ev.callV (o := 0) (M' := mi_X9_readPlaces) (d' := d - 1) (As := [.int (Int32.ofInt 3)]) (rest := []) (r' := (some (.int q5.1), hp q5.2)) (e_X9_readPlaces (d := d - 1) (by omega) (Int32.ofInt 3) q3.2 _ hq5) (by omega) wm_X9_readPlaces wi_X9_readPlaces wv_X9_readPlaces km_9_304 (kc rfl rfl) (Nat.le_of_ble_eq_true rfl) rfl rfl rfl (Nat.le_of_ble_eq_true rfl) ⟨Nat.le_of_ble_eq_true rfl, Nat.le_of_ble_eq_true rfl⟩ (by decide +kernel) ?_
      show Ev l d mi_X9_on 19 [some (.ref 0), none] [.int q5.1] (hp q5.2) 0 0 _
      refine Ev.if_eq (off := 7) (tgt := 26) (by decide +kernel) (by decide) (fun b6 => ?_) (fun b6 => ?_)
      · have hf := (if_pos b6).symm.trans hf
        exact (e_X9_on_j26 hd) q5.2 _ hf
      · have hf := (if_neg b6).symm.trans hf
        refine Ev.blk (pc' := 23) [(.iconst 1, 0, 0, 0)] (by decide +kernel) trivial rfl (?_)
        show Ev l d mi_X9_on 23 [some (.ref 0), none] [.int (Int32.ofInt 1)] (hp q5.2) 0 0 _
        refine Ev.goto (off := 4) (tgt := 27) (by decide +kernel) (by decide) ?_
        exact (e_X9_on_j27 hd) (Int32.ofInt 1) q5.2 _ hf
def f_X9_status (p0 : Int32) (s : ST) : Option (Int32 × ST) := (if p0 < 0 then some ((Int32.ofInt (-1)), s) else (if (Int32.ofNat 6) ≤ p0 then some ((Int32.ofInt (-1)), s) else gd (ib p0 6) (some ((s.1 61 p0.toNatClampNeg), s))))
set_option maxHeartbeats 2000000 in
set_option maxRecDepth 20000 in
theorem e_X9_status {l : Launch} {d : Nat} (hd : 1 ≤ d) (p0 : Int32) (s : ST) (r : Int32 × ST) (hf : f_X9_status p0 s = some r) : Cl l d mi_X9_status [.ref 0, .int p0] (hp s) (some (.int r.1), hp r.2) := by
  refine Ev.entry (by decide +kernel) rfl rfl ?_
  show Ev l d mi_X9_status 0 [some (.ref 0), some (.int p0)] [] (hp s) 0 0 _
  unfold f_X9_status at hf
  refine Ev.blk (pc' := 1) [(.iload_n 1, 0, 0, 0)] (by decide +kernel) trivial rfl (?_)
  show Ev l d mi_X9_status 1 [some (.ref 0), some (.int p0)] [.int p0] (hp s) 0 0 _
  refine Ev.if_lt (off := 21) (tgt := 22) (by decide +kernel) (by decide) (fun b1 => ?_) (fun b1 => ?_)
  · have hf := (if_pos b1).symm.trans hf
    refine Ev.blk (pc' := 23) [(.iconst (-1), 0, 0, 0)] (by decide +kernel) trivial rfl (?_)
    show Ev l d mi_X9_status 23 [some (.ref 0), some (.int p0)] [.int (Int32.ofInt (-1))] (hp s) 0 0 _
    cases hf
    exact Ev.iret .int rfl rfl (by decide +kernel) (Nat.le_refl _) (Nat.le_refl _)
  · have hf := (if_neg b1).symm.trans hf
    refine Ev.blk (pc' := 10) [(.iload_n 1, 0, 0, 0), (.aload_n 0, 0, 0, 0), (.getfield 90, 0, 9, 15), (.arraylength, 0, 0, 0)] (by decide +kernel) ⟨kf_9_90, trivial⟩ rfl (And.intro (kc rfl rfl) (Exists.intro 61 (And.intro rfl (And.intro (kl rfl rfl rfl) (?_)))))
    show Ev l d mi_X9_status 10 [some (.ref 0), some (.int p0)] [.int (Int32.ofNat 6), .int p0] (hp s) 0 0 _
    refine Ev.icmp_ge (off := 12) (tgt := 22) (by decide +kernel) (by decide) (fun b2 => ?_) (fun b2 => ?_)
    · have hf := (if_pos b2).symm.trans hf
      refine Ev.blk (pc' := 23) [(.iconst (-1), 0, 0, 0)] (by decide +kernel) trivial rfl (?_)
      show Ev l d mi_X9_status 23 [some (.ref 0), some (.int p0)] [.int (Int32.ofInt (-1))] (hp s) 0 0 _
      cases hf
      exact Ev.iret .int rfl rfl (by decide +kernel) (Nat.le_refl _) (Nat.le_refl _)
    · have hf := (if_neg b2).symm.trans hf
      obtain ⟨c3, hf⟩ := gd_some hf
      refine Ev.blk (pc' := 19) [(.aload_n 0, 0, 0, 0), (.getfield 90, 0, 9, 15), (.iload_n 1, 0, 0, 0), (.iaload, 0, 0, 0)] (by decide +kernel) ⟨kf_9_90, trivial⟩ rfl (And.intro (kc rfl rfl) (Exists.intro 61 (And.intro rfl (And.intro (kc rfl rfl) (And.intro (ib_ok c3) (?_))))))
      show Ev l d mi_X9_status 19 [some (.ref 0), some (.int p0)] [.int (s.1 61 p0.toNatClampNeg)] (hp s) 0 0 _
      refine Ev.goto (off := 4) (tgt := 23) (by decide +kernel) (by decide) ?_
      cases hf
      exact Ev.iret .int rfl rfl (by decide +kernel) (Nat.le_refl _) (Nat.le_refl _)
