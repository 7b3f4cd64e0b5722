/-! THE CONSTRUCTORS, run concretely by program (wip/tracer.py) -/
def hc_0 : SH := (0, fun _ => (99, 0), fun _ _ => 0, fun _ _ => 0, fun _ _ => none)
def hc_1 : SH := sm_new hc_0 9 0
def hc_2 : SH := sm_new hc_1 7 0
def hc_3 : SH := sm_new hc_2 11 1600
def hc_4 : SH := (sm_I (sm_R hc_3 1 0 (some 2)) 1 1 0)
set_option maxHeartbeats 4000000 in
set_option maxRecDepth 40000 in
theorem tr_1_X7_init {l : Launch} {d : Nat} (hd : 1 ≤ d) : Cl l d mi_X7_init [.ref 1] hc_2 (none, hc_4) := by
  refine Ev.entry (by decide +kernel) rfl rfl ?_
  show Ev l d mi_X7_init 0 [some (.ref 1)] [] hc_2 0 0 _
  refine Ev.blk (pc' := 1) [(.aload_n 0, 0, 0, 0)] (by decide +kernel) trivial rfl (?_)
  show Ev l d mi_X7_init 1 [some (.ref 1)] [.ref 1] hc_2 0 0 _
  refine Ev.objInit ko_7_3 woi1 woi2 (Nat.le_of_ble_eq_true rfl) (by omega) (Nat.le_of_ble_eq_true rfl) (by decide +kernel) ?_
  show Ev l d mi_X7_init 4 [some (.ref 1)] [] hc_2 0 0 _
  refine Ev.blk (pc' := 8) [(.aload_n 0, 0, 0, 0), (.sipush 1600, 0, 0, 0)] (by decide +kernel) trivial rfl (?_)
  show Ev l d mi_X7_init 8 [some (.ref 1)] [.int 1600, .ref 1] hc_2 0 0 _
  refine Ev.newarray (at' := .byte) (c := 11) (ty := .byte) rfl (Or.inl ⟨rfl, rfl⟩) war_byte (by decide) (by decide) (Nat.le_of_ble_eq_true rfl) ⟨Nat.le_of_ble_eq_true rfl, Nat.le_of_ble_eq_true rfl⟩ (by decide +kernel) ?_
  show Ev l d mi_X7_init 10 [some (.ref 1)] [.ref 2, .ref 1] hc_3 1 1600 _
  refine Ev.blk (pc' := 18) [(.putfield 9, 0, 7, 0), (.aload_n 0, 0, 0, 0), (.iconst 0, 0, 0, 0), (.putfield 15, 0, 7, 1)] (by decide +kernel) ⟨⟨kf_7_9, Or.inr ⟨rfl, rfl, rfl⟩⟩, ⟨⟨kf_7_15, Or.inl rfl⟩, trivial⟩⟩ rfl (And.intro (kc rfl rfl) (And.intro (kc rfl rfl) (?_)))
  show Ev l d mi_X7_init 18 [some (.ref 1)] [] hc_4 1 1600 _
  exact Ev.vret rfl (by decide +kernel) (Nat.le_of_ble_eq_true rfl) (Nat.le_of_ble_eq_true rfl)
def hc_5 : SH := (sm_R hc_4 0 0 (some 1))
def hc_6 : SH := sm_new hc_5 5 0
def hc_7 : SH := (sm_R (sm_I (sm_I (sm_I (sm_I (sm_I (sm_I hc_6 3 1 0) 3 2 0) 3 3 0) 3 4 (-1)) 3 5 0) 3 6 (-1)) 3 0 (some 1))
set_option maxHeartbeats 4000000 in
set_option maxRecDepth 40000 in
theorem tr_2_X5_init {l : Launch} {d : Nat} (hd : 1 ≤ d) : Cl l d mi_X5_init [.ref 3, .ref 1] hc_6 (none, hc_7) := by
  refine Ev.entry (by decide +kernel) rfl rfl ?_
  show Ev l d mi_X5_init 0 [some (.ref 3), some (.ref 1)] [] hc_6 0 0 _
  refine Ev.blk (pc' := 1) [(.aload_n 0, 0, 0, 0)] (by decide +kernel) trivial rfl (?_)
  show Ev l d mi_X5_init 1 [some (.ref 3), some (.ref 1)] [.ref 3] hc_6 0 0 _
  refine Ev.objInit ko_5_3 woi1 woi2 (Nat.le_of_ble_eq_true rfl) (by omega) (Nat.le_of_ble_eq_true rfl) (by decide +kernel) ?_
  show Ev l d mi_X5_init 4 [some (.ref 3), some (.ref 1)] [] hc_6 0 0 _
  refine Ev.blk (pc' := 39) [(.aload_n 0, 0, 0, 0), (.iconst 0, 0, 0, 0), (.putfield 9, 0, 5, 1), (.aload_n 0, 0, 0, 0), (.iconst 0, 0, 0, 0), (.putfield 15, 0, 5, 2), (.aload_n 0, 0, 0, 0), (.iconst 0, 0, 0, 0), (.putfield 18, 0, 5, 3), (.aload_n 0, 0, 0, 0), (.iconst (-1), 0, 0, 0), (.putfield 21, 0, 5, 4), (.aload_n 0, 0, 0, 0), (.iconst 0, 0, 0, 0), (.putfield 24, 0, 5, 5), (.aload_n 0, 0, 0, 0), (.iconst (-1), 0, 0, 0), (.putfield 27, 0, 5, 6), (.aload_n 0, 0, 0, 0), (.aload_n 1, 0, 0, 0), (.putfield 30, 0, 5, 0)] (by decide +kernel) ⟨⟨kf_5_9, Or.inl rfl⟩, ⟨⟨kf_5_15, Or.inl rfl⟩, ⟨⟨kf_5_18, Or.inl rfl⟩, ⟨⟨kf_5_21, Or.inl rfl⟩, ⟨⟨kf_5_24, Or.inl rfl⟩, ⟨⟨kf_5_27, Or.inl rfl⟩, ⟨⟨kf_5_30, Or.inr ⟨rfl, rfl, rfl⟩⟩, trivial⟩⟩⟩⟩⟩⟩⟩ rfl (And.intro (kc rfl rfl) (And.intro (kc rfl rfl) (And.intro (kc rfl rfl) (And.intro (kc rfl rfl) (And.intro (kc rfl rfl) (And.intro (kc rfl rfl) (And.intro (kc rfl rfl) (?_))))))))
  show Ev l d mi_X5_init 39 [some (.ref 3), some (.ref 1)] [] hc_7 0 0 _
  exact Ev.vret rfl (by decide +kernel) (Nat.le_of_ble_eq_true rfl) (Nat.le_of_ble_eq_true rfl)
def hc_8 : SH := (sm_R hc_7 0 1 (some 3))
def hc_9 : SH := sm_new hc_8 8 0
def hc_10 : SH := (sm_R hc_9 4 0 (some 3))
def hc_11 : SH := sm_new hc_10 1 0
def hc_12 : SH := (sm_R (sm_I (sm_R hc_11 5 1 none) 5 2 0) 5 0 (some 3))
set_option maxHeartbeats 4000000 in
set_option maxRecDepth 40000 in
theorem tr_3_X1_init {l : Launch} {d : Nat} (hd : 1 ≤ d) : Cl l d mi_X1_init [.ref 5, .ref 3] hc_11 (none, hc_12) := by
  refine Ev.entry (by decide +kernel) rfl rfl ?_
  show Ev l d mi_X1_init 0 [some (.ref 5), some (.ref 3)] [] hc_11 0 0 _
  refine Ev.blk (pc' := 1) [(.aload_n 0, 0, 0, 0)] (by decide +kernel) trivial rfl (?_)
  show Ev l d mi_X1_init 1 [some (.ref 5), some (.ref 3)] [.ref 5] hc_11 0 0 _
  refine Ev.objInit ko_1_3 woi1 woi2 (Nat.le_of_ble_eq_true rfl) (by omega) (Nat.le_of_ble_eq_true rfl) (by decide +kernel) ?_
  show Ev l d mi_X1_init 4 [some (.ref 5), some (.ref 3)] [] hc_11 0 0 _
  refine Ev.blk (pc' := 5) [(.aload_n 0, 0, 0, 0)] (by decide +kernel) trivial rfl (?_)
  show Ev l d mi_X1_init 5 [some (.ref 5), some (.ref 3)] [.ref 5] hc_11 0 0 _
  refine Ev.aconst_null (by decide +kernel) ?_
  show Ev l d mi_X1_init 6 [some (.ref 5), some (.ref 3)] [.null, .ref 5] hc_11 0 0 _
  refine Ev.blk (pc' := 19) [(.putfield 9, 0, 1, 1), (.aload_n 0, 0, 0, 0), (.iconst 0, 0, 0, 0), (.putfield 15, 0, 1, 2), (.aload_n 0, 0, 0, 0), (.aload_n 1, 0, 0, 0), (.putfield 19, 0, 1, 0)] (by decide +kernel) ⟨⟨kf_1_9, Or.inl rfl⟩, ⟨⟨kf_1_15, Or.inl rfl⟩, ⟨⟨kf_1_19, Or.inr ⟨rfl, rfl, rfl⟩⟩, trivial⟩⟩⟩ rfl (And.intro (kc rfl rfl) (And.intro (kc rfl rfl) (And.intro (Or.inl rfl) (And.intro (kc rfl rfl) (?_)))))
  show Ev l d mi_X1_init 19 [some (.ref 5), some (.ref 3)] [] hc_12 0 0 _
  exact Ev.vret rfl (by decide +kernel) (Nat.le_of_ble_eq_true rfl) (Nat.le_of_ble_eq_true rfl)
def hc_13 : SH := (sm_R hc_12 4 1 (some 5))
set_option maxHeartbeats 4000000 in
set_option maxRecDepth 40000 in
theorem tr_4_X8_init {l : Launch} {d : Nat} (hd : 2 ≤ d) : Cl l d mi_X8_init [.ref 4, .ref 3] hc_9 (none, hc_13) := by
  refine Ev.entry (by decide +kernel) rfl rfl ?_
  show Ev l d mi_X8_init 0 [some (.ref 4), some (.ref 3)] [] hc_9 0 0 _
  refine Ev.blk (pc' := 1) [(.aload_n 0, 0, 0, 0)] (by decide +kernel) trivial rfl (?_)
  show Ev l d mi_X8_init 1 [some (.ref 4), some (.ref 3)] [.ref 4] hc_9 0 0 _
  refine Ev.objInit ko_8_3 woi1 woi2 (Nat.le_of_ble_eq_true rfl) (by omega) (Nat.le_of_ble_eq_true rfl) (by decide +kernel) ?_
  show Ev l d mi_X8_init 4 [some (.ref 4), some (.ref 3)] [] hc_9 0 0 _
  refine Ev.blk (pc' := 10) [(.aload_n 0, 0, 0, 0), (.aload_n 1, 0, 0, 0), (.putfield 9, 0, 8, 0), (.aload_n 0, 0, 0, 0)] (by decide +kernel) ⟨⟨kf_8_9, Or.inr ⟨rfl, rfl, rfl⟩⟩, trivial⟩ rfl (And.intro (kc rfl rfl) (?_))
  show Ev l d mi_X8_init 10 [some (.ref 4), some (.ref 3)] [.ref 4] hc_10 0 0 _
  refine Ev.new (c := 1) (Nat.le_of_ble_eq_true rfl) kx_8_15 kq_1 wini_1 (Nat.le_of_ble_eq_true rfl) ⟨Nat.le_of_ble_eq_true rfl, Nat.le_of_ble_eq_true rfl⟩ (by decide +kernel) ?_
  show Ev l d mi_X8_init 13 [some (.ref 4), some (.ref 3)] [.ref 5, .ref 4] hc_11 1 3 _
  refine Ev.blk (pc' := 15) [(.dup, 0, 0, 0), (.aload_n 1, 0, 0, 0)] (by decide +kernel) trivial rfl (And.intro rfl (?_))
  show Ev l d mi_X8_init 15 [some (.ref 4), some (.ref 3)] [.ref 3, .ref 5, .ref 5, .ref 4] hc_11 1 3 _
  refine Ev.callI (M' := mi_X1_init) (o := 5) (d' := d - 1) (As := [.ref 3]) (rest := [.ref 5, .ref 4]) (r' := hc_12) (tr_3_X1_init (d := d - 1) (by omega)) (by omega) wm_X1_init rfl rfl wi_X1_init km_8_17 (Nat.le_of_ble_eq_true rfl) rfl rfl rfl (Nat.le_of_ble_eq_true rfl) ⟨Nat.le_of_ble_eq_true rfl, Nat.le_of_ble_eq_true rfl⟩ (by decide +kernel) ?_
  show Ev l d mi_X8_init 18 [some (.ref 4), some (.ref 3)] [.ref 5, .ref 4] hc_12 1 3 _
  refine Ev.blk (pc' := 21) [(.putfield 20, 0, 8, 1)] (by decide +kernel) ⟨⟨kf_8_20, Or.inr ⟨rfl, rfl, rfl⟩⟩, trivial⟩ rfl (And.intro (kc rfl rfl) (?_))
  show Ev l d mi_X8_init 21 [some (.ref 4), some (.ref 3)] [] hc_13 1 3 _
  exact Ev.vret rfl (by decide +kernel) (Nat.le_of_ble_eq_true rfl) (Nat.le_of_ble_eq_true rfl)
def hc_14 : SH := (sm_R hc_13 0 2 (some 4))
def hc_15 : SH := sm_new hc_14 4 0
def hc_16 : SH := (sm_I (sm_I hc_15 6 0 0) 6 1 0)
def hc_17 : SH := sm_new hc_16 13 2
def hc_18 : SH := (sm_I (sm_R hc_17 6 2 (some 7)) 6 3 0)
def hc_19 : SH := sm_new hc_18 13 5
def hc_20 : SH := (sm_R hc_19 6 4 (some 8))
def hc_21 : SH := sm_new hc_20 13 5
def hc_22 : SH := (sm_R hc_21 6 5 (some 9))
def hc_23 : SH := sm_new hc_22 13 5
def hc_24 : SH := (sm_R hc_23 6 6 (some 10))
def hc_25 : SH := sm_new hc_24 13 5
def hc_26 : SH := (sm_I (sm_R hc_25 6 7 (some 11)) 6 8 0)
def hc_27 : SH := sm_new hc_26 13 8
def hc_28 : SH := (sm_R hc_27 6 9 (some 12))
def hc_29 : SH := sm_new hc_28 13 8
def hc_30 : SH := (sm_R hc_29 6 10 (some 13))
def hc_31 : SH := sm_new hc_30 13 8
def hc_32 : SH := (sm_I (sm_R hc_31 6 11 (some 14)) 6 12 0)
def hc_33 : SH := sm_new hc_32 13 6
def hc_34 : SH := (sm_R hc_33 6 13 (some 15))
def hc_35 : SH := sm_new hc_34 13 6
def hc_36 : SH := (sm_R hc_35 6 14 (some 16))
def hc_37 : SH := sm_new hc_36 13 19
def hc_38 : SH := (sm_R hc_37 6 15 (some 17))
def hc_39 : SH := sm_new hc_38 2 0
def hc_40 : SH := sm_new hc_39 13 1600
def hc_41 : SH := (sm_I (sm_R hc_40 18 0 (some 19)) 18 1 0)
set_option maxHeartbeats 4000000 in
set_option maxRecDepth 40000 in
theorem tr_5_X2_init {l : Launch} {d : Nat} (hd : 1 ≤ d) : Cl l d mi_X2_init [.ref 18] hc_39 (none, hc_41) := by
  refine Ev.entry (by decide +kernel) rfl rfl ?_
  show Ev l d mi_X2_init 0 [some (.ref 18)] [] hc_39 0 0 _
  refine Ev.blk (pc' := 1) [(.aload_n 0, 0, 0, 0)] (by decide +kernel) trivial rfl (?_)
  show Ev l d mi_X2_init 1 [some (.ref 18)] [.ref 18] hc_39 0 0 _
  refine Ev.objInit ko_2_3 woi1 woi2 (Nat.le_of_ble_eq_true rfl) (by omega) (Nat.le_of_ble_eq_true rfl) (by decide +kernel) ?_
  show Ev l d mi_X2_init 4 [some (.ref 18)] [] hc_39 0 0 _
  refine Ev.blk (pc' := 8) [(.aload_n 0, 0, 0, 0), (.sipush 1600, 0, 0, 0)] (by decide +kernel) trivial rfl (?_)
  show Ev l d mi_X2_init 8 [some (.ref 18)] [.int 1600, .ref 18] hc_39 0 0 _
  refine Ev.newarray (at' := .int) (c := 13) (ty := .int) rfl (Or.inr (Or.inr ⟨rfl, rfl⟩)) war_int (by decide) (by decide) (Nat.le_of_ble_eq_true rfl) ⟨Nat.le_of_ble_eq_true rfl, Nat.le_of_ble_eq_true rfl⟩ (by decide +kernel) ?_
  show Ev l d mi_X2_init 10 [some (.ref 18)] [.ref 19, .ref 18] hc_40 1 1600 _
  refine Ev.blk (pc' := 18) [(.putfield 9, 0, 2, 0), (.aload_n 0, 0, 0, 0), (.iconst 0, 0, 0, 0), (.putfield 15, 0, 2, 1)] (by decide +kernel) ⟨⟨kf_2_9, Or.inr ⟨rfl, rfl, rfl⟩⟩, ⟨⟨kf_2_15, Or.inl rfl⟩, trivial⟩⟩ rfl (And.intro (kc rfl rfl) (And.intro (kc rfl rfl) (?_)))
  show Ev l d mi_X2_init 18 [some (.ref 18)] [] hc_41 1 1600 _
  exact Ev.vret rfl (by decide +kernel) (Nat.le_of_ble_eq_true rfl) (Nat.le_of_ble_eq_true rfl)
def hc_42 : SH := (sm_I (sm_I (sm_I (sm_R hc_41 6 16 (some 18)) 6 17 0) 6 18 0) 6 19 0)
set_option maxHeartbeats 4000000 in
set_option maxRecDepth 40000 in
theorem tr_6_X4_init {l : Launch} {d : Nat} (hd : 2 ≤ d) : Cl l d mi_X4_init [.ref 6] hc_15 (none, hc_42) := by
  refine Ev.entry (by decide +kernel) rfl rfl ?_
  show Ev l d mi_X4_init 0 [some (.ref 6)] [] hc_15 0 0 _
  refine Ev.blk (pc' := 1) [(.aload_n 0, 0, 0, 0)] (by decide +kernel) trivial rfl (?_)
  show Ev l d mi_X4_init 1 [some (.ref 6)] [.ref 6] hc_15 0 0 _
  refine Ev.objInit ko_4_3 woi1 woi2 (Nat.le_of_ble_eq_true rfl) (by omega) (Nat.le_of_ble_eq_true rfl) (by decide +kernel) ?_
  show Ev l d mi_X4_init 4 [some (.ref 6)] [] hc_15 0 0 _
  refine Ev.blk (pc' := 16) [(.aload_n 0, 0, 0, 0), (.iconst 0, 0, 0, 0), (.putfield 9, 0, 4, 0), (.aload_n 0, 0, 0, 0), (.iconst 0, 0, 0, 0), (.putfield 15, 0, 4, 1), (.aload_n 0, 0, 0, 0), (.iconst 2, 0, 0, 0)] (by decide +kernel) ⟨⟨kf_4_9, Or.inl rfl⟩, ⟨⟨kf_4_15, Or.inl rfl⟩, trivial⟩⟩ rfl (And.intro (kc rfl rfl) (And.intro (kc rfl rfl) (?_)))
  show Ev l d mi_X4_init 16 [some (.ref 6)] [.int 2, .ref 6] hc_16 0 0 _
  refine Ev.newarray (at' := .int) (c := 13) (ty := .int) rfl (Or.inr (Or.inr ⟨rfl, rfl⟩)) war_int (by decide) (by decide) (Nat.le_of_ble_eq_true rfl) ⟨Nat.le_of_ble_eq_true rfl, Nat.le_of_ble_eq_true rfl⟩ (by decide +kernel) ?_
  show Ev l d mi_X4_init 18 [some (.ref 6)] [.ref 7, .ref 6] hc_17 1 2 _
  refine Ev.blk (pc' := 28) [(.putfield 18, 0, 4, 2), (.aload_n 0, 0, 0, 0), (.iconst 0, 0, 0, 0), (.putfield 22, 0, 4, 3), (.aload_n 0, 0, 0, 0), (.iconst 5, 0, 0, 0)] (by decide +kernel) ⟨⟨kf_4_18, Or.inr ⟨rfl, rfl, rfl⟩⟩, ⟨⟨kf_4_22, Or.inl rfl⟩, trivial⟩⟩ rfl (And.intro (kc rfl rfl) (And.intro (kc rfl rfl) (?_)))
  show Ev l d mi_X4_init 28 [some (.ref 6)] [.int 5, .ref 6] hc_18 1 2 _
  refine Ev.newarray (at' := .int) (c := 13) (ty := .int) rfl (Or.inr (Or.inr ⟨rfl, rfl⟩)) war_int (by decide) (by decide) (Nat.le_of_ble_eq_true rfl) ⟨Nat.le_of_ble_eq_true rfl, Nat.le_of_ble_eq_true rfl⟩ (by decide +kernel) ?_
  show Ev l d mi_X4_init 30 [some (.ref 6)] [.ref 8, .ref 6] hc_19 2 7 _
  refine Ev.blk (pc' := 35) [(.putfield 25, 0, 4, 4), (.aload_n 0, 0, 0, 0), (.iconst 5, 0, 0, 0)] (by decide +kernel) ⟨⟨kf_4_25, Or.inr ⟨rfl, rfl, rfl⟩⟩, trivial⟩ rfl (And.intro (kc rfl rfl) (?_))
  show Ev l d mi_X4_init 35 [some (.ref 6)] [.int 5, .ref 6] hc_20 2 7 _
  refine Ev.newarray (at' := .int) (c := 13) (ty := .int) rfl (Or.inr (Or.inr ⟨rfl, rfl⟩)) war_int (by decide) (by decide) (Nat.le_of_ble_eq_true rfl) ⟨Nat.le_of_ble_eq_true rfl, Nat.le_of_ble_eq_true rfl⟩ (by decide +kernel) ?_
  show Ev l d mi_X4_init 37 [some (.ref 6)] [.ref 9, .ref 6] hc_21 3 12 _
  refine Ev.blk (pc' := 42) [(.putfield 28, 0, 4, 5), (.aload_n 0, 0, 0, 0), (.iconst 5, 0, 0, 0)] (by decide +kernel) ⟨⟨kf_4_28, Or.inr ⟨rfl, rfl, rfl⟩⟩, trivial⟩ rfl (And.intro (kc rfl rfl) (?_))
  show Ev l d mi_X4_init 42 [some (.ref 6)] [.int 5, .ref 6] hc_22 3 12 _
  refine Ev.newarray (at' := .int) (c := 13) (ty := .int) rfl (Or.inr (Or.inr ⟨rfl, rfl⟩)) war_int (by decide) (by decide) (Nat.le_of_ble_eq_true rfl) ⟨Nat.le_of_ble_eq_true rfl, Nat.le_of_ble_eq_true rfl⟩ (by decide +kernel) ?_
  show Ev l d mi_X4_init 44 [some (.ref 6)] [.ref 10, .ref 6] hc_23 4 17 _
  refine Ev.blk (pc' := 49) [(.putfield 31, 0, 4, 6), (.aload_n 0, 0, 0, 0), (.iconst 5, 0, 0, 0)] (by decide +kernel) ⟨⟨kf_4_31, Or.inr ⟨rfl, rfl, rfl⟩⟩, trivial⟩ rfl (And.intro (kc rfl rfl) (?_))
  show Ev l d mi_X4_init 49 [some (.ref 6)] [.int 5, .ref 6] hc_24 4 17 _
  refine Ev.newarray (at' := .int) (c := 13) (ty := .int) rfl (Or.inr (Or.inr ⟨rfl, rfl⟩)) war_int (by decide) (by decide) (Nat.le_of_ble_eq_true rfl) ⟨Nat.le_of_ble_eq_true rfl, Nat.le_of_ble_eq_true rfl⟩ (by decide +kernel) ?_
  show Ev l d mi_X4_init 51 [some (.ref 6)] [.ref 11, .ref 6] hc_25 5 22 _
  refine Ev.blk (pc' := 62) [(.putfield 34, 0, 4, 7), (.aload_n 0, 0, 0, 0), (.iconst 0, 0, 0, 0), (.putfield 37, 0, 4, 8), (.aload_n 0, 0, 0, 0), (.bipush 8, 0, 0, 0)] (by decide +kernel) ⟨⟨kf_4_34, Or.inr ⟨rfl, rfl, rfl⟩⟩, ⟨⟨kf_4_37, Or.inl rfl⟩, trivial⟩⟩ rfl (And.intro (kc rfl rfl) (And.intro (kc rfl rfl) (?_)))
  show Ev l d mi_X4_init 62 [some (.ref 6)] [.int 8, .ref 6] hc_26 5 22 _
  refine Ev.newarray (at' := .int) (c := 13) (ty := .int) rfl (Or.inr (Or.inr ⟨rfl, rfl⟩)) war_int (by decide) (by decide) (Nat.le_of_ble_eq_true rfl) ⟨Nat.le_of_ble_eq_true rfl, Nat.le_of_ble_eq_true rfl⟩ (by decide +kernel) ?_
  show Ev l d mi_X4_init 64 [some (.ref 6)] [.ref 12, .ref 6] hc_27 6 30 _
  refine Ev.blk (pc' := 70) [(.putfield 40, 0, 4, 9), (.aload_n 0, 0, 0, 0), (.bipush 8, 0, 0, 0)] (by decide +kernel) ⟨⟨kf_4_40, Or.inr ⟨rfl, rfl, rfl⟩⟩, trivial⟩ rfl (And.intro (kc rfl rfl) (?_))
  show Ev l d mi_X4_init 70 [some (.ref 6)] [.int 8, .ref 6] hc_28 6 30 _
  refine Ev.newarray (at' := .int) (c := 13) (ty := .int) rfl (Or.inr (Or.inr ⟨rfl, rfl⟩)) war_int (by decide) (by decide) (Nat.le_of_ble_eq_true rfl) ⟨Nat.le_of_ble_eq_true rfl, Nat.le_of_ble_eq_true rfl⟩ (by decide +kernel) ?_
  show Ev l d mi_X4_init 72 [some (.ref 6)] [.ref 13, .ref 6] hc_29 7 38 _
  refine Ev.blk (pc' := 78) [(.putfield 43, 0, 4, 10), (.aload_n 0, 0, 0, 0), (.bipush 8, 0, 0, 0)] (by decide +kernel) ⟨⟨kf_4_43, Or.inr ⟨rfl, rfl, rfl⟩⟩, trivial⟩ rfl (And.intro (kc rfl rfl) (?_))
  show Ev l d mi_X4_init 78 [some (.ref 6)] [.int 8, .ref 6] hc_30 7 38 _
  refine Ev.newarray (at' := .int) (c := 13) (ty := .int) rfl (Or.inr (Or.inr ⟨rfl, rfl⟩)) war_int (by decide) (by decide) (Nat.le_of_ble_eq_true rfl) ⟨Nat.le_of_ble_eq_true rfl, Nat.le_of_ble_eq_true rfl⟩ (by decide +kernel) ?_
  show Ev l d mi_X4_init 80 [some (.ref 6)] [.ref 14, .ref 6] hc_31 8 46 _
  refine Ev.blk (pc' := 91) [(.putfield 46, 0, 4, 11), (.aload_n 0, 0, 0, 0), (.iconst 0, 0, 0, 0), (.putfield 49, 0, 4, 12), (.aload_n 0, 0, 0, 0), (.bipush 6, 0, 0, 0)] (by decide +kernel) ⟨⟨kf_4_46, Or.inr ⟨rfl, rfl, rfl⟩⟩, ⟨⟨kf_4_49, Or.inl rfl⟩, trivial⟩⟩ rfl (And.intro (kc rfl rfl) (And.intro (kc rfl rfl) (?_)))
  show Ev l d mi_X4_init 91 [some (.ref 6)] [.int 6, .ref 6] hc_32 8 46 _
  refine Ev.newarray (at' := .int) (c := 13) (ty := .int) rfl (Or.inr (Or.inr ⟨rfl, rfl⟩)) war_int (by decide) (by decide) (Nat.le_of_ble_eq_true rfl) ⟨Nat.le_of_ble_eq_true rfl, Nat.le_of_ble_eq_true rfl⟩ (by decide +kernel) ?_
  show Ev l d mi_X4_init 93 [some (.ref 6)] [.ref 15, .ref 6] hc_33 9 52 _
  refine Ev.blk (pc' := 99) [(.putfield 52, 0, 4, 13), (.aload_n 0, 0, 0, 0), (.bipush 6, 0, 0, 0)] (by decide +kernel) ⟨⟨kf_4_52, Or.inr ⟨rfl, rfl, rfl⟩⟩, trivial⟩ rfl (And.intro (kc rfl rfl) (?_))
  show Ev l d mi_X4_init 99 [some (.ref 6)] [.int 6, .ref 6] hc_34 9 52 _
  refine Ev.newarray (at' := .int) (c := 13) (ty := .int) rfl (Or.inr (Or.inr ⟨rfl, rfl⟩)) war_int (by decide) (by decide) (Nat.le_of_ble_eq_true rfl) ⟨Nat.le_of_ble_eq_true rfl, Nat.le_of_ble_eq_true rfl⟩ (by decide +kernel) ?_
  show Ev l d mi_X4_init 101 [some (.ref 6)] [.ref 16, .ref 6] hc_35 10 58 _
  refine Ev.blk (pc' := 107) [(.putfield 55, 0, 4, 14), (.aload_n 0, 0, 0, 0), (.bipush 19, 0, 0, 0)] (by decide +kernel) ⟨⟨kf_4_55, Or.inr ⟨rfl, rfl, rfl⟩⟩, trivial⟩ rfl (And.intro (kc rfl rfl) (?_))
  show Ev l d mi_X4_init 107 [some (.ref 6)] [.int 19, .ref 6] hc_36 10 58 _
  refine Ev.newarray (at' := .int) (c := 13) (ty := .int) rfl (Or.inr (Or.inr ⟨rfl, rfl⟩)) war_int (by decide) (by decide) (Nat.le_of_ble_eq_true rfl) ⟨Nat.le_of_ble_eq_true rfl, Nat.le_of_ble_eq_true rfl⟩ (by decide +kernel) ?_
  show Ev l d mi_X4_init 109 [some (.ref 6)] [.ref 17, .ref 6] hc_37 11 77 _
  refine Ev.blk (pc' := 113) [(.putfield 58, 0, 4, 15), (.aload_n 0, 0, 0, 0)] (by decide +kernel) ⟨⟨kf_4_58, Or.inr ⟨rfl, rfl, rfl⟩⟩, trivial⟩ rfl (And.intro (kc rfl rfl) (?_))
  show Ev l d mi_X4_init 113 [some (.ref 6)] [.ref 6] hc_38 11 77 _
  refine Ev.new (c := 2) (Nat.le_of_ble_eq_true rfl) kx_4_61 kq_2 wini_2 (Nat.le_of_ble_eq_true rfl) ⟨Nat.le_of_ble_eq_true rfl, Nat.le_of_ble_eq_true rfl⟩ (by decide +kernel) ?_
  show Ev l d mi_X4_init 116 [some (.ref 6)] [.ref 18, .ref 6] hc_39 12 79 _
  refine Ev.blk (pc' := 117) [(.dup, 0, 0, 0)] (by decide +kernel) trivial rfl (And.intro rfl (?_))
  show Ev l d mi_X4_init 117 [some (.ref 6)] [.ref 18, .ref 18, .ref 6] hc_39 12 79 _
  refine Ev.callIN (M' := mi_X2_init) (o := 18) (d' := d - 1) (As := []) (rest := [.ref 18, .ref 6]) (r' := hc_41) (tr_5_X2_init (d := d - 1) (by omega)) (by omega) wm_X2_init rfl rfl wi_X2_init kn_4_63 (Nat.le_of_ble_eq_true rfl) rfl rfl rfl (Nat.le_of_ble_eq_true rfl) ⟨Nat.le_of_ble_eq_true rfl, Nat.le_of_ble_eq_true rfl⟩ (by decide +kernel) ?_
  show Ev l d mi_X4_init 120 [some (.ref 6)] [.ref 18, .ref 6] hc_41 13 1679 _
  refine Ev.blk (pc' := 138) [(.putfield 64, 0, 4, 16), (.aload_n 0, 0, 0, 0), (.iconst 0, 0, 0, 0), (.putfield 68, 0, 4, 17), (.aload_n 0, 0, 0, 0), (.iconst 0, 0, 0, 0), (.putfield 71, 0, 4, 18), (.aload_n 0, 0, 0, 0), (.iconst 0, 0, 0, 0), (.putfield 74, 0, 4, 19)] (by decide +kernel) ⟨⟨kf_4_64, Or.inr ⟨rfl, rfl, rfl⟩⟩, ⟨⟨kf_4_68, Or.inl rfl⟩, ⟨⟨kf_4_71, Or.inl rfl⟩, ⟨⟨kf_4_74, Or.inl rfl⟩, trivial⟩⟩⟩⟩ rfl (And.intro (kc rfl rfl) (And.intro (kc rfl rfl) (And.intro (kc rfl rfl) (And.intro (kc rfl rfl) (?_)))))
  show Ev l d mi_X4_init 138 [some (.ref 6)] [] hc_42 13 1679 _
  exact Ev.vret rfl (by decide +kernel) (Nat.le_of_ble_eq_true rfl) (Nat.le_of_ble_eq_true rfl)
def hc_43 : SH := (sm_R hc_42 0 3 (some 6))
def hc_44 : SH := sm_new hc_43 4 0
def hc_45 : SH := (sm_I (sm_I hc_44 20 0 0) 20 1 0)
def hc_46 : SH := sm_new hc_45 13 2
def hc_47 : SH := (sm_I (sm_R hc_46 20 2 (some 21)) 20 3 0)
def hc_48 : SH := sm_new hc_47 13 5
def hc_49 : SH := (sm_R hc_48 20 4 (some 22))
def hc_50 : SH := sm_new hc_49 13 5
def hc_51 : SH := (sm_R hc_50 20 5 (some 23))
def hc_52 : SH := sm_new hc_51 13 5
def hc_53 : SH := (sm_R hc_52 20 6 (some 24))
def hc_54 : SH := sm_new hc_53 13 5
def hc_55 : SH := (sm_I (sm_R hc_54 20 7 (some 25)) 20 8 0)
def hc_56 : SH := sm_new hc_55 13 8
def hc_57 : SH := (sm_R hc_56 20 9 (some 26))
def hc_58 : SH := sm_new hc_57 13 8
def hc_59 : SH := (sm_R hc_58 20 10 (some 27))
def hc_60 : SH := sm_new hc_59 13 8
def hc_61 : SH := (sm_I (sm_R hc_60 20 11 (some 28)) 20 12 0)
def hc_62 : SH := sm_new hc_61 13 6
def hc_63 : SH := (sm_R hc_62 20 13 (some 29))
def hc_64 : SH := sm_new hc_63 13 6
def hc_65 : SH := (sm_R hc_64 20 14 (some 30))
def hc_66 : SH := sm_new hc_65 13 19
def hc_67 : SH := (sm_R hc_66 20 15 (some 31))
def hc_68 : SH := sm_new hc_67 2 0
def hc_69 : SH := sm_new hc_68 13 1600
def hc_70 : SH := (sm_I (sm_R hc_69 32 0 (some 33)) 32 1 0)
set_option maxHeartbeats 4000000 in
set_option maxRecDepth 40000 in
theorem tr_7_X2_init {l : Launch} {d : Nat} (hd : 1 ≤ d) : Cl l d mi_X2_init [.ref 32] hc_68 (none, hc_70) := by
  refine Ev.entry (by decide +kernel) rfl rfl ?_
  show Ev l d mi_X2_init 0 [some (.ref 32)] [] hc_68 0 0 _
  refine Ev.blk (pc' := 1) [(.aload_n 0, 0, 0, 0)] (by decide +kernel) trivial rfl (?_)
  show Ev l d mi_X2_init 1 [some (.ref 32)] [.ref 32] hc_68 0 0 _
  refine Ev.objInit ko_2_3 woi1 woi2 (Nat.le_of_ble_eq_true rfl) (by omega) (Nat.le_of_ble_eq_true rfl) (by decide +kernel) ?_
  show Ev l d mi_X2_init 4 [some (.ref 32)] [] hc_68 0 0 _
  refine Ev.blk (pc' := 8) [(.aload_n 0, 0, 0, 0), (.sipush 1600, 0, 0, 0)] (by decide +kernel) trivial rfl (?_)
  show Ev l d mi_X2_init 8 [some (.ref 32)] [.int 1600, .ref 32] hc_68 0 0 _
  refine Ev.newarray (at' := .int) (c := 13) (ty := .int) rfl (Or.inr (Or.inr ⟨rfl, rfl⟩)) war_int (by decide) (by decide) (Nat.le_of_ble_eq_true rfl) ⟨Nat.le_of_ble_eq_true rfl, Nat.le_of_ble_eq_true rfl⟩ (by decide +kernel) ?_
  show Ev l d mi_X2_init 10 [some (.ref 32)] [.ref 33, .ref 32] hc_69 1 1600 _
  refine Ev.blk (pc' := 18) [(.putfield 9, 0, 2, 0), (.aload_n 0, 0, 0, 0), (.iconst 0, 0, 0, 0), (.putfield 15, 0, 2, 1)] (by decide +kernel) ⟨⟨kf_2_9, Or.inr ⟨rfl, rfl, rfl⟩⟩, ⟨⟨kf_2_15, Or.inl rfl⟩, trivial⟩⟩ rfl (And.intro (kc rfl rfl) (And.intro (kc rfl rfl) (?_)))
  show Ev l d mi_X2_init 18 [some (.ref 32)] [] hc_70 1 1600 _
  exact Ev.vret rfl (by decide +kernel) (Nat.le_of_ble_eq_true rfl) (Nat.le_of_ble_eq_true rfl)
def hc_71 : SH := (sm_I (sm_I (sm_I (sm_R hc_70 20 16 (some 32)) 20 17 0) 20 18 0) 20 19 0)
set_option maxHeartbeats 4000000 in
set_option maxRecDepth 40000 in
theorem tr_8_X4_init {l : Launch} {d : Nat} (hd : 2 ≤ d) : Cl l d mi_X4_init [.ref 20] hc_44 (none, hc_71) := by
  refine Ev.entry (by decide +kernel) rfl rfl ?_
  show Ev l d mi_X4_init 0 [some (.ref 20)] [] hc_44 0 0 _
  refine Ev.blk (pc' := 1) [(.aload_n 0, 0, 0, 0)] (by decide +kernel) trivial rfl (?_)
  show Ev l d mi_X4_init 1 [some (.ref 20)] [.ref 20] hc_44 0 0 _
  refine Ev.objInit ko_4_3 woi1 woi2 (Nat.le_of_ble_eq_true rfl) (by omega) (Nat.le_of_ble_eq_true rfl) (by decide +kernel) ?_
  show Ev l d mi_X4_init 4 [some (.ref 20)] [] hc_44 0 0 _
  refine Ev.blk (pc' := 16) [(.aload_n 0, 0, 0, 0), (.iconst 0, 0, 0, 0), (.putfield 9, 0, 4, 0), (.aload_n 0, 0, 0, 0), (.iconst 0, 0, 0, 0), (.putfield 15, 0, 4, 1), (.aload_n 0, 0, 0, 0), (.iconst 2, 0, 0, 0)] (by decide +kernel) ⟨⟨kf_4_9, Or.inl rfl⟩, ⟨⟨kf_4_15, Or.inl rfl⟩, trivial⟩⟩ rfl (And.intro (kc rfl rfl) (And.intro (kc rfl rfl) (?_)))
  show Ev l d mi_X4_init 16 [some (.ref 20)] [.int 2, .ref 20] hc_45 0 0 _
  refine Ev.newarray (at' := .int) (c := 13) (ty := .int) rfl (Or.inr (Or.inr ⟨rfl, rfl⟩)) war_int (by decide) (by decide) (Nat.le_of_ble_eq_true rfl) ⟨Nat.le_of_ble_eq_true rfl, Nat.le_of_ble_eq_true rfl⟩ (by decide +kernel) ?_
  show Ev l d mi_X4_init 18 [some (.ref 20)] [.ref 21, .ref 20] hc_46 1 2 _
  refine Ev.blk (pc' := 28) [(.putfield 18, 0, 4, 2), (.aload_n 0, 0, 0, 0), (.iconst 0, 0, 0, 0), (.putfield 22, 0, 4, 3), (.aload_n 0, 0, 0, 0), (.iconst 5, 0, 0, 0)] (by decide +kernel) ⟨⟨kf_4_18, Or.inr ⟨rfl, rfl, rfl⟩⟩, ⟨⟨kf_4_22, Or.inl rfl⟩, trivial⟩⟩ rfl (And.intro (kc rfl rfl) (And.intro (kc rfl rfl) (?_)))
  show Ev l d mi_X4_init 28 [some (.ref 20)] [.int 5, .ref 20] hc_47 1 2 _
  refine Ev.newarray (at' := .int) (c := 13) (ty := .int) rfl (Or.inr (Or.inr ⟨rfl, rfl⟩)) war_int (by decide) (by decide) (Nat.le_of_ble_eq_true rfl) ⟨Nat.le_of_ble_eq_true rfl, Nat.le_of_ble_eq_true rfl⟩ (by decide +kernel) ?_
  show Ev l d mi_X4_init 30 [some (.ref 20)] [.ref 22, .ref 20] hc_48 2 7 _
  refine Ev.blk (pc' := 35) [(.putfield 25, 0, 4, 4), (.aload_n 0, 0, 0, 0), (.iconst 5, 0, 0, 0)] (by decide +kernel) ⟨⟨kf_4_25, Or.inr ⟨rfl, rfl, rfl⟩⟩, trivial⟩ rfl (And.intro (kc rfl rfl) (?_))
  show Ev l d mi_X4_init 35 [some (.ref 20)] [.int 5, .ref 20] hc_49 2 7 _
  refine Ev.newarray (at' := .int) (c := 13) (ty := .int) rfl (Or.inr (Or.inr ⟨rfl, rfl⟩)) war_int (by decide) (by decide) (Nat.le_of_ble_eq_true rfl) ⟨Nat.le_of_ble_eq_true rfl, Nat.le_of_ble_eq_true rfl⟩ (by decide +kernel) ?_
  show Ev l d mi_X4_init 37 [some (.ref 20)] [.ref 23, .ref 20] hc_50 3 12 _
  refine Ev.blk (pc' := 42) [(.putfield 28, 0, 4, 5), (.aload_n 0, 0, 0, 0), (.iconst 5, 0, 0, 0)] (by decide +kernel) ⟨⟨kf_4_28, Or.inr ⟨rfl, rfl, rfl⟩⟩, trivial⟩ rfl (And.intro (kc rfl rfl) (?_))
  show Ev l d mi_X4_init 42 [some (.ref 20)] [.int 5, .ref 20] hc_51 3 12 _
  refine Ev.newarray (at' := .int) (c := 13) (ty := .int) rfl (Or.inr (Or.inr ⟨rfl, rfl⟩)) war_int (by decide) (by decide) (Nat.le_of_ble_eq_true rfl) ⟨Nat.le_of_ble_eq_true rfl, Nat.le_of_ble_eq_true rfl⟩ (by decide +kernel) ?_
  show Ev l d mi_X4_init 44 [some (.ref 20)] [.ref 24, .ref 20] hc_52 4 17 _
  refine Ev.blk (pc' := 49) [(.putfield 31, 0, 4, 6), (.aload_n 0, 0, 0, 0), (.iconst 5, 0, 0, 0)] (by decide +kernel) ⟨⟨kf_4_31, Or.inr ⟨rfl, rfl, rfl⟩⟩, trivial⟩ rfl (And.intro (kc rfl rfl) (?_))
  show Ev l d mi_X4_init 49 [some (.ref 20)] [.int 5, .ref 20] hc_53 4 17 _
  refine Ev.newarray (at' := .int) (c := 13) (ty := .int) rfl (Or.inr (Or.inr ⟨rfl, rfl⟩)) war_int (by decide) (by decide) (Nat.le_of_ble_eq_true rfl) ⟨Nat.le_of_ble_eq_true rfl, Nat.le_of_ble_eq_true rfl⟩ (by decide +kernel) ?_
  show Ev l d mi_X4_init 51 [some (.ref 20)] [.ref 25, .ref 20] hc_54 5 22 _
  refine Ev.blk (pc' := 62) [(.putfield 34, 0, 4, 7), (.aload_n 0, 0, 0, 0), (.iconst 0, 0, 0, 0), (.putfield 37, 0, 4, 8), (.aload_n 0, 0, 0, 0), (.bipush 8, 0, 0, 0)] (by decide +kernel) ⟨⟨kf_4_34, Or.inr ⟨rfl, rfl, rfl⟩⟩, ⟨⟨kf_4_37, Or.inl rfl⟩, trivial⟩⟩ rfl (And.intro (kc rfl rfl) (And.intro (kc rfl rfl) (?_)))
  show Ev l d mi_X4_init 62 [some (.ref 20)] [.int 8, .ref 20] hc_55 5 22 _
  refine Ev.newarray (at' := .int) (c := 13) (ty := .int) rfl (Or.inr (Or.inr ⟨rfl, rfl⟩)) war_int (by decide) (by decide) (Nat.le_of_ble_eq_true rfl) ⟨Nat.le_of_ble_eq_true rfl, Nat.le_of_ble_eq_true rfl⟩ (by decide +kernel) ?_
  show Ev l d mi_X4_init 64 [some (.ref 20)] [.ref 26, .ref 20] hc_56 6 30 _
  refine Ev.blk (pc' := 70) [(.putfield 40, 0, 4, 9), (.aload_n 0, 0, 0, 0), (.bipush 8, 0, 0, 0)] (by decide +kernel) ⟨⟨kf_4_40, Or.inr ⟨rfl, rfl, rfl⟩⟩, trivial⟩ rfl (And.intro (kc rfl rfl) (?_))
  show Ev l d mi_X4_init 70 [some (.ref 20)] [.int 8, .ref 20] hc_57 6 30 _
  refine Ev.newarray (at' := .int) (c := 13) (ty := .int) rfl (Or.inr (Or.inr ⟨rfl, rfl⟩)) war_int (by decide) (by decide) (Nat.le_of_ble_eq_true rfl) ⟨Nat.le_of_ble_eq_true rfl, Nat.le_of_ble_eq_true rfl⟩ (by decide +kernel) ?_
  show Ev l d mi_X4_init 72 [some (.ref 20)] [.ref 27, .ref 20] hc_58 7 38 _
  refine Ev.blk (pc' := 78) [(.putfield 43, 0, 4, 10), (.aload_n 0, 0, 0, 0), (.bipush 8, 0, 0, 0)] (by decide +kernel) ⟨⟨kf_4_43, Or.inr ⟨rfl, rfl, rfl⟩⟩, trivial⟩ rfl (And.intro (kc rfl rfl) (?_))
  show Ev l d mi_X4_init 78 [some (.ref 20)] [.int 8, .ref 20] hc_59 7 38 _
  refine Ev.newarray (at' := .int) (c := 13) (ty := .int) rfl (Or.inr (Or.inr ⟨rfl, rfl⟩)) war_int (by decide) (by decide) (Nat.le_of_ble_eq_true rfl) ⟨Nat.le_of_ble_eq_true rfl, Nat.le_of_ble_eq_true rfl⟩ (by decide +kernel) ?_
  show Ev l d mi_X4_init 80 [some (.ref 20)] [.ref 28, .ref 20] hc_60 8 46 _
  refine Ev.blk (pc' := 91) [(.putfield 46, 0, 4, 11), (.aload_n 0, 0, 0, 0), (.iconst 0, 0, 0, 0), (.putfield 49, 0, 4, 12), (.aload_n 0, 0, 0, 0), (.bipush 6, 0, 0, 0)] (by decide +kernel) ⟨⟨kf_4_46, Or.inr ⟨rfl, rfl, rfl⟩⟩, ⟨⟨kf_4_49, Or.inl rfl⟩, trivial⟩⟩ rfl (And.intro (kc rfl rfl) (And.intro (kc rfl rfl) (?_)))
  show Ev l d mi_X4_init 91 [some (.ref 20)] [.int 6, .ref 20] hc_61 8 46 _
  refine Ev.newarray (at' := .int) (c := 13) (ty := .int) rfl (Or.inr (Or.inr ⟨rfl, rfl⟩)) war_int (by decide) (by decide) (Nat.le_of_ble_eq_true rfl) ⟨Nat.le_of_ble_eq_true rfl, Nat.le_of_ble_eq_true rfl⟩ (by decide +kernel) ?_
  show Ev l d mi_X4_init 93 [some (.ref 20)] [.ref 29, .ref 20] hc_62 9 52 _
  refine Ev.blk (pc' := 99) [(.putfield 52, 0, 4, 13), (.aload_n 0, 0, 0, 0), (.bipush 6, 0, 0, 0)] (by decide +kernel) ⟨⟨kf_4_52, Or.inr ⟨rfl, rfl, rfl⟩⟩, trivial⟩ rfl (And.intro (kc rfl rfl) (?_))
  show Ev l d mi_X4_init 99 [some (.ref 20)] [.int 6, .ref 20] hc_63 9 52 _
  refine Ev.newarray (at' := .int) (c := 13) (ty := .int) rfl (Or.inr (Or.inr ⟨rfl, rfl⟩)) war_int (by decide) (by decide) (Nat.le_of_ble_eq_true rfl) ⟨Nat.le_of_ble_eq_true rfl, Nat.le_of_ble_eq_true rfl⟩ (by decide +kernel) ?_
  show Ev l d mi_X4_init 101 [some (.ref 20)] [.ref 30, .ref 20] hc_64 10 58 _
  refine Ev.blk (pc' := 107) [(.putfield 55, 0, 4, 14), (.aload_n 0, 0, 0, 0), (.bipush 19, 0, 0, 0)] (by decide +kernel) ⟨⟨kf_4_55, Or.inr ⟨rfl, rfl, rfl⟩⟩, trivial⟩ rfl (And.intro (kc rfl rfl) (?_))
  show Ev l d mi_X4_init 107 [some (.ref 20)] [.int 19, .ref 20] hc_65 10 58 _
  refine Ev.newarray (at' := .int) (c := 13) (ty := .int) rfl (Or.inr (Or.inr ⟨rfl, rfl⟩)) war_int (by decide) (by decide) (Nat.le_of_ble_eq_true rfl) ⟨Nat.le_of_ble_eq_true rfl, Nat.le_of_ble_eq_true rfl⟩ (by decide +kernel) ?_
  show Ev l d mi_X4_init 109 [some (.ref 20)] [.ref 31, .ref 20] hc_66 11 77 _
  refine Ev.blk (pc' := 113) [(.putfield 58, 0, 4, 15), (.aload_n 0, 0, 0, 0)] (by decide +kernel) ⟨⟨kf_4_58, Or.inr ⟨rfl, rfl, rfl⟩⟩, trivial⟩ rfl (And.intro (kc rfl rfl) (?_))
  show Ev l d mi_X4_init 113 [some (.ref 20)] [.ref 20] hc_67 11 77 _
  refine Ev.new (c := 2) (Nat.le_of_ble_eq_true rfl) kx_4_61 kq_2 wini_2 (Nat.le_of_ble_eq_true rfl) ⟨Nat.le_of_ble_eq_true rfl, Nat.le_of_ble_eq_true rfl⟩ (by decide +kernel) ?_
  show Ev l d mi_X4_init 116 [some (.ref 20)] [.ref 32, .ref 20] hc_68 12 79 _
  refine Ev.blk (pc' := 117) [(.dup, 0, 0, 0)] (by decide +kernel) trivial rfl (And.intro rfl (?_))
  show Ev l d mi_X4_init 117 [some (.ref 20)] [.ref 32, .ref 32, .ref 20] hc_68 12 79 _
  refine Ev.callIN (M' := mi_X2_init) (o := 32) (d' := d - 1) (As := []) (rest := [.ref 32, .ref 20]) (r' := hc_70) (tr_7_X2_init (d := d - 1) (by omega)) (by omega) wm_X2_init rfl rfl wi_X2_init kn_4_63 (Nat.le_of_ble_eq_true rfl) rfl rfl rfl (Nat.le_of_ble_eq_true rfl) ⟨Nat.le_of_ble_eq_true rfl, Nat.le_of_ble_eq_true rfl⟩ (by decide +kernel) ?_
  show Ev l d mi_X4_init 120 [some (.ref 20)] [.ref 32, .ref 20] hc_70 13 1679 _
  refine Ev.blk (pc' := 138) [(.putfield 64, 0, 4, 16), (.aload_n 0, 0, 0, 0), (.iconst 0, 0, 0, 0), (.putfield 68, 0, 4, 17), (.aload_n 0, 0, 0, 0), (.iconst 0, 0, 0, 0), (.putfield 71, 0, 4, 18), (.aload_n 0, 0, 0, 0), (.iconst 0, 0, 0, 0), (.putfield 74, 0, 4, 19)] (by decide +kernel) ⟨⟨kf_4_64, Or.inr ⟨rfl, rfl, rfl⟩⟩, ⟨⟨kf_4_68, Or.inl rfl⟩, ⟨⟨kf_4_71, Or.inl rfl⟩, ⟨⟨kf_4_74, Or.inl rfl⟩, trivial⟩⟩⟩⟩ rfl (And.intro (kc rfl rfl) (And.intro (kc rfl rfl) (And.intro (kc rfl rfl) (And.intro (kc rfl rfl) (?_)))))
  show Ev l d mi_X4_init 138 [some (.ref 20)] [] hc_71 13 1679 _
  exact Ev.vret rfl (by decide +kernel) (Nat.le_of_ble_eq_true rfl) (Nat.le_of_ble_eq_true rfl)
def hc_72 : SH := (sm_R hc_71 0 4 (some 20))
def hc_73 : SH := sm_new hc_72 2 0
def hc_74 : SH := sm_new hc_73 13 1600
def hc_75 : SH := (sm_I (sm_R hc_74 34 0 (some 35)) 34 1 0)
set_option maxHeartbeats 4000000 in
set_option maxRecDepth 40000 in
theorem tr_9_X2_init {l : Launch} {d : Nat} (hd : 1 ≤ d) : Cl l d mi_X2_init [.ref 34] hc_73 (none, hc_75) := by
  refine Ev.entry (by decide +kernel) rfl rfl ?_
  show Ev l d mi_X2_init 0 [some (.ref 34)] [] hc_73 0 0 _
  refine Ev.blk (pc' := 1) [(.aload_n 0, 0, 0, 0)] (by decide +kernel) trivial rfl (?_)
  show Ev l d mi_X2_init 1 [some (.ref 34)] [.ref 34] hc_73 0 0 _
  refine Ev.objInit ko_2_3 woi1 woi2 (Nat.le_of_ble_eq_true rfl) (by omega) (Nat.le_of_ble_eq_true rfl) (by decide +kernel) ?_
  show Ev l d mi_X2_init 4 [some (.ref 34)] [] hc_73 0 0 _
  refine Ev.blk (pc' := 8) [(.aload_n 0, 0, 0, 0), (.sipush 1600, 0, 0, 0)] (by decide +kernel) trivial rfl (?_)
  show Ev l d mi_X2_init 8 [some (.ref 34)] [.int 1600, .ref 34] hc_73 0 0 _
  refine Ev.newarray (at' := .int) (c := 13) (ty := .int) rfl (Or.inr (Or.inr ⟨rfl, rfl⟩)) war_int (by decide) (by decide) (Nat.le_of_ble_eq_true rfl) ⟨Nat.le_of_ble_eq_true rfl, Nat.le_of_ble_eq_true rfl⟩ (by decide +kernel) ?_
  show Ev l d mi_X2_init 10 [some (.ref 34)] [.ref 35, .ref 34] hc_74 1 1600 _
  refine Ev.blk (pc' := 18) [(.putfield 9, 0, 2, 0), (.aload_n 0, 0, 0, 0), (.iconst 0, 0, 0, 0), (.putfield 15, 0, 2, 1)] (by decide +kernel) ⟨⟨kf_2_9, Or.inr ⟨rfl, rfl, rfl⟩⟩, ⟨⟨kf_2_15, Or.inl rfl⟩, trivial⟩⟩ rfl (And.intro (kc rfl rfl) (And.intro (kc rfl rfl) (?_)))
  show Ev l d mi_X2_init 18 [some (.ref 34)] [] hc_75 1 1600 _
  exact Ev.vret rfl (by decide +kernel) (Nat.le_of_ble_eq_true rfl) (Nat.le_of_ble_eq_true rfl)
def hc_76 : SH := (sm_R hc_75 0 5 (some 34))
def hc_77 : SH := sm_new hc_76 3 0
def hc_78 : SH := (sm_I (sm_I hc_77 36 1 0) 36 2 0)
def hc_79 : SH := sm_new hc_78 13 2
def hc_80 : SH := (sm_R hc_79 36 3 (some 37))
def hc_81 : SH := sm_new hc_80 13 8
def hc_82 : SH := (sm_R hc_81 36 4 (some 38))
def hc_83 : SH := sm_new hc_82 13 6
def hc_84 : SH := (sm_R hc_83 36 5 (some 39))
def hc_85 : SH := sm_new hc_84 13 25
def hc_86 : SH := (sm_R hc_85 36 6 (some 40))
def hc_87 : SH := sm_new hc_86 13 2
def hc_88 : SH := (sm_I (sm_I (sm_R hc_87 36 7 (some 41)) 36 8 0) 36 9 0)
def hc_89 : SH := sm_new hc_88 6 0
def hc_90 : SH := sm_new hc_89 13 33
def hc_91 : SH := (sm_R hc_90 42 0 (some 43))
def hc_92 : SH := sm_new hc_91 13 6
def hc_93 : SH := (sm_R hc_92 42 1 (some 44))
def hc_94 : SH := sm_new hc_93 13 64
def hc_95 : SH := (sm_I (sm_R hc_94 42 2 (some 45)) 42 3 0)
set_option maxHeartbeats 4000000 in
set_option maxRecDepth 40000 in
theorem tr_10_X6_init {l : Launch} {d : Nat} (hd : 1 ≤ d) : Cl l d mi_X6_init [.ref 42] hc_89 (none, hc_95) := by
  refine Ev.entry (by decide +kernel) rfl rfl ?_
  show Ev l d mi_X6_init 0 [some (.ref 42)] [] hc_89 0 0 _
  refine Ev.blk (pc' := 1) [(.aload_n 0, 0, 0, 0)] (by decide +kernel) trivial rfl (?_)
  show Ev l d mi_X6_init 1 [some (.ref 42)] [.ref 42] hc_89 0 0 _
  refine Ev.objInit ko_6_3 woi1 woi2 (Nat.le_of_ble_eq_true rfl) (by omega) (Nat.le_of_ble_eq_true rfl) (by decide +kernel) ?_
  show Ev l d mi_X6_init 4 [some (.ref 42)] [] hc_89 0 0 _
  refine Ev.blk (pc' := 7) [(.aload_n 0, 0, 0, 0), (.bipush 33, 0, 0, 0)] (by decide +kernel) trivial rfl (?_)
  show Ev l d mi_X6_init 7 [some (.ref 42)] [.int 33, .ref 42] hc_89 0 0 _
  refine Ev.newarray (at' := .int) (c := 13) (ty := .int) rfl (Or.inr (Or.inr ⟨rfl, rfl⟩)) war_int (by decide) (by decide) (Nat.le_of_ble_eq_true rfl) ⟨Nat.le_of_ble_eq_true rfl, Nat.le_of_ble_eq_true rfl⟩ (by decide +kernel) ?_
  show Ev l d mi_X6_init 9 [some (.ref 42)] [.ref 43, .ref 42] hc_90 1 33 _
  refine Ev.blk (pc' := 15) [(.putfield 9, 0, 6, 0), (.aload_n 0, 0, 0, 0), (.bipush 6, 0, 0, 0)] (by decide +kernel) ⟨⟨kf_6_9, Or.inr ⟨rfl, rfl, rfl⟩⟩, trivial⟩ rfl (And.intro (kc rfl rfl) (?_))
  show Ev l d mi_X6_init 15 [some (.ref 42)] [.int 6, .ref 42] hc_91 1 33 _
  refine Ev.newarray (at' := .int) (c := 13) (ty := .int) rfl (Or.inr (Or.inr ⟨rfl, rfl⟩)) war_int (by decide) (by decide) (Nat.le_of_ble_eq_true rfl) ⟨Nat.le_of_ble_eq_true rfl, Nat.le_of_ble_eq_true rfl⟩ (by decide +kernel) ?_
  show Ev l d mi_X6_init 17 [some (.ref 42)] [.ref 44, .ref 42] hc_92 2 39 _
  refine Ev.blk (pc' := 23) [(.putfield 15, 0, 6, 1), (.aload_n 0, 0, 0, 0), (.bipush 64, 0, 0, 0)] (by decide +kernel) ⟨⟨kf_6_15, Or.inr ⟨rfl, rfl, rfl⟩⟩, trivial⟩ rfl (And.intro (kc rfl rfl) (?_))
  show Ev l d mi_X6_init 23 [some (.ref 42)] [.int 64, .ref 42] hc_93 2 39 _
  refine Ev.newarray (at' := .int) (c := 13) (ty := .int) rfl (Or.inr (Or.inr ⟨rfl, rfl⟩)) war_int (by decide) (by decide) (Nat.le_of_ble_eq_true rfl) ⟨Nat.le_of_ble_eq_true rfl, Nat.le_of_ble_eq_true rfl⟩ (by decide +kernel) ?_
  show Ev l d mi_X6_init 25 [some (.ref 42)] [.ref 45, .ref 42] hc_94 3 103 _
  refine Ev.blk (pc' := 33) [(.putfield 18, 0, 6, 2), (.aload_n 0, 0, 0, 0), (.iconst 0, 0, 0, 0), (.putfield 21, 0, 6, 3)] (by decide +kernel) ⟨⟨kf_6_18, Or.inr ⟨rfl, rfl, rfl⟩⟩, ⟨⟨kf_6_21, Or.inl rfl⟩, trivial⟩⟩ rfl (And.intro (kc rfl rfl) (And.intro (kc rfl rfl) (?_)))
  show Ev l d mi_X6_init 33 [some (.ref 42)] [] hc_95 3 103 _
  exact Ev.vret rfl (by decide +kernel) (Nat.le_of_ble_eq_true rfl) (Nat.le_of_ble_eq_true rfl)
def hc_96 : SH := (sm_R (sm_I (sm_I (sm_I (sm_R hc_95 36 10 (some 42)) 36 11 0) 36 12 0) 36 13 0) 36 0 (some 6))
def hc_97 : SH := (sm_I hc_96 40 0 (-1))
def hc_98 : SH := (sm_I hc_97 40 1 (-1))
def hc_99 : SH := (sm_I hc_98 40 2 (-1))
def hc_100 : SH := (sm_I hc_99 40 3 (-1))
def hc_101 : SH := (sm_I hc_100 40 4 (-1))
def hc_102 : SH := (sm_I hc_101 40 5 (-1))
def hc_103 : SH := (sm_I hc_102 40 6 (-1))
def hc_104 : SH := (sm_I hc_103 40 7 (-1))
def hc_105 : SH := (sm_I hc_104 40 8 (-1))
def hc_106 : SH := (sm_I hc_105 40 9 (-1))
def hc_107 : SH := (sm_I hc_106 40 10 (-1))
def hc_108 : SH := (sm_I hc_107 40 11 (-1))
def hc_109 : SH := (sm_I hc_108 40 12 (-1))
def hc_110 : SH := (sm_I hc_109 40 13 (-1))
def hc_111 : SH := (sm_I hc_110 40 14 (-1))
def hc_112 : SH := (sm_I hc_111 40 15 (-1))
def hc_113 : SH := (sm_I hc_112 40 16 (-1))
def hc_114 : SH := (sm_I hc_113 40 17 (-1))
def hc_115 : SH := (sm_I hc_114 40 18 (-1))
def hc_116 : SH := (sm_I hc_115 40 19 (-1))
def hc_117 : SH := (sm_I hc_116 40 20 (-1))
def hc_118 : SH := (sm_I hc_117 40 21 (-1))
def hc_119 : SH := (sm_I hc_118 40 22 (-1))
def hc_120 : SH := (sm_I hc_119 40 23 (-1))
def hc_121 : SH := (sm_I hc_120 40 24 (-1))
set_option maxHeartbeats 4000000 in
set_option maxRecDepth 40000 in
theorem tr_11_J7_fill_53178 {l : Launch} {d : Nat} (hd : 1 ≤ d) : Cl l d mi_J7_fill_53178 [.ref 40, .int (-1)] hc_96 (none, hc_121) := by
  refine Ev.entry (by decide +kernel) rfl rfl ?_
  show Ev l d mi_J7_fill_53178 0 [some (.ref 40), some (.int (-1)), none, none] [] hc_96 0 0 _
  refine Ev.blk (pc' := 7) [(.iconst 0, 0, 0, 0), (.istore_n 2, 0, 0, 0), (.aload_n 0, 0, 0, 0), (.arraylength, 0, 0, 0), (.istore_n 3, 0, 0, 0), (.iload_n 2, 0, 0, 0), (.iload_n 3, 0, 0, 0)] (by decide +kernel) trivial rfl (And.intro (Nat.le_of_ble_eq_true rfl) (And.intro (kl rfl rfl rfl) (And.intro (Nat.le_of_ble_eq_true rfl) (?_))))
  show Ev l d mi_J7_fill_53178 7 [some (.ref 40), some (.int (-1)), some (.int 0), some (.int 25)] [.int 25, .int 0] hc_96 0 0 _
  refine Ev.icmp_ge (off := 13) (tgt := 20) (by decide +kernel) (by decide) (fun b => absurd b (by decide)) (fun _ => ?_)
  refine Ev.blk (pc' := 17) [(.aload_n 0, 0, 0, 0), (.iload_n 2, 0, 0, 0), (.iload_n 1, 0, 0, 0), (.iastore, 0, 0, 0), (.iinc 2 1, 0, 0, 0)] (by decide +kernel) trivial rfl (And.intro (kc rfl rfl) (And.intro (ib_ok rfl) (And.intro (Nat.le_of_ble_eq_true rfl) (?_))))
  show Ev l d mi_J7_fill_53178 17 [some (.ref 40), some (.int (-1)), some (.int 1), some (.int 25)] [] hc_97 0 0 _
  refine Ev.goto (off := -12) (tgt := 5) (by decide +kernel) (by decide) ?_
  refine Ev.blk (pc' := 7) [(.iload_n 2, 0, 0, 0), (.iload_n 3, 0, 0, 0)] (by decide +kernel) trivial rfl (?_)
  show Ev l d mi_J7_fill_53178 7 [some (.ref 40), some (.int (-1)), some (.int 1), some (.int 25)] [.int 25, .int 1] hc_97 0 0 _
  refine Ev.icmp_ge (off := 13) (tgt := 20) (by decide +kernel) (by decide) (fun b => absurd b (by decide)) (fun _ => ?_)
  refine Ev.blk (pc' := 17) [(.aload_n 0, 0, 0, 0), (.iload_n 2, 0, 0, 0), (.iload_n 1, 0, 0, 0), (.iastore, 0, 0, 0), (.iinc 2 1, 0, 0, 0)] (by decide +kernel) trivial rfl (And.intro (kc rfl rfl) (And.intro (ib_ok rfl) (And.intro (Nat.le_of_ble_eq_true rfl) (?_))))
  show Ev l d mi_J7_fill_53178 17 [some (.ref 40), some (.int (-1)), some (.int 2), some (.int 25)] [] hc_98 0 0 _
  refine Ev.goto (off := -12) (tgt := 5) (by decide +kernel) (by decide) ?_
  refine Ev.blk (pc' := 7) [(.iload_n 2, 0, 0, 0), (.iload_n 3, 0, 0, 0)] (by decide +kernel) trivial rfl (?_)
  show Ev l d mi_J7_fill_53178 7 [some (.ref 40), some (.int (-1)), some (.int 2), some (.int 25)] [.int 25, .int 2] hc_98 0 0 _
  refine Ev.icmp_ge (off := 13) (tgt := 20) (by decide +kernel) (by decide) (fun b => absurd b (by decide)) (fun _ => ?_)
  refine Ev.blk (pc' := 17) [(.aload_n 0, 0, 0, 0), (.iload_n 2, 0, 0, 0), (.iload_n 1, 0, 0, 0), (.iastore, 0, 0, 0), (.iinc 2 1, 0, 0, 0)] (by decide +kernel) trivial rfl (And.intro (kc rfl rfl) (And.intro (ib_ok rfl) (And.intro (Nat.le_of_ble_eq_true rfl) (?_))))
  show Ev l d mi_J7_fill_53178 17 [some (.ref 40), some (.int (-1)), some (.int 3), some (.int 25)] [] hc_99 0 0 _
  refine Ev.goto (off := -12) (tgt := 5) (by decide +kernel) (by decide) ?_
  refine Ev.blk (pc' := 7) [(.iload_n 2, 0, 0, 0), (.iload_n 3, 0, 0, 0)] (by decide +kernel) trivial rfl (?_)
  show Ev l d mi_J7_fill_53178 7 [some (.ref 40), some (.int (-1)), some (.int 3), some (.int 25)] [.int 25, .int 3] hc_99 0 0 _
  refine Ev.icmp_ge (off := 13) (tgt := 20) (by decide +kernel) (by decide) (fun b => absurd b (by decide)) (fun _ => ?_)
  refine Ev.blk (pc' := 17) [(.aload_n 0, 0, 0, 0), (.iload_n 2, 0, 0, 0), (.iload_n 1, 0, 0, 0), (.iastore, 0, 0, 0), (.iinc 2 1, 0, 0, 0)] (by decide +kernel) trivial rfl (And.intro (kc rfl rfl) (And.intro (ib_ok rfl) (And.intro (Nat.le_of_ble_eq_true rfl) (?_))))
  show Ev l d mi_J7_fill_53178 17 [some (.ref 40), some (.int (-1)), some (.int 4), some (.int 25)] [] hc_100 0 0 _
  refine Ev.goto (off := -12) (tgt := 5) (by decide +kernel) (by decide) ?_
  refine Ev.blk (pc' := 7) [(.iload_n 2, 0, 0, 0), (.iload_n 3, 0, 0, 0)] (by decide +kernel) trivial rfl (?_)
  show Ev l d mi_J7_fill_53178 7 [some (.ref 40), some (.int (-1)), some (.int 4), some (.int 25)] [.int 25, .int 4] hc_100 0 0 _
  refine Ev.icmp_ge (off := 13) (tgt := 20) (by decide +kernel) (by decide) (fun b => absurd b (by decide)) (fun _ => ?_)
  refine Ev.blk (pc' := 17) [(.aload_n 0, 0, 0, 0), (.iload_n 2, 0, 0, 0), (.iload_n 1, 0, 0, 0), (.iastore, 0, 0, 0), (.iinc 2 1, 0, 0, 0)] (by decide +kernel) trivial rfl (And.intro (kc rfl rfl) (And.intro (ib_ok rfl) (And.intro (Nat.le_of_ble_eq_true rfl) (?_))))
  show Ev l d mi_J7_fill_53178 17 [some (.ref 40), some (.int (-1)), some (.int 5), some (.int 25)] [] hc_101 0 0 _
  refine Ev.goto (off := -12) (tgt := 5) (by decide +kernel) (by decide) ?_
  refine Ev.blk (pc' := 7) [(.iload_n 2, 0, 0, 0), (.iload_n 3, 0, 0, 0)] (by decide +kernel) trivial rfl (?_)
  show Ev l d mi_J7_fill_53178 7 [some (.ref 40), some (.int (-1)), some (.int 5), some (.int 25)] [.int 25, .int 5] hc_101 0 0 _
  refine Ev.icmp_ge (off := 13) (tgt := 20) (by decide +kernel) (by decide) (fun b => absurd b (by decide)) (fun _ => ?_)
  refine Ev.blk (pc' := 17) [(.aload_n 0, 0, 0, 0), (.iload_n 2, 0, 0, 0), (.iload_n 1, 0, 0, 0), (.iastore, 0, 0, 0), (.iinc 2 1, 0, 0, 0)] (by decide +kernel) trivial rfl (And.intro (kc rfl rfl) (And.intro (ib_ok rfl) (And.intro (Nat.le_of_ble_eq_true rfl) (?_))))
  show Ev l d mi_J7_fill_53178 17 [some (.ref 40), some (.int (-1)), some (.int 6), some (.int 25)] [] hc_102 0 0 _
  refine Ev.goto (off := -12) (tgt := 5) (by decide +kernel) (by decide) ?_
  refine Ev.blk (pc' := 7) [(.iload_n 2, 0, 0, 0), (.iload_n 3, 0, 0, 0)] (by decide +kernel) trivial rfl (?_)
  show Ev l d mi_J7_fill_53178 7 [some (.ref 40), some (.int (-1)), some (.int 6), some (.int 25)] [.int 25, .int 6] hc_102 0 0 _
  refine Ev.icmp_ge (off := 13) (tgt := 20) (by decide +kernel) (by decide) (fun b => absurd b (by decide)) (fun _ => ?_)
  refine Ev.blk (pc' := 17) [(.aload_n 0, 0, 0, 0), (.iload_n 2, 0, 0, 0), (.iload_n 1, 0, 0, 0), (.iastore, 0, 0, 0), (.iinc 2 1, 0, 0, 0)] (by decide +kernel) trivial rfl (And.intro (kc rfl rfl) (And.intro (ib_ok rfl) (And.intro (Nat.le_of_ble_eq_true rfl) (?_))))
  show Ev l d mi_J7_fill_53178 17 [some (.ref 40), some (.int (-1)), some (.int 7), some (.int 25)] [] hc_103 0 0 _
  refine Ev.goto (off := -12) (tgt := 5) (by decide +kernel) (by decide) ?_
  refine Ev.blk (pc' := 7) [(.iload_n 2, 0, 0, 0), (.iload_n 3, 0, 0, 0)] (by decide +kernel) trivial rfl (?_)
  show Ev l d mi_J7_fill_53178 7 [some (.ref 40), some (.int (-1)), some (.int 7), some (.int 25)] [.int 25, .int 7] hc_103 0 0 _
  refine Ev.icmp_ge (off := 13) (tgt := 20) (by decide +kernel) (by decide) (fun b => absurd b (by decide)) (fun _ => ?_)
  refine Ev.blk (pc' := 17) [(.aload_n 0, 0, 0, 0), (.iload_n 2, 0, 0, 0), (.iload_n 1, 0, 0, 0), (.iastore, 0, 0, 0), (.iinc 2 1, 0, 0, 0)] (by decide +kernel) trivial rfl (And.intro (kc rfl rfl) (And.intro (ib_ok rfl) (And.intro (Nat.le_of_ble_eq_true rfl) (?_))))
  show Ev l d mi_J7_fill_53178 17 [some (.ref 40), some (.int (-1)), some (.int 8), some (.int 25)] [] hc_104 0 0 _
  refine Ev.goto (off := -12) (tgt := 5) (by decide +kernel) (by decide) ?_
  refine Ev.blk (pc' := 7) [(.iload_n 2, 0, 0, 0), (.iload_n 3, 0, 0, 0)] (by decide +kernel) trivial rfl (?_)
  show Ev l d mi_J7_fill_53178 7 [some (.ref 40), some (.int (-1)), some (.int 8), some (.int 25)] [.int 25, .int 8] hc_104 0 0 _
  refine Ev.icmp_ge (off := 13) (tgt := 20) (by decide +kernel) (by decide) (fun b => absurd b (by decide)) (fun _ => ?_)
  refine Ev.blk (pc' := 17) [(.aload_n 0, 0, 0, 0), (.iload_n 2, 0, 0, 0), (.iload_n 1, 0, 0, 0), (.iastore, 0, 0, 0), (.iinc 2 1, 0, 0, 0)] (by decide +kernel) trivial rfl (And.intro (kc rfl rfl) (And.intro (ib_ok rfl) (And.intro (Nat.le_of_ble_eq_true rfl) (?_))))
  show Ev l d mi_J7_fill_53178 17 [some (.ref 40), some (.int (-1)), some (.int 9), some (.int 25)] [] hc_105 0 0 _
  refine Ev.goto (off := -12) (tgt := 5) (by decide +kernel) (by decide) ?_
  refine Ev.blk (pc' := 7) [(.iload_n 2, 0, 0, 0), (.iload_n 3, 0, 0, 0)] (by decide +kernel) trivial rfl (?_)
  show Ev l d mi_J7_fill_53178 7 [some (.ref 40), some (.int (-1)), some (.int 9), some (.int 25)] [.int 25, .int 9] hc_105 0 0 _
  refine Ev.icmp_ge (off := 13) (tgt := 20) (by decide +kernel) (by decide) (fun b => absurd b (by decide)) (fun _ => ?_)
  refine Ev.blk (pc' := 17) [(.aload_n 0, 0, 0, 0), (.iload_n 2, 0, 0, 0), (.iload_n 1, 0, 0, 0), (.iastore, 0, 0, 0), (.iinc 2 1, 0, 0, 0)] (by decide +kernel) trivial rfl (And.intro (kc rfl rfl) (And.intro (ib_ok rfl) (And.intro (Nat.le_of_ble_eq_true rfl) (?_))))
  show Ev l d mi_J7_fill_53178 17 [some (.ref 40), some (.int (-1)), some (.int 10), some (.int 25)] [] hc_106 0 0 _
  refine Ev.goto (off := -12) (tgt := 5) (by decide +kernel) (by decide) ?_
  refine Ev.blk (pc' := 7) [(.iload_n 2, 0, 0, 0), (.iload_n 3, 0, 0, 0)] (by decide +kernel) trivial rfl (?_)
  show Ev l d mi_J7_fill_53178 7 [some (.ref 40), some (.int (-1)), some (.int 10), some (.int 25)] [.int 25, .int 10] hc_106 0 0 _
  refine Ev.icmp_ge (off := 13) (tgt := 20) (by decide +kernel) (by decide) (fun b => absurd b (by decide)) (fun _ => ?_)
  refine Ev.blk (pc' := 17) [(.aload_n 0, 0, 0, 0), (.iload_n 2, 0, 0, 0), (.iload_n 1, 0, 0, 0), (.iastore, 0, 0, 0), (.iinc 2 1, 0, 0, 0)] (by decide +kernel) trivial rfl (And.intro (kc rfl rfl) (And.intro (ib_ok rfl) (And.intro (Nat.le_of_ble_eq_true rfl) (?_))))
  show Ev l d mi_J7_fill_53178 17 [some (.ref 40), some (.int (-1)), some (.int 11), some (.int 25)] [] hc_107 0 0 _
  refine Ev.goto (off := -12) (tgt := 5) (by decide +kernel) (by decide) ?_
  refine Ev.blk (pc' := 7) [(.iload_n 2, 0, 0, 0), (.iload_n 3, 0, 0, 0)] (by decide +kernel) trivial rfl (?_)
  show Ev l d mi_J7_fill_53178 7 [some (.ref 40), some (.int (-1)), some (.int 11), some (.int 25)] [.int 25, .int 11] hc_107 0 0 _
  refine Ev.icmp_ge (off := 13) (tgt := 20) (by decide +kernel) (by decide) (fun b => absurd b (by decide)) (fun _ => ?_)
  refine Ev.blk (pc' := 17) [(.aload_n 0, 0, 0, 0), (.iload_n 2, 0, 0, 0), (.iload_n 1, 0, 0, 0), (.iastore, 0, 0, 0), (.iinc 2 1, 0, 0, 0)] (by decide +kernel) trivial rfl (And.intro (kc rfl rfl) (And.intro (ib_ok rfl) (And.intro (Nat.le_of_ble_eq_true rfl) (?_))))
  show Ev l d mi_J7_fill_53178 17 [some (.ref 40), some (.int (-1)), some (.int 12), some (.int 25)] [] hc_108 0 0 _
  refine Ev.goto (off := -12) (tgt := 5) (by decide +kernel) (by decide) ?_
  refine Ev.blk (pc' := 7) [(.iload_n 2, 0, 0, 0), (.iload_n 3, 0, 0, 0)] (by decide +kernel) trivial rfl (?_)
  show Ev l d mi_J7_fill_53178 7 [some (.ref 40), some (.int (-1)), some (.int 12), some (.int 25)] [.int 25, .int 12] hc_108 0 0 _
  refine Ev.icmp_ge (off := 13) (tgt := 20) (by decide +kernel) (by decide) (fun b => absurd b (by decide)) (fun _ => ?_)
  refine Ev.blk (pc' := 17) [(.aload_n 0, 0, 0, 0), (.iload_n 2, 0, 0, 0), (.iload_n 1, 0, 0, 0), (.iastore, 0, 0, 0), (.iinc 2 1, 0, 0, 0)] (by decide +kernel) trivial rfl (And.intro (kc rfl rfl) (And.intro (ib_ok rfl) (And.intro (Nat.le_of_ble_eq_true rfl) (?_))))
  show Ev l d mi_J7_fill_53178 17 [some (.ref 40), some (.int (-1)), some (.int 13), some (.int 25)] [] hc_109 0 0 _
  refine Ev.goto (off := -12) (tgt := 5) (by decide +kernel) (by decide) ?_
  refine Ev.blk (pc' := 7) [(.iload_n 2, 0, 0, 0), (.iload_n 3, 0, 0, 0)] (by decide +kernel) trivial rfl (?_)
  show Ev l d mi_J7_fill_53178 7 [some (.ref 40), some (.int (-1)), some (.int 13), some (.int 25)] [.int 25, .int 13] hc_109 0 0 _
  refine Ev.icmp_ge (off := 13) (tgt := 20) (by decide +kernel) (by decide) (fun b => absurd b (by decide)) (fun _ => ?_)
  refine Ev.blk (pc' := 17) [(.aload_n 0, 0, 0, 0), (.iload_n 2, 0, 0, 0), (.iload_n 1, 0, 0, 0), (.iastore, 0, 0, 0), (.iinc 2 1, 0, 0, 0)] (by decide +kernel) trivial rfl (And.intro (kc rfl rfl) (And.intro (ib_ok rfl) (And.intro (Nat.le_of_ble_eq_true rfl) (?_))))
  show Ev l d mi_J7_fill_53178 17 [some (.ref 40), some (.int (-1)), some (.int 14), some (.int 25)] [] hc_110 0 0 _
  refine Ev.goto (off := -12) (tgt := 5) (by decide +kernel) (by decide) ?_
  refine Ev.blk (pc' := 7) [(.iload_n 2, 0, 0, 0), (.iload_n 3, 0, 0, 0)] (by decide +kernel) trivial rfl (?_)
  show Ev l d mi_J7_fill_53178 7 [some (.ref 40), some (.int (-1)), some (.int 14), some (.int 25)] [.int 25, .int 14] hc_110 0 0 _
  refine Ev.icmp_ge (off := 13) (tgt := 20) (by decide +kernel) (by decide) (fun b => absurd b (by decide)) (fun _ => ?_)
  refine Ev.blk (pc' := 17) [(.aload_n 0, 0, 0, 0), (.iload_n 2, 0, 0, 0), (.iload_n 1, 0, 0, 0), (.iastore, 0, 0, 0), (.iinc 2 1, 0, 0, 0)] (by decide +kernel) trivial rfl (And.intro (kc rfl rfl) (And.intro (ib_ok rfl) (And.intro (Nat.le_of_ble_eq_true rfl) (?_))))
  show Ev l d mi_J7_fill_53178 17 [some (.ref 40), some (.int (-1)), some (.int 15), some (.int 25)] [] hc_111 0 0 _
  refine Ev.goto (off := -12) (tgt := 5) (by decide +kernel) (by decide) ?_
  refine Ev.blk (pc' := 7) [(.iload_n 2, 0, 0, 0), (.iload_n 3, 0, 0, 0)] (by decide +kernel) trivial rfl (?_)
  show Ev l d mi_J7_fill_53178 7 [some (.ref 40), some (.int (-1)), some (.int 15), some (.int 25)] [.int 25, .int 15] hc_111 0 0 _
  refine Ev.icmp_ge (off := 13) (tgt := 20) (by decide +kernel) (by decide) (fun b => absurd b (by decide)) (fun _ => ?_)
  refine Ev.blk (pc' := 17) [(.aload_n 0, 0, 0, 0), (.iload_n 2, 0, 0, 0), (.iload_n 1, 0, 0, 0), (.iastore, 0, 0, 0), (.iinc 2 1, 0, 0, 0)] (by decide +kernel) trivial rfl (And.intro (kc rfl rfl) (And.intro (ib_ok rfl) (And.intro (Nat.le_of_ble_eq_true rfl) (?_))))
  show Ev l d mi_J7_fill_53178 17 [some (.ref 40), some (.int (-1)), some (.int 16), some (.int 25)] [] hc_112 0 0 _
  refine Ev.goto (off := -12) (tgt := 5) (by decide +kernel) (by decide) ?_
  refine Ev.blk (pc' := 7) [(.iload_n 2, 0, 0, 0), (.iload_n 3, 0, 0, 0)] (by decide +kernel) trivial rfl (?_)
  show Ev l d mi_J7_fill_53178 7 [some (.ref 40), some (.int (-1)), some (.int 16), some (.int 25)] [.int 25, .int 16] hc_112 0 0 _
  refine Ev.icmp_ge (off := 13) (tgt := 20) (by decide +kernel) (by decide) (fun b => absurd b (by decide)) (fun _ => ?_)
  refine Ev.blk (pc' := 17) [(.aload_n 0, 0, 0, 0), (.iload_n 2, 0, 0, 0), (.iload_n 1, 0, 0, 0), (.iastore, 0, 0, 0), (.iinc 2 1, 0, 0, 0)] (by decide +kernel) trivial rfl (And.intro (kc rfl rfl) (And.intro (ib_ok rfl) (And.intro (Nat.le_of_ble_eq_true rfl) (?_))))
  show Ev l d mi_J7_fill_53178 17 [some (.ref 40), some (.int (-1)), some (.int 17), some (.int 25)] [] hc_113 0 0 _
  refine Ev.goto (off := -12) (tgt := 5) (by decide +kernel) (by decide) ?_
  refine Ev.blk (pc' := 7) [(.iload_n 2, 0, 0, 0), (.iload_n 3, 0, 0, 0)] (by decide +kernel) trivial rfl (?_)
  show Ev l d mi_J7_fill_53178 7 [some (.ref 40), some (.int (-1)), some (.int 17), some (.int 25)] [.int 25, .int 17] hc_113 0 0 _
  refine Ev.icmp_ge (off := 13) (tgt := 20) (by decide +kernel) (by decide) (fun b => absurd b (by decide)) (fun _ => ?_)
  refine Ev.blk (pc' := 17) [(.aload_n 0, 0, 0, 0), (.iload_n 2, 0, 0, 0), (.iload_n 1, 0, 0, 0), (.iastore, 0, 0, 0), (.iinc 2 1, 0, 0, 0)] (by decide +kernel) trivial rfl (And.intro (kc rfl rfl) (And.intro (ib_ok rfl) (And.intro (Nat.le_of_ble_eq_true rfl) (?_))))
  show Ev l d mi_J7_fill_53178 17 [some (.ref 40), some (.int (-1)), some (.int 18), some (.int 25)] [] hc_114 0 0 _
  refine Ev.goto (off := -12) (tgt := 5) (by decide +kernel) (by decide) ?_
  refine Ev.blk (pc' := 7) [(.iload_n 2, 0, 0, 0), (.iload_n 3, 0, 0, 0)] (by decide +kernel) trivial rfl (?_)
  show Ev l d mi_J7_fill_53178 7 [some (.ref 40), some (.int (-1)), some (.int 18), some (.int 25)] [.int 25, .int 18] hc_114 0 0 _
  refine Ev.icmp_ge (off := 13) (tgt := 20) (by decide +kernel) (by decide) (fun b => absurd b (by decide)) (fun _ => ?_)
  refine Ev.blk (pc' := 17) [(.aload_n 0, 0, 0, 0), (.iload_n 2, 0, 0, 0), (.iload_n 1, 0, 0, 0), (.iastore, 0, 0, 0), (.iinc 2 1, 0, 0, 0)] (by decide +kernel) trivial rfl (And.intro (kc rfl rfl) (And.intro (ib_ok rfl) (And.intro (Nat.le_of_ble_eq_true rfl) (?_))))
  show Ev l d mi_J7_fill_53178 17 [some (.ref 40), some (.int (-1)), some (.int 19), some (.int 25)] [] hc_115 0 0 _
  refine Ev.goto (off := -12) (tgt := 5) (by decide +kernel) (by decide) ?_
  refine Ev.blk (pc' := 7) [(.iload_n 2, 0, 0, 0), (.iload_n 3, 0, 0, 0)] (by decide +kernel) trivial rfl (?_)
  show Ev l d mi_J7_fill_53178 7 [some (.ref 40), some (.int (-1)), some (.int 19), some (.int 25)] [.int 25, .int 19] hc_115 0 0 _
  refine Ev.icmp_ge (off := 13) (tgt := 20) (by decide +kernel) (by decide) (fun b => absurd b (by decide)) (fun _ => ?_)
  refine Ev.blk (pc' := 17) [(.aload_n 0, 0, 0, 0), (.iload_n 2, 0, 0, 0), (.iload_n 1, 0, 0, 0), (.iastore, 0, 0, 0), (.iinc 2 1, 0, 0, 0)] (by decide +kernel) trivial rfl (And.intro (kc rfl rfl) (And.intro (ib_ok rfl) (And.intro (Nat.le_of_ble_eq_true rfl) (?_))))
  show Ev l d mi_J7_fill_53178 17 [some (.ref 40), some (.int (-1)), some (.int 20), some (.int 25)] [] hc_116 0 0 _
  refine Ev.goto (off := -12) (tgt := 5) (by decide +kernel) (by decide) ?_
  refine Ev.blk (pc' := 7) [(.iload_n 2, 0, 0, 0), (.iload_n 3, 0, 0, 0)] (by decide +kernel) trivial rfl (?_)
  show Ev l d mi_J7_fill_53178 7 [some (.ref 40), some (.int (-1)), some (.int 20), some (.int 25)] [.int 25, .int 20] hc_116 0 0 _
  refine Ev.icmp_ge (off := 13) (tgt := 20) (by decide +kernel) (by decide) (fun b => absurd b (by decide)) (fun _ => ?_)
  refine Ev.blk (pc' := 17) [(.aload_n 0, 0, 0, 0), (.iload_n 2, 0, 0, 0), (.iload_n 1, 0, 0, 0), (.iastore, 0, 0, 0), (.iinc 2 1, 0, 0, 0)] (by decide +kernel) trivial rfl (And.intro (kc rfl rfl) (And.intro (ib_ok rfl) (And.intro (Nat.le_of_ble_eq_true rfl) (?_))))
  show Ev l d mi_J7_fill_53178 17 [some (.ref 40), some (.int (-1)), some (.int 21), some (.int 25)] [] hc_117 0 0 _
  refine Ev.goto (off := -12) (tgt := 5) (by decide +kernel) (by decide) ?_
  refine Ev.blk (pc' := 7) [(.iload_n 2, 0, 0, 0), (.iload_n 3, 0, 0, 0)] (by decide +kernel) trivial rfl (?_)
  show Ev l d mi_J7_fill_53178 7 [some (.ref 40), some (.int (-1)), some (.int 21), some (.int 25)] [.int 25, .int 21] hc_117 0 0 _
  refine Ev.icmp_ge (off := 13) (tgt := 20) (by decide +kernel) (by decide) (fun b => absurd b (by decide)) (fun _ => ?_)
  refine Ev.blk (pc' := 17) [(.aload_n 0, 0, 0, 0), (.iload_n 2, 0, 0, 0), (.iload_n 1, 0, 0, 0), (.iastore, 0, 0, 0), (.iinc 2 1, 0, 0, 0)] (by decide +kernel) trivial rfl (And.intro (kc rfl rfl) (And.intro (ib_ok rfl) (And.intro (Nat.le_of_ble_eq_true rfl) (?_))))
  show Ev l d mi_J7_fill_53178 17 [some (.ref 40), some (.int (-1)), some (.int 22), some (.int 25)] [] hc_118 0 0 _
  refine Ev.goto (off := -12) (tgt := 5) (by decide +kernel) (by decide) ?_
  refine Ev.blk (pc' := 7) [(.iload_n 2, 0, 0, 0), (.iload_n 3, 0, 0, 0)] (by decide +kernel) trivial rfl (?_)
  show Ev l d mi_J7_fill_53178 7 [some (.ref 40), some (.int (-1)), some (.int 22), some (.int 25)] [.int 25, .int 22] hc_118 0 0 _
  refine Ev.icmp_ge (off := 13) (tgt := 20) (by decide +kernel) (by decide) (fun b => absurd b (by decide)) (fun _ => ?_)
  refine Ev.blk (pc' := 17) [(.aload_n 0, 0, 0, 0), (.iload_n 2, 0, 0, 0), (.iload_n 1, 0, 0, 0), (.iastore, 0, 0, 0), (.iinc 2 1, 0, 0, 0)] (by decide +kernel) trivial rfl (And.intro (kc rfl rfl) (And.intro (ib_ok rfl) (And.intro (Nat.le_of_ble_eq_true rfl) (?_))))
  show Ev l d mi_J7_fill_53178 17 [some (.ref 40), some (.int (-1)), some (.int 23), some (.int 25)] [] hc_119 0 0 _
  refine Ev.goto (off := -12) (tgt := 5) (by decide +kernel) (by decide) ?_
  refine Ev.blk (pc' := 7) [(.iload_n 2, 0, 0, 0), (.iload_n 3, 0, 0, 0)] (by decide +kernel) trivial rfl (?_)
  show Ev l d mi_J7_fill_53178 7 [some (.ref 40), some (.int (-1)), some (.int 23), some (.int 25)] [.int 25, .int 23] hc_119 0 0 _
  refine Ev.icmp_ge (off := 13) (tgt := 20) (by decide +kernel) (by decide) (fun b => absurd b (by decide)) (fun _ => ?_)
  refine Ev.blk (pc' := 17) [(.aload_n 0, 0, 0, 0), (.iload_n 2, 0, 0, 0), (.iload_n 1, 0, 0, 0), (.iastore, 0, 0, 0), (.iinc 2 1, 0, 0, 0)] (by decide +kernel) trivial rfl (And.intro (kc rfl rfl) (And.intro (ib_ok rfl) (And.intro (Nat.le_of_ble_eq_true rfl) (?_))))
  show Ev l d mi_J7_fill_53178 17 [some (.ref 40), some (.int (-1)), some (.int 24), some (.int 25)] [] hc_120 0 0 _
  refine Ev.goto (off := -12) (tgt := 5) (by decide +kernel) (by decide) ?_
  refine Ev.blk (pc' := 7) [(.iload_n 2, 0, 0, 0), (.iload_n 3, 0, 0, 0)] (by decide +kernel) trivial rfl (?_)
  show Ev l d mi_J7_fill_53178 7 [some (.ref 40), some (.int (-1)), some (.int 24), some (.int 25)] [.int 25, .int 24] hc_120 0 0 _
  refine Ev.icmp_ge (off := 13) (tgt := 20) (by decide +kernel) (by decide) (fun b => absurd b (by decide)) (fun _ => ?_)
  refine Ev.blk (pc' := 17) [(.aload_n 0, 0, 0, 0), (.iload_n 2, 0, 0, 0), (.iload_n 1, 0, 0, 0), (.iastore, 0, 0, 0), (.iinc 2 1, 0, 0, 0)] (by decide +kernel) trivial rfl (And.intro (kc rfl rfl) (And.intro (ib_ok rfl) (And.intro (Nat.le_of_ble_eq_true rfl) (?_))))
  show Ev l d mi_J7_fill_53178 17 [some (.ref 40), some (.int (-1)), some (.int 25), some (.int 25)] [] hc_121 0 0 _
  refine Ev.goto (off := -12) (tgt := 5) (by decide +kernel) (by decide) ?_
  refine Ev.blk (pc' := 7) [(.iload_n 2, 0, 0, 0), (.iload_n 3, 0, 0, 0)] (by decide +kernel) trivial rfl (?_)
  show Ev l d mi_J7_fill_53178 7 [some (.ref 40), some (.int (-1)), some (.int 25), some (.int 25)] [.int 25, .int 25] hc_121 0 0 _
  refine Ev.icmp_ge (off := 13) (tgt := 20) (by decide +kernel) (by decide) (fun _ => ?_) (fun b => absurd (by decide) b)
  exact Ev.vret rfl (by decide +kernel) (Nat.le_of_ble_eq_true rfl) (Nat.le_of_ble_eq_true rfl)
def hc_122 : SH := (sm_I (sm_I (sm_I (sm_I hc_121 41 0 0) 41 1 0) 36 8 0) 36 9 0)
set_option maxHeartbeats 4000000 in
set_option maxRecDepth 40000 in
theorem tr_12_X3_settle {l : Launch} {d : Nat} (hd : 2 ≤ d) : Cl l d mi_X3_settle [.ref 36] hc_96 (none, hc_122) := by
  refine Ev.entry (by decide +kernel) rfl rfl ?_
  show Ev l d mi_X3_settle 0 [some (.ref 36), none, none] [] hc_96 0 0 _
  refine Ev.blk (pc' := 5) [(.aload_n 0, 0, 0, 0), (.getfield 28, 0, 3, 6), (.iconst (-1), 0, 0, 0)] (by decide +kernel) ⟨kf_3_28, trivial⟩ rfl (And.intro (kc rfl rfl) (Exists.intro 40 (And.intro rfl (?_))))
  show Ev l d mi_X3_settle 5 [some (.ref 36), none, none] [.int (-1), .ref 40] hc_96 0 0 _
  refine Ev.callS (M' := mi_J7_fill_53178) (d' := d - 1) (As := [.ref 40, .int (-1)]) (rest := []) (r' := (none, hc_121)) (tr_11_J7_fill_53178 (d := d - 1) (by omega)) (by omega) wm_J7_fill_53178 wt_J7_fill_53178 km_3_84 rfl rfl rfl (Nat.le_of_ble_eq_true rfl) ⟨Nat.le_of_ble_eq_true rfl, Nat.le_of_ble_eq_true rfl⟩ (by decide +kernel) ?_
  show Ev l d mi_X3_settle 8 [some (.ref 36), none, none] [] hc_121 0 0 _
  refine Ev.blk (pc' := 42) [(.aload_n 0, 0, 0, 0), (.getfield 31, 0, 3, 7), (.iconst 0, 0, 0, 0), (.iconst 0, 0, 0, 0), (.iastore, 0, 0, 0), (.aload_n 0, 0, 0, 0), (.getfield 31, 0, 3, 7), (.iconst 1, 0, 0, 0), (.iconst 0, 0, 0, 0), (.iastore, 0, 0, 0), (.aload_n 0, 0, 0, 0), (.iconst 0, 0, 0, 0), (.putfield 34, 0, 3, 8), (.aload_n 0, 0, 0, 0), (.iconst 0, 0, 0, 0), (.putfield 37, 0, 3, 9), (.iconst 0, 0, 0, 0), (.istore_n 1, 0, 0, 0), (.iload_n 1, 0, 0, 0), (.aload_n 0, 0, 0, 0), (.getfield 56, 0, 3, 0), (.getfield 66, 0, 4, 8)] (by decide +kernel) ⟨kf_3_31, ⟨kf_3_31, ⟨⟨kf_3_34, Or.inl rfl⟩, ⟨⟨kf_3_37, Or.inl rfl⟩, ⟨kf_3_56, ⟨kf_3_66, trivial⟩⟩⟩⟩⟩⟩ rfl (And.intro (kc rfl rfl) (Exists.intro 41 (And.intro rfl (And.intro (kc rfl rfl) (And.intro (ib_ok rfl) (And.intro (kc rfl rfl) (Exists.intro 41 (And.intro rfl (And.intro (kc rfl rfl) (And.intro (ib_ok rfl) (And.intro (kc rfl rfl) (And.intro (kc rfl rfl) (And.intro (Nat.le_of_ble_eq_true rfl) (And.intro (kc rfl rfl) (Exists.intro 6 (And.intro rfl (And.intro (kc rfl rfl) (?_))))))))))))))))))
  show Ev l d mi_X3_settle 42 [some (.ref 36), some (.int 0), none] [.int 0, .int 0] hc_122 0 0 _
  refine Ev.icmp_ge (off := 64) (tgt := 106) (by decide +kernel) (by decide) (fun _ => ?_) (fun b => absurd (by decide) b)
  exact Ev.vret rfl (by decide +kernel) (Nat.le_of_ble_eq_true rfl) (Nat.le_of_ble_eq_true rfl)
set_option maxHeartbeats 4000000 in
set_option maxRecDepth 40000 in
theorem tr_13_X3_init {l : Launch} {d : Nat} (hd : 3 ≤ d) : Cl l d mi_X3_init [.ref 36, .ref 6] hc_77 (none, hc_122) := by
  refine Ev.entry (by decide +kernel) rfl rfl ?_
  show Ev l d mi_X3_init 0 [some (.ref 36), some (.ref 6)] [] hc_77 0 0 _
  refine Ev.blk (pc' := 1) [(.aload_n 0, 0, 0, 0)] (by decide +kernel) trivial rfl (?_)
  show Ev l d mi_X3_init 1 [some (.ref 36), some (.ref 6)] [.ref 36] hc_77 0 0 _
  refine Ev.objInit ko_3_3 woi1 woi2 (Nat.le_of_ble_eq_true rfl) (by omega) (Nat.le_of_ble_eq_true rfl) (by decide +kernel) ?_
  show Ev l d mi_X3_init 4 [some (.ref 36), some (.ref 6)] [] hc_77 0 0 _
  refine Ev.blk (pc' := 16) [(.aload_n 0, 0, 0, 0), (.iconst 0, 0, 0, 0), (.putfield 9, 0, 3, 1), (.aload_n 0, 0, 0, 0), (.iconst 0, 0, 0, 0), (.putfield 15, 0, 3, 2), (.aload_n 0, 0, 0, 0), (.iconst 2, 0, 0, 0)] (by decide +kernel) ⟨⟨kf_3_9, Or.inl rfl⟩, ⟨⟨kf_3_15, Or.inl rfl⟩, trivial⟩⟩ rfl (And.intro (kc rfl rfl) (And.intro (kc rfl rfl) (?_)))
  show Ev l d mi_X3_init 16 [some (.ref 36), some (.ref 6)] [.int 2, .ref 36] hc_78 0 0 _
  refine Ev.newarray (at' := .int) (c := 13) (ty := .int) rfl (Or.inr (Or.inr ⟨rfl, rfl⟩)) war_int (by decide) (by decide) (Nat.le_of_ble_eq_true rfl) ⟨Nat.le_of_ble_eq_true rfl, Nat.le_of_ble_eq_true rfl⟩ (by decide +kernel) ?_
  show Ev l d mi_X3_init 18 [some (.ref 36), some (.ref 6)] [.ref 37, .ref 36] hc_79 1 2 _
  refine Ev.blk (pc' := 24) [(.putfield 18, 0, 3, 3), (.aload_n 0, 0, 0, 0), (.bipush 8, 0, 0, 0)] (by decide +kernel) ⟨⟨kf_3_18, Or.inr ⟨rfl, rfl, rfl⟩⟩, trivial⟩ rfl (And.intro (kc rfl rfl) (?_))
  show Ev l d mi_X3_init 24 [some (.ref 36), some (.ref 6)] [.int 8, .ref 36] hc_80 1 2 _
  refine Ev.newarray (at' := .int) (c := 13) (ty := .int) rfl (Or.inr (Or.inr ⟨rfl, rfl⟩)) war_int (by decide) (by decide) (Nat.le_of_ble_eq_true rfl) ⟨Nat.le_of_ble_eq_true rfl, Nat.le_of_ble_eq_true rfl⟩ (by decide +kernel) ?_
  show Ev l d mi_X3_init 26 [some (.ref 36), some (.ref 6)] [.ref 38, .ref 36] hc_81 2 10 _
  refine Ev.blk (pc' := 32) [(.putfield 22, 0, 3, 4), (.aload_n 0, 0, 0, 0), (.bipush 6, 0, 0, 0)] (by decide +kernel) ⟨⟨kf_3_22, Or.inr ⟨rfl, rfl, rfl⟩⟩, trivial⟩ rfl (And.intro (kc rfl rfl) (?_))
  show Ev l d mi_X3_init 32 [some (.ref 36), some (.ref 6)] [.int 6, .ref 36] hc_82 2 10 _
  refine Ev.newarray (at' := .int) (c := 13) (ty := .int) rfl (Or.inr (Or.inr ⟨rfl, rfl⟩)) war_int (by decide) (by decide) (Nat.le_of_ble_eq_true rfl) ⟨Nat.le_of_ble_eq_true rfl, Nat.le_of_ble_eq_true rfl⟩ (by decide +kernel) ?_
  show Ev l d mi_X3_init 34 [some (.ref 36), some (.ref 6)] [.ref 39, .ref 36] hc_83 3 16 _
  refine Ev.blk (pc' := 40) [(.putfield 25, 0, 3, 5), (.aload_n 0, 0, 0, 0), (.bipush 25, 0, 0, 0)] (by decide +kernel) ⟨⟨kf_3_25, Or.inr ⟨rfl, rfl, rfl⟩⟩, trivial⟩ rfl (And.intro (kc rfl rfl) (?_))
  show Ev l d mi_X3_init 40 [some (.ref 36), some (.ref 6)] [.int 25, .ref 36] hc_84 3 16 _
  refine Ev.newarray (at' := .int) (c := 13) (ty := .int) rfl (Or.inr (Or.inr ⟨rfl, rfl⟩)) war_int (by decide) (by decide) (Nat.le_of_ble_eq_true rfl) ⟨Nat.le_of_ble_eq_true rfl, Nat.le_of_ble_eq_true rfl⟩ (by decide +kernel) ?_
  show Ev l d mi_X3_init 42 [some (.ref 36), some (.ref 6)] [.ref 40, .ref 36] hc_85 4 41 _
  refine Ev.blk (pc' := 47) [(.putfield 28, 0, 3, 6), (.aload_n 0, 0, 0, 0), (.iconst 2, 0, 0, 0)] (by decide +kernel) ⟨⟨kf_3_28, Or.inr ⟨rfl, rfl, rfl⟩⟩, trivial⟩ rfl (And.intro (kc rfl rfl) (?_))
  show Ev l d mi_X3_init 47 [some (.ref 36), some (.ref 6)] [.int 2, .ref 36] hc_86 4 41 _
  refine Ev.newarray (at' := .int) (c := 13) (ty := .int) rfl (Or.inr (Or.inr ⟨rfl, rfl⟩)) war_int (by decide) (by decide) (Nat.le_of_ble_eq_true rfl) ⟨Nat.le_of_ble_eq_true rfl, Nat.le_of_ble_eq_true rfl⟩ (by decide +kernel) ?_
  show Ev l d mi_X3_init 49 [some (.ref 36), some (.ref 6)] [.ref 41, .ref 36] hc_87 5 43 _
  refine Ev.blk (pc' := 63) [(.putfield 31, 0, 3, 7), (.aload_n 0, 0, 0, 0), (.iconst 0, 0, 0, 0), (.putfield 34, 0, 3, 8), (.aload_n 0, 0, 0, 0), (.iconst 0, 0, 0, 0), (.putfield 37, 0, 3, 9), (.aload_n 0, 0, 0, 0)] (by decide +kernel) ⟨⟨kf_3_31, Or.inr ⟨rfl, rfl, rfl⟩⟩, ⟨⟨kf_3_34, Or.inl rfl⟩, ⟨⟨kf_3_37, Or.inl rfl⟩, trivial⟩⟩⟩ rfl (And.intro (kc rfl rfl) (And.intro (kc rfl rfl) (And.intro (kc rfl rfl) (?_))))
  show Ev l d mi_X3_init 63 [some (.ref 36), some (.ref 6)] [.ref 36] hc_88 5 43 _
  refine Ev.new (c := 6) (Nat.le_of_ble_eq_true rfl) kx_3_40 kq_6 wini_6 (Nat.le_of_ble_eq_true rfl) ⟨Nat.le_of_ble_eq_true rfl, Nat.le_of_ble_eq_true rfl⟩ (by decide +kernel) ?_
  show Ev l d mi_X3_init 66 [some (.ref 36), some (.ref 6)] [.ref 42, .ref 36] hc_89 6 47 _
  refine Ev.blk (pc' := 67) [(.dup, 0, 0, 0)] (by decide +kernel) trivial rfl (And.intro rfl (?_))
  show Ev l d mi_X3_init 67 [some (.ref 36), some (.ref 6)] [.ref 42, .ref 42, .ref 36] hc_89 6 47 _
  refine Ev.callIN (M' := mi_X6_init) (o := 42) (d' := d - 1) (As := []) (rest := [.ref 42, .ref 36]) (r' := hc_95) (tr_10_X6_init (d := d - 1) (by omega)) (by omega) wm_X6_init rfl rfl wi_X6_init kn_3_42 (Nat.le_of_ble_eq_true rfl) rfl rfl rfl (Nat.le_of_ble_eq_true rfl) ⟨Nat.le_of_ble_eq_true rfl, Nat.le_of_ble_eq_true rfl⟩ (by decide +kernel) ?_
  show Ev l d mi_X3_init 70 [some (.ref 36), some (.ref 6)] [.ref 42, .ref 36] hc_95 9 150 _
  refine Ev.blk (pc' := 94) [(.putfield 43, 0, 3, 10), (.aload_n 0, 0, 0, 0), (.iconst 0, 0, 0, 0), (.putfield 47, 0, 3, 11), (.aload_n 0, 0, 0, 0), (.iconst 0, 0, 0, 0), (.putfield 50, 0, 3, 12), (.aload_n 0, 0, 0, 0), (.iconst 0, 0, 0, 0), (.putfield 53, 0, 3, 13), (.aload_n 0, 0, 0, 0), (.aload_n 1, 0, 0, 0), (.putfield 56, 0, 3, 0), (.aload_n 0, 0, 0, 0)] (by decide +kernel) ⟨⟨kf_3_43, Or.inr ⟨rfl, rfl, rfl⟩⟩, ⟨⟨kf_3_47, Or.inl rfl⟩, ⟨⟨kf_3_50, Or.inl rfl⟩, ⟨⟨kf_3_53, Or.inl rfl⟩, ⟨⟨kf_3_56, Or.inl rfl⟩, trivial⟩⟩⟩⟩⟩ rfl (And.intro (kc rfl rfl) (And.intro (kc rfl rfl) (And.intro (kc rfl rfl) (And.intro (kc rfl rfl) (And.intro (kc rfl rfl) (?_))))))
  show Ev l d mi_X3_init 94 [some (.ref 36), some (.ref 6)] [.ref 36] hc_96 9 150 _
  refine Ev.callV (M' := mi_X3_settle) (o := 36) (d' := d - 1) (As := []) (rest := []) (r' := (none, hc_122)) (tr_12_X3_settle (d := d - 1) (by omega)) (by omega) wm_X3_settle wi_X3_settle wv_X3_settle km_3_60 (kc rfl rfl) (Nat.le_of_ble_eq_true rfl) rfl rfl rfl (Nat.le_of_ble_eq_true rfl) ⟨Nat.le_of_ble_eq_true rfl, Nat.le_of_ble_eq_true rfl⟩ (by decide +kernel) ?_
  show Ev l d mi_X3_init 97 [some (.ref 36), some (.ref 6)] [] hc_122 9 150 _
  exact Ev.vret rfl (by decide +kernel) (Nat.le_of_ble_eq_true rfl) (Nat.le_of_ble_eq_true rfl)
def hc_123 : SH := (sm_R hc_122 0 6 (some 36))
def hc_124 : SH := sm_new hc_123 3 0
def hc_125 : SH := (sm_I (sm_I hc_124 46 1 0) 46 2 0)
def hc_126 : SH := sm_new hc_125 13 2
def hc_127 : SH := (sm_R hc_126 46 3 (some 47))
def hc_128 : SH := sm_new hc_127 13 8
def hc_129 : SH := (sm_R hc_128 46 4 (some 48))
def hc_130 : SH := sm_new hc_129 13 6
def hc_131 : SH := (sm_R hc_130 46 5 (some 49))
def hc_132 : SH := sm_new hc_131 13 25
def hc_133 : SH := (sm_R hc_132 46 6 (some 50))
def hc_134 : SH := sm_new hc_133 13 2
def hc_135 : SH := (sm_I (sm_I (sm_R hc_134 46 7 (some 51)) 46 8 0) 46 9 0)
def hc_136 : SH := sm_new hc_135 6 0
def hc_137 : SH := sm_new hc_136 13 33
def hc_138 : SH := (sm_R hc_137 52 0 (some 53))
def hc_139 : SH := sm_new hc_138 13 6
def hc_140 : SH := (sm_R hc_139 52 1 (some 54))
def hc_141 : SH := sm_new hc_140 13 64
def hc_142 : SH := (sm_I (sm_R hc_141 52 2 (some 55)) 52 3 0)
set_option maxHeartbeats 4000000 in
set_option maxRecDepth 40000 in
theorem tr_14_X6_init {l : Launch} {d : Nat} (hd : 1 ≤ d) : Cl l d mi_X6_init [.ref 52] hc_136 (none, hc_142) := by
  refine Ev.entry (by decide +kernel) rfl rfl ?_
  show Ev l d mi_X6_init 0 [some (.ref 52)] [] hc_136 0 0 _
  refine Ev.blk (pc' := 1) [(.aload_n 0, 0, 0, 0)] (by decide +kernel) trivial rfl (?_)
  show Ev l d mi_X6_init 1 [some (.ref 52)] [.ref 52] hc_136 0 0 _
  refine Ev.objInit ko_6_3 woi1 woi2 (Nat.le_of_ble_eq_true rfl) (by omega) (Nat.le_of_ble_eq_true rfl) (by decide +kernel) ?_
  show Ev l d mi_X6_init 4 [some (.ref 52)] [] hc_136 0 0 _
  refine Ev.blk (pc' := 7) [(.aload_n 0, 0, 0, 0), (.bipush 33, 0, 0, 0)] (by decide +kernel) trivial rfl (?_)
  show Ev l d mi_X6_init 7 [some (.ref 52)] [.int 33, .ref 52] hc_136 0 0 _
  refine Ev.newarray (at' := .int) (c := 13) (ty := .int) rfl (Or.inr (Or.inr ⟨rfl, rfl⟩)) war_int (by decide) (by decide) (Nat.le_of_ble_eq_true rfl) ⟨Nat.le_of_ble_eq_true rfl, Nat.le_of_ble_eq_true rfl⟩ (by decide +kernel) ?_
  show Ev l d mi_X6_init 9 [some (.ref 52)] [.ref 53, .ref 52] hc_137 1 33 _
  refine Ev.blk (pc' := 15) [(.putfield 9, 0, 6, 0), (.aload_n 0, 0, 0, 0), (.bipush 6, 0, 0, 0)] (by decide +kernel) ⟨⟨kf_6_9, Or.inr ⟨rfl, rfl, rfl⟩⟩, trivial⟩ rfl (And.intro (kc rfl rfl) (?_))
  show Ev l d mi_X6_init 15 [some (.ref 52)] [.int 6, .ref 52] hc_138 1 33 _
  refine Ev.newarray (at' := .int) (c := 13) (ty := .int) rfl (Or.inr (Or.inr ⟨rfl, rfl⟩)) war_int (by decide) (by decide) (Nat.le_of_ble_eq_true rfl) ⟨Nat.le_of_ble_eq_true rfl, Nat.le_of_ble_eq_true rfl⟩ (by decide +kernel) ?_
  show Ev l d mi_X6_init 17 [some (.ref 52)] [.ref 54, .ref 52] hc_139 2 39 _
  refine Ev.blk (pc' := 23) [(.putfield 15, 0, 6, 1), (.aload_n 0, 0, 0, 0), (.bipush 64, 0, 0, 0)] (by decide +kernel) ⟨⟨kf_6_15, Or.inr ⟨rfl, rfl, rfl⟩⟩, trivial⟩ rfl (And.intro (kc rfl rfl) (?_))
  show Ev l d mi_X6_init 23 [some (.ref 52)] [.int 64, .ref 52] hc_140 2 39 _
  refine Ev.newarray (at' := .int) (c := 13) (ty := .int) rfl (Or.inr (Or.inr ⟨rfl, rfl⟩)) war_int (by decide) (by decide) (Nat.le_of_ble_eq_true rfl) ⟨Nat.le_of_ble_eq_true rfl, Nat.le_of_ble_eq_true rfl⟩ (by decide +kernel) ?_
  show Ev l d mi_X6_init 25 [some (.ref 52)] [.ref 55, .ref 52] hc_141 3 103 _
  refine Ev.blk (pc' := 33) [(.putfield 18, 0, 6, 2), (.aload_n 0, 0, 0, 0), (.iconst 0, 0, 0, 0), (.putfield 21, 0, 6, 3)] (by decide +kernel) ⟨⟨kf_6_18, Or.inr ⟨rfl, rfl, rfl⟩⟩, ⟨⟨kf_6_21, Or.inl rfl⟩, trivial⟩⟩ rfl (And.intro (kc rfl rfl) (And.intro (kc rfl rfl) (?_)))
  show Ev l d mi_X6_init 33 [some (.ref 52)] [] hc_142 3 103 _
  exact Ev.vret rfl (by decide +kernel) (Nat.le_of_ble_eq_true rfl) (Nat.le_of_ble_eq_true rfl)
def hc_143 : SH := (sm_R (sm_I (sm_I (sm_I (sm_R hc_142 46 10 (some 52)) 46 11 0) 46 12 0) 46 13 0) 46 0 (some 6))
def hc_144 : SH := (sm_I hc_143 50 0 (-1))
def hc_145 : SH := (sm_I hc_144 50 1 (-1))
def hc_146 : SH := (sm_I hc_145 50 2 (-1))
def hc_147 : SH := (sm_I hc_146 50 3 (-1))
def hc_148 : SH := (sm_I hc_147 50 4 (-1))
def hc_149 : SH := (sm_I hc_148 50 5 (-1))
def hc_150 : SH := (sm_I hc_149 50 6 (-1))
def hc_151 : SH := (sm_I hc_150 50 7 (-1))
def hc_152 : SH := (sm_I hc_151 50 8 (-1))
def hc_153 : SH := (sm_I hc_152 50 9 (-1))
def hc_154 : SH := (sm_I hc_153 50 10 (-1))
def hc_155 : SH := (sm_I hc_154 50 11 (-1))
def hc_156 : SH := (sm_I hc_155 50 12 (-1))
def hc_157 : SH := (sm_I hc_156 50 13 (-1))
def hc_158 : SH := (sm_I hc_157 50 14 (-1))
def hc_159 : SH := (sm_I hc_158 50 15 (-1))
def hc_160 : SH := (sm_I hc_159 50 16 (-1))
def hc_161 : SH := (sm_I hc_160 50 17 (-1))
def hc_162 : SH := (sm_I hc_161 50 18 (-1))
def hc_163 : SH := (sm_I hc_162 50 19 (-1))
def hc_164 : SH := (sm_I hc_163 50 20 (-1))
def hc_165 : SH := (sm_I hc_164 50 21 (-1))
def hc_166 : SH := (sm_I hc_165 50 22 (-1))
def hc_167 : SH := (sm_I hc_166 50 23 (-1))
def hc_168 : SH := (sm_I hc_167 50 24 (-1))
set_option maxHeartbeats 4000000 in
set_option maxRecDepth 40000 in
theorem tr_15_J7_fill_53178 {l : Launch} {d : Nat} (hd : 1 ≤ d) : Cl l d mi_J7_fill_53178 [.ref 50, .int (-1)] hc_143 (none, hc_168) := by
  refine Ev.entry (by decide +kernel) rfl rfl ?_
  show Ev l d mi_J7_fill_53178 0 [some (.ref 50), some (.int (-1)), none, none] [] hc_143 0 0 _
  refine Ev.blk (pc' := 7) [(.iconst 0, 0, 0, 0), (.istore_n 2, 0, 0, 0), (.aload_n 0, 0, 0, 0), (.arraylength, 0, 0, 0), (.istore_n 3, 0, 0, 0), (.iload_n 2, 0, 0, 0), (.iload_n 3, 0, 0, 0)] (by decide +kernel) trivial rfl (And.intro (Nat.le_of_ble_eq_true rfl) (And.intro (kl rfl rfl rfl) (And.intro (Nat.le_of_ble_eq_true rfl) (?_))))
  show Ev l d mi_J7_fill_53178 7 [some (.ref 50), some (.int (-1)), some (.int 0), some (.int 25)] [.int 25, .int 0] hc_143 0 0 _
  refine Ev.icmp_ge (off := 13) (tgt := 20) (by decide +kernel) (by decide) (fun b => absurd b (by decide)) (fun _ => ?_)
  refine Ev.blk (pc' := 17) [(.aload_n 0, 0, 0, 0), (.iload_n 2, 0, 0, 0), (.iload_n 1, 0, 0, 0), (.iastore, 0, 0, 0), (.iinc 2 1, 0, 0, 0)] (by decide +kernel) trivial rfl (And.intro (kc rfl rfl) (And.intro (ib_ok rfl) (And.intro (Nat.le_of_ble_eq_true rfl) (?_))))
  show Ev l d mi_J7_fill_53178 17 [some (.ref 50), some (.int (-1)), some (.int 1), some (.int 25)] [] hc_144 0 0 _
  refine Ev.goto (off := -12) (tgt := 5) (by decide +kernel) (by decide) ?_
  refine Ev.blk (pc' := 7) [(.iload_n 2, 0, 0, 0), (.iload_n 3, 0, 0, 0)] (by decide +kernel) trivial rfl (?_)
  show Ev l d mi_J7_fill_53178 7 [some (.ref 50), some (.int (-1)), some (.int 1), some (.int 25)] [.int 25, .int 1] hc_144 0 0 _
  refine Ev.icmp_ge (off := 13) (tgt := 20) (by decide +kernel) (by decide) (fun b => absurd b (by decide)) (fun _ => ?_)
  refine Ev.blk (pc' := 17) [(.aload_n 0, 0, 0, 0), (.iload_n 2, 0, 0, 0), (.iload_n 1, 0, 0, 0), (.iastore, 0, 0, 0), (.iinc 2 1, 0, 0, 0)] (by decide +kernel) trivial rfl (And.intro (kc rfl rfl) (And.intro (ib_ok rfl) (And.intro (Nat.le_of_ble_eq_true rfl) (?_))))
  show Ev l d mi_J7_fill_53178 17 [some (.ref 50), some (.int (-1)), some (.int 2), some (.int 25)] [] hc_145 0 0 _
  refine Ev.goto (off := -12) (tgt := 5) (by decide +kernel) (by decide) ?_
  refine Ev.blk (pc' := 7) [(.iload_n 2, 0, 0, 0), (.iload_n 3, 0, 0, 0)] (by decide +kernel) trivial rfl (?_)
  show Ev l d mi_J7_fill_53178 7 [some (.ref 50), some (.int (-1)), some (.int 2), some (.int 25)] [.int 25, .int 2] hc_145 0 0 _
  refine Ev.icmp_ge (off := 13) (tgt := 20) (by decide +kernel) (by decide) (fun b => absurd b (by decide)) (fun _ => ?_)
  refine Ev.blk (pc' := 17) [(.aload_n 0, 0, 0, 0), (.iload_n 2, 0, 0, 0), (.iload_n 1, 0, 0, 0), (.iastore, 0, 0, 0), (.iinc 2 1, 0, 0, 0)] (by decide +kernel) trivial rfl (And.intro (kc rfl rfl) (And.intro (ib_ok rfl) (And.intro (Nat.le_of_ble_eq_true rfl) (?_))))
  show Ev l d mi_J7_fill_53178 17 [some (.ref 50), some (.int (-1)), some (.int 3), some (.int 25)] [] hc_146 0 0 _
  refine Ev.goto (off := -12) (tgt := 5) (by decide +kernel) (by decide) ?_
  refine Ev.blk (pc' := 7) [(.iload_n 2, 0, 0, 0), (.iload_n 3, 0, 0, 0)] (by decide +kernel) trivial rfl (?_)
  show Ev l d mi_J7_fill_53178 7 [some (.ref 50), some (.int (-1)), some (.int 3), some (.int 25)] [.int 25, .int 3] hc_146 0 0 _
  refine Ev.icmp_ge (off := 13) (tgt := 20) (by decide +kernel) (by decide) (fun b => absurd b (by decide)) (fun _ => ?_)
  refine Ev.blk (pc' := 17) [(.aload_n 0, 0, 0, 0), (.iload_n 2, 0, 0, 0), (.iload_n 1, 0, 0, 0), (.iastore, 0, 0, 0), (.iinc 2 1, 0, 0, 0)] (by decide +kernel) trivial rfl (And.intro (kc rfl rfl) (And.intro (ib_ok rfl) (And.intro (Nat.le_of_ble_eq_true rfl) (?_))))
  show Ev l d mi_J7_fill_53178 17 [some (.ref 50), some (.int (-1)), some (.int 4), some (.int 25)] [] hc_147 0 0 _
  refine Ev.goto (off := -12) (tgt := 5) (by decide +kernel) (by decide) ?_
  refine Ev.blk (pc' := 7) [(.iload_n 2, 0, 0, 0), (.iload_n 3, 0, 0, 0)] (by decide +kernel) trivial rfl (?_)
  show Ev l d mi_J7_fill_53178 7 [some (.ref 50), some (.int (-1)), some (.int 4), some (.int 25)] [.int 25, .int 4] hc_147 0 0 _
  refine Ev.icmp_ge (off := 13) (tgt := 20) (by decide +kernel) (by decide) (fun b => absurd b (by decide)) (fun _ => ?_)
  refine Ev.blk (pc' := 17) [(.aload_n 0, 0, 0, 0), (.iload_n 2, 0, 0, 0), (.iload_n 1, 0, 0, 0), (.iastore, 0, 0, 0), (.iinc 2 1, 0, 0, 0)] (by decide +kernel) trivial rfl (And.intro (kc rfl rfl) (And.intro (ib_ok rfl) (And.intro (Nat.le_of_ble_eq_true rfl) (?_))))
  show Ev l d mi_J7_fill_53178 17 [some (.ref 50), some (.int (-1)), some (.int 5), some (.int 25)] [] hc_148 0 0 _
  refine Ev.goto (off := -12) (tgt := 5) (by decide +kernel) (by decide) ?_
  refine Ev.blk (pc' := 7) [(.iload_n 2, 0, 0, 0), (.iload_n 3, 0, 0, 0)] (by decide +kernel) trivial rfl (?_)
  show Ev l d mi_J7_fill_53178 7 [some (.ref 50), some (.int (-1)), some (.int 5), some (.int 25)] [.int 25, .int 5] hc_148 0 0 _
  refine Ev.icmp_ge (off := 13) (tgt := 20) (by decide +kernel) (by decide) (fun b => absurd b (by decide)) (fun _ => ?_)
  refine Ev.blk (pc' := 17) [(.aload_n 0, 0, 0, 0), (.iload_n 2, 0, 0, 0), (.iload_n 1, 0, 0, 0), (.iastore, 0, 0, 0), (.iinc 2 1, 0, 0, 0)] (by decide +kernel) trivial rfl (And.intro (kc rfl rfl) (And.intro (ib_ok rfl) (And.intro (Nat.le_of_ble_eq_true rfl) (?_))))
  show Ev l d mi_J7_fill_53178 17 [some (.ref 50), some (.int (-1)), some (.int 6), some (.int 25)] [] hc_149 0 0 _
  refine Ev.goto (off := -12) (tgt := 5) (by decide +kernel) (by decide) ?_
  refine Ev.blk (pc' := 7) [(.iload_n 2, 0, 0, 0), (.iload_n 3, 0, 0, 0)] (by decide +kernel) trivial rfl (?_)
  show Ev l d mi_J7_fill_53178 7 [some (.ref 50), some (.int (-1)), some (.int 6), some (.int 25)] [.int 25, .int 6] hc_149 0 0 _
  refine Ev.icmp_ge (off := 13) (tgt := 20) (by decide +kernel) (by decide) (fun b => absurd b (by decide)) (fun _ => ?_)
  refine Ev.blk (pc' := 17) [(.aload_n 0, 0, 0, 0), (.iload_n 2, 0, 0, 0), (.iload_n 1, 0, 0, 0), (.iastore, 0, 0, 0), (.iinc 2 1, 0, 0, 0)] (by decide +kernel) trivial rfl (And.intro (kc rfl rfl) (And.intro (ib_ok rfl) (And.intro (Nat.le_of_ble_eq_true rfl) (?_))))
  show Ev l d mi_J7_fill_53178 17 [some (.ref 50), some (.int (-1)), some (.int 7), some (.int 25)] [] hc_150 0 0 _
  refine Ev.goto (off := -12) (tgt := 5) (by decide +kernel) (by decide) ?_
  refine Ev.blk (pc' := 7) [(.iload_n 2, 0, 0, 0), (.iload_n 3, 0, 0, 0)] (by decide +kernel) trivial rfl (?_)
  show Ev l d mi_J7_fill_53178 7 [some (.ref 50), some (.int (-1)), some (.int 7), some (.int 25)] [.int 25, .int 7] hc_150 0 0 _
  refine Ev.icmp_ge (off := 13) (tgt := 20) (by decide +kernel) (by decide) (fun b => absurd b (by decide)) (fun _ => ?_)
  refine Ev.blk (pc' := 17) [(.aload_n 0, 0, 0, 0), (.iload_n 2, 0, 0, 0), (.iload_n 1, 0, 0, 0), (.iastore, 0, 0, 0), (.iinc 2 1, 0, 0, 0)] (by decide +kernel) trivial rfl (And.intro (kc rfl rfl) (And.intro (ib_ok rfl) (And.intro (Nat.le_of_ble_eq_true rfl) (?_))))
  show Ev l d mi_J7_fill_53178 17 [some (.ref 50), some (.int (-1)), some (.int 8), some (.int 25)] [] hc_151 0 0 _
  refine Ev.goto (off := -12) (tgt := 5) (by decide +kernel) (by decide) ?_
  refine Ev.blk (pc' := 7) [(.iload_n 2, 0, 0, 0), (.iload_n 3, 0, 0, 0)] (by decide +kernel) trivial rfl (?_)
  show Ev l d mi_J7_fill_53178 7 [some (.ref 50), some (.int (-1)), some (.int 8), some (.int 25)] [.int 25, .int 8] hc_151 0 0 _
  refine Ev.icmp_ge (off := 13) (tgt := 20) (by decide +kernel) (by decide) (fun b => absurd b (by decide)) (fun _ => ?_)
  refine Ev.blk (pc' := 17) [(.aload_n 0, 0, 0, 0), (.iload_n 2, 0, 0, 0), (.iload_n 1, 0, 0, 0), (.iastore, 0, 0, 0), (.iinc 2 1, 0, 0, 0)] (by decide +kernel) trivial rfl (And.intro (kc rfl rfl) (And.intro (ib_ok rfl) (And.intro (Nat.le_of_ble_eq_true rfl) (?_))))
  show Ev l d mi_J7_fill_53178 17 [some (.ref 50), some (.int (-1)), some (.int 9), some (.int 25)] [] hc_152 0 0 _
  refine Ev.goto (off := -12) (tgt := 5) (by decide +kernel) (by decide) ?_
  refine Ev.blk (pc' := 7) [(.iload_n 2, 0, 0, 0), (.iload_n 3, 0, 0, 0)] (by decide +kernel) trivial rfl (?_)
  show Ev l d mi_J7_fill_53178 7 [some (.ref 50), some (.int (-1)), some (.int 9), some (.int 25)] [.int 25, .int 9] hc_152 0 0 _
  refine Ev.icmp_ge (off := 13) (tgt := 20) (by decide +kernel) (by decide) (fun b => absurd b (by decide)) (fun _ => ?_)
  refine Ev.blk (pc' := 17) [(.aload_n 0, 0, 0, 0), (.iload_n 2, 0, 0, 0), (.iload_n 1, 0, 0, 0), (.iastore, 0, 0, 0), (.iinc 2 1, 0, 0, 0)] (by decide +kernel) trivial rfl (And.intro (kc rfl rfl) (And.intro (ib_ok rfl) (And.intro (Nat.le_of_ble_eq_true rfl) (?_))))
  show Ev l d mi_J7_fill_53178 17 [some (.ref 50), some (.int (-1)), some (.int 10), some (.int 25)] [] hc_153 0 0 _
  refine Ev.goto (off := -12) (tgt := 5) (by decide +kernel) (by decide) ?_
  refine Ev.blk (pc' := 7) [(.iload_n 2, 0, 0, 0), (.iload_n 3, 0, 0, 0)] (by decide +kernel) trivial rfl (?_)
  show Ev l d mi_J7_fill_53178 7 [some (.ref 50), some (.int (-1)), some (.int 10), some (.int 25)] [.int 25, .int 10] hc_153 0 0 _
  refine Ev.icmp_ge (off := 13) (tgt := 20) (by decide +kernel) (by decide) (fun b => absurd b (by decide)) (fun _ => ?_)
  refine Ev.blk (pc' := 17) [(.aload_n 0, 0, 0, 0), (.iload_n 2, 0, 0, 0), (.iload_n 1, 0, 0, 0), (.iastore, 0, 0, 0), (.iinc 2 1, 0, 0, 0)] (by decide +kernel) trivial rfl (And.intro (kc rfl rfl) (And.intro (ib_ok rfl) (And.intro (Nat.le_of_ble_eq_true rfl) (?_))))
  show Ev l d mi_J7_fill_53178 17 [some (.ref 50), some (.int (-1)), some (.int 11), some (.int 25)] [] hc_154 0 0 _
  refine Ev.goto (off := -12) (tgt := 5) (by decide +kernel) (by decide) ?_
  refine Ev.blk (pc' := 7) [(.iload_n 2, 0, 0, 0), (.iload_n 3, 0, 0, 0)] (by decide +kernel) trivial rfl (?_)
  show Ev l d mi_J7_fill_53178 7 [some (.ref 50), some (.int (-1)), some (.int 11), some (.int 25)] [.int 25, .int 11] hc_154 0 0 _
  refine Ev.icmp_ge (off := 13) (tgt := 20) (by decide +kernel) (by decide) (fun b => absurd b (by decide)) (fun _ => ?_)
  refine Ev.blk (pc' := 17) [(.aload_n 0, 0, 0, 0), (.iload_n 2, 0, 0, 0), (.iload_n 1, 0, 0, 0), (.iastore, 0, 0, 0), (.iinc 2 1, 0, 0, 0)] (by decide +kernel) trivial rfl (And.intro (kc rfl rfl) (And.intro (ib_ok rfl) (And.intro (Nat.le_of_ble_eq_true rfl) (?_))))
  show Ev l d mi_J7_fill_53178 17 [some (.ref 50), some (.int (-1)), some (.int 12), some (.int 25)] [] hc_155 0 0 _
  refine Ev.goto (off := -12) (tgt := 5) (by decide +kernel) (by decide) ?_
  refine Ev.blk (pc' := 7) [(.iload_n 2, 0, 0, 0), (.iload_n 3, 0, 0, 0)] (by decide +kernel) trivial rfl (?_)
  show Ev l d mi_J7_fill_53178 7 [some (.ref 50), some (.int (-1)), some (.int 12), some (.int 25)] [.int 25, .int 12] hc_155 0 0 _
  refine Ev.icmp_ge (off := 13) (tgt := 20) (by decide +kernel) (by decide) (fun b => absurd b (by decide)) (fun _ => ?_)
  refine Ev.blk (pc' := 17) [(.aload_n 0, 0, 0, 0), (.iload_n 2, 0, 0, 0), (.iload_n 1, 0, 0, 0), (.iastore, 0, 0, 0), (.iinc 2 1, 0, 0, 0)] (by decide +kernel) trivial rfl (And.intro (kc rfl rfl) (And.intro (ib_ok rfl) (And.intro (Nat.le_of_ble_eq_true rfl) (?_))))
  show Ev l d mi_J7_fill_53178 17 [some (.ref 50), some (.int (-1)), some (.int 13), some (.int 25)] [] hc_156 0 0 _
  refine Ev.goto (off := -12) (tgt := 5) (by decide +kernel) (by decide) ?_
  refine Ev.blk (pc' := 7) [(.iload_n 2, 0, 0, 0), (.iload_n 3, 0, 0, 0)] (by decide +kernel) trivial rfl (?_)
  show Ev l d mi_J7_fill_53178 7 [some (.ref 50), some (.int (-1)), some (.int 13), some (.int 25)] [.int 25, .int 13] hc_156 0 0 _
  refine Ev.icmp_ge (off := 13) (tgt := 20) (by decide +kernel) (by decide) (fun b => absurd b (by decide)) (fun _ => ?_)
  refine Ev.blk (pc' := 17) [(.aload_n 0, 0, 0, 0), (.iload_n 2, 0, 0, 0), (.iload_n 1, 0, 0, 0), (.iastore, 0, 0, 0), (.iinc 2 1, 0, 0, 0)] (by decide +kernel) trivial rfl (And.intro (kc rfl rfl) (And.intro (ib_ok rfl) (And.intro (Nat.le_of_ble_eq_true rfl) (?_))))
  show Ev l d mi_J7_fill_53178 17 [some (.ref 50), some (.int (-1)), some (.int 14), some (.int 25)] [] hc_157 0 0 _
  refine Ev.goto (off := -12) (tgt := 5) (by decide +kernel) (by decide) ?_
  refine Ev.blk (pc' := 7) [(.iload_n 2, 0, 0, 0), (.iload_n 3, 0, 0, 0)] (by decide +kernel) trivial rfl (?_)
  show Ev l d mi_J7_fill_53178 7 [some (.ref 50), some (.int (-1)), some (.int 14), some (.int 25)] [.int 25, .int 14] hc_157 0 0 _
  refine Ev.icmp_ge (off := 13) (tgt := 20) (by decide +kernel) (by decide) (fun b => absurd b (by decide)) (fun _ => ?_)
  refine Ev.blk (pc' := 17) [(.aload_n 0, 0, 0, 0), (.iload_n 2, 0, 0, 0), (.iload_n 1, 0, 0, 0), (.iastore, 0, 0, 0), (.iinc 2 1, 0, 0, 0)] (by decide +kernel) trivial rfl (And.intro (kc rfl rfl) (And.intro (ib_ok rfl) (And.intro (Nat.le_of_ble_eq_true rfl) (?_))))
  show Ev l d mi_J7_fill_53178 17 [some (.ref 50), some (.int (-1)), some (.int 15), some (.int 25)] [] hc_158 0 0 _
  refine Ev.goto (off := -12) (tgt := 5) (by decide +kernel) (by decide) ?_
  refine Ev.blk (pc' := 7) [(.iload_n 2, 0, 0, 0), (.iload_n 3, 0, 0, 0)] (by decide +kernel) trivial rfl (?_)
  show Ev l d mi_J7_fill_53178 7 [some (.ref 50), some (.int (-1)), some (.int 15), some (.int 25)] [.int 25, .int 15] hc_158 0 0 _
  refine Ev.icmp_ge (off := 13) (tgt := 20) (by decide +kernel) (by decide) (fun b => absurd b (by decide)) (fun _ => ?_)
  refine Ev.blk (pc' := 17) [(.aload_n 0, 0, 0, 0), (.iload_n 2, 0, 0, 0), (.iload_n 1, 0, 0, 0), (.iastore, 0, 0, 0), (.iinc 2 1, 0, 0, 0)] (by decide +kernel) trivial rfl (And.intro (kc rfl rfl) (And.intro (ib_ok rfl) (And.intro (Nat.le_of_ble_eq_true rfl) (?_))))
  show Ev l d mi_J7_fill_53178 17 [some (.ref 50), some (.int (-1)), some (.int 16), some (.int 25)] [] hc_159 0 0 _
  refine Ev.goto (off := -12) (tgt := 5) (by decide +kernel) (by decide) ?_
  refine Ev.blk (pc' := 7) [(.iload_n 2, 0, 0, 0), (.iload_n 3, 0, 0, 0)] (by decide +kernel) trivial rfl (?_)
  show Ev l d mi_J7_fill_53178 7 [some (.ref 50), some (.int (-1)), some (.int 16), some (.int 25)] [.int 25, .int 16] hc_159 0 0 _
  refine Ev.icmp_ge (off := 13) (tgt := 20) (by decide +kernel) (by decide) (fun b => absurd b (by decide)) (fun _ => ?_)
  refine Ev.blk (pc' := 17) [(.aload_n 0, 0, 0, 0), (.iload_n 2, 0, 0, 0), (.iload_n 1, 0, 0, 0), (.iastore, 0, 0, 0), (.iinc 2 1, 0, 0, 0)] (by decide +kernel) trivial rfl (And.intro (kc rfl rfl) (And.intro (ib_ok rfl) (And.intro (Nat.le_of_ble_eq_true rfl) (?_))))
  show Ev l d mi_J7_fill_53178 17 [some (.ref 50), some (.int (-1)), some (.int 17), some (.int 25)] [] hc_160 0 0 _
  refine Ev.goto (off := -12) (tgt := 5) (by decide +kernel) (by decide) ?_
  refine Ev.blk (pc' := 7) [(.iload_n 2, 0, 0, 0), (.iload_n 3, 0, 0, 0)] (by decide +kernel) trivial rfl (?_)
  show Ev l d mi_J7_fill_53178 7 [some (.ref 50), some (.int (-1)), some (.int 17), some (.int 25)] [.int 25, .int 17] hc_160 0 0 _
  refine Ev.icmp_ge (off := 13) (tgt := 20) (by decide +kernel) (by decide) (fun b => absurd b (by decide)) (fun _ => ?_)
  refine Ev.blk (pc' := 17) [(.aload_n 0, 0, 0, 0), (.iload_n 2, 0, 0, 0), (.iload_n 1, 0, 0, 0), (.iastore, 0, 0, 0), (.iinc 2 1, 0, 0, 0)] (by decide +kernel) trivial rfl (And.intro (kc rfl rfl) (And.intro (ib_ok rfl) (And.intro (Nat.le_of_ble_eq_true rfl) (?_))))
  show Ev l d mi_J7_fill_53178 17 [some (.ref 50), some (.int (-1)), some (.int 18), some (.int 25)] [] hc_161 0 0 _
  refine Ev.goto (off := -12) (tgt := 5) (by decide +kernel) (by decide) ?_
  refine Ev.blk (pc' := 7) [(.iload_n 2, 0, 0, 0), (.iload_n 3, 0, 0, 0)] (by decide +kernel) trivial rfl (?_)
  show Ev l d mi_J7_fill_53178 7 [some (.ref 50), some (.int (-1)), some (.int 18), some (.int 25)] [.int 25, .int 18] hc_161 0 0 _
  refine Ev.icmp_ge (off := 13) (tgt := 20) (by decide +kernel) (by decide) (fun b => absurd b (by decide)) (fun _ => ?_)
  refine Ev.blk (pc' := 17) [(.aload_n 0, 0, 0, 0), (.iload_n 2, 0, 0, 0), (.iload_n 1, 0, 0, 0), (.iastore, 0, 0, 0), (.iinc 2 1, 0, 0, 0)] (by decide +kernel) trivial rfl (And.intro (kc rfl rfl) (And.intro (ib_ok rfl) (And.intro (Nat.le_of_ble_eq_true rfl) (?_))))
  show Ev l d mi_J7_fill_53178 17 [some (.ref 50), some (.int (-1)), some (.int 19), some (.int 25)] [] hc_162 0 0 _
  refine Ev.goto (off := -12) (tgt := 5) (by decide +kernel) (by decide) ?_
  refine Ev.blk (pc' := 7) [(.iload_n 2, 0, 0, 0), (.iload_n 3, 0, 0, 0)] (by decide +kernel) trivial rfl (?_)
  show Ev l d mi_J7_fill_53178 7 [some (.ref 50), some (.int (-1)), some (.int 19), some (.int 25)] [.int 25, .int 19] hc_162 0 0 _
  refine Ev.icmp_ge (off := 13) (tgt := 20) (by decide +kernel) (by decide) (fun b => absurd b (by decide)) (fun _ => ?_)
  refine Ev.blk (pc' := 17) [(.aload_n 0, 0, 0, 0), (.iload_n 2, 0, 0, 0), (.iload_n 1, 0, 0, 0), (.iastore, 0, 0, 0), (.iinc 2 1, 0, 0, 0)] (by decide +kernel) trivial rfl (And.intro (kc rfl rfl) (And.intro (ib_ok rfl) (And.intro (Nat.le_of_ble_eq_true rfl) (?_))))
  show Ev l d mi_J7_fill_53178 17 [some (.ref 50), some (.int (-1)), some (.int 20), some (.int 25)] [] hc_163 0 0 _
  refine Ev.goto (off := -12) (tgt := 5) (by decide +kernel) (by decide) ?_
  refine Ev.blk (pc' := 7) [(.iload_n 2, 0, 0, 0), (.iload_n 3, 0, 0, 0)] (by decide +kernel) trivial rfl (?_)
  show Ev l d mi_J7_fill_53178 7 [some (.ref 50), some (.int (-1)), some (.int 20), some (.int 25)] [.int 25, .int 20] hc_163 0 0 _
  refine Ev.icmp_ge (off := 13) (tgt := 20) (by decide +kernel) (by decide) (fun b => absurd b (by decide)) (fun _ => ?_)
  refine Ev.blk (pc' := 17) [(.aload_n 0, 0, 0, 0), (.iload_n 2, 0, 0, 0), (.iload_n 1, 0, 0, 0), (.iastore, 0, 0, 0), (.iinc 2 1, 0, 0, 0)] (by decide +kernel) trivial rfl (And.intro (kc rfl rfl) (And.intro (ib_ok rfl) (And.intro (Nat.le_of_ble_eq_true rfl) (?_))))
  show Ev l d mi_J7_fill_53178 17 [some (.ref 50), some (.int (-1)), some (.int 21), some (.int 25)] [] hc_164 0 0 _
  refine Ev.goto (off := -12) (tgt := 5) (by decide +kernel) (by decide) ?_
  refine Ev.blk (pc' := 7) [(.iload_n 2, 0, 0, 0), (.iload_n 3, 0, 0, 0)] (by decide +kernel) trivial rfl (?_)
  show Ev l d mi_J7_fill_53178 7 [some (.ref 50), some (.int (-1)), some (.int 21), some (.int 25)] [.int 25, .int 21] hc_164 0 0 _
  refine Ev.icmp_ge (off := 13) (tgt := 20) (by decide +kernel) (by decide) (fun b => absurd b (by decide)) (fun _ => ?_)
  refine Ev.blk (pc' := 17) [(.aload_n 0, 0, 0, 0), (.iload_n 2, 0, 0, 0), (.iload_n 1, 0, 0, 0), (.iastore, 0, 0, 0), (.iinc 2 1, 0, 0, 0)] (by decide +kernel) trivial rfl (And.intro (kc rfl rfl) (And.intro (ib_ok rfl) (And.intro (Nat.le_of_ble_eq_true rfl) (?_))))
  show Ev l d mi_J7_fill_53178 17 [some (.ref 50), some (.int (-1)), some (.int 22), some (.int 25)] [] hc_165 0 0 _
  refine Ev.goto (off := -12) (tgt := 5) (by decide +kernel) (by decide) ?_
  refine Ev.blk (pc' := 7) [(.iload_n 2, 0, 0, 0), (.iload_n 3, 0, 0, 0)] (by decide +kernel) trivial rfl (?_)
  show Ev l d mi_J7_fill_53178 7 [some (.ref 50), some (.int (-1)), some (.int 22), some (.int 25)] [.int 25, .int 22] hc_165 0 0 _
  refine Ev.icmp_ge (off := 13) (tgt := 20) (by decide +kernel) (by decide) (fun b => absurd b (by decide)) (fun _ => ?_)
  refine Ev.blk (pc' := 17) [(.aload_n 0, 0, 0, 0), (.iload_n 2, 0, 0, 0), (.iload_n 1, 0, 0, 0), (.iastore, 0, 0, 0), (.iinc 2 1, 0, 0, 0)] (by decide +kernel) trivial rfl (And.intro (kc rfl rfl) (And.intro (ib_ok rfl) (And.intro (Nat.le_of_ble_eq_true rfl) (?_))))
  show Ev l d mi_J7_fill_53178 17 [some (.ref 50), some (.int (-1)), some (.int 23), some (.int 25)] [] hc_166 0 0 _
  refine Ev.goto (off := -12) (tgt := 5) (by decide +kernel) (by decide) ?_
  refine Ev.blk (pc' := 7) [(.iload_n 2, 0, 0, 0), (.iload_n 3, 0, 0, 0)] (by decide +kernel) trivial rfl (?_)
  show Ev l d mi_J7_fill_53178 7 [some (.ref 50), some (.int (-1)), some (.int 23), some (.int 25)] [.int 25, .int 23] hc_166 0 0 _
  refine Ev.icmp_ge (off := 13) (tgt := 20) (by decide +kernel) (by decide) (fun b => absurd b (by decide)) (fun _ => ?_)
  refine Ev.blk (pc' := 17) [(.aload_n 0, 0, 0, 0), (.iload_n 2, 0, 0, 0), (.iload_n 1, 0, 0, 0), (.iastore, 0, 0, 0), (.iinc 2 1, 0, 0, 0)] (by decide +kernel) trivial rfl (And.intro (kc rfl rfl) (And.intro (ib_ok rfl) (And.intro (Nat.le_of_ble_eq_true rfl) (?_))))
  show Ev l d mi_J7_fill_53178 17 [some (.ref 50), some (.int (-1)), some (.int 24), some (.int 25)] [] hc_167 0 0 _
  refine Ev.goto (off := -12) (tgt := 5) (by decide +kernel) (by decide) ?_
  refine Ev.blk (pc' := 7) [(.iload_n 2, 0, 0, 0), (.iload_n 3, 0, 0, 0)] (by decide +kernel) trivial rfl (?_)
  show Ev l d mi_J7_fill_53178 7 [some (.ref 50), some (.int (-1)), some (.int 24), some (.int 25)] [.int 25, .int 24] hc_167 0 0 _
  refine Ev.icmp_ge (off := 13) (tgt := 20) (by decide +kernel) (by decide) (fun b => absurd b (by decide)) (fun _ => ?_)
  refine Ev.blk (pc' := 17) [(.aload_n 0, 0, 0, 0), (.iload_n 2, 0, 0, 0), (.iload_n 1, 0, 0, 0), (.iastore, 0, 0, 0), (.iinc 2 1, 0, 0, 0)] (by decide +kernel) trivial rfl (And.intro (kc rfl rfl) (And.intro (ib_ok rfl) (And.intro (Nat.le_of_ble_eq_true rfl) (?_))))
  show Ev l d mi_J7_fill_53178 17 [some (.ref 50), some (.int (-1)), some (.int 25), some (.int 25)] [] hc_168 0 0 _
  refine Ev.goto (off := -12) (tgt := 5) (by decide +kernel) (by decide) ?_
  refine Ev.blk (pc' := 7) [(.iload_n 2, 0, 0, 0), (.iload_n 3, 0, 0, 0)] (by decide +kernel) trivial rfl (?_)
  show Ev l d mi_J7_fill_53178 7 [some (.ref 50), some (.int (-1)), some (.int 25), some (.int 25)] [.int 25, .int 25] hc_168 0 0 _
  refine Ev.icmp_ge (off := 13) (tgt := 20) (by decide +kernel) (by decide) (fun _ => ?_) (fun b => absurd (by decide) b)
  exact Ev.vret rfl (by decide +kernel) (Nat.le_of_ble_eq_true rfl) (Nat.le_of_ble_eq_true rfl)
def hc_169 : SH := (sm_I (sm_I (sm_I (sm_I hc_168 51 0 0) 51 1 0) 46 8 0) 46 9 0)
set_option maxHeartbeats 4000000 in
set_option maxRecDepth 40000 in
theorem tr_16_X3_settle {l : Launch} {d : Nat} (hd : 2 ≤ d) : Cl l d mi_X3_settle [.ref 46] hc_143 (none, hc_169) := by
  refine Ev.entry (by decide +kernel) rfl rfl ?_
  show Ev l d mi_X3_settle 0 [some (.ref 46), none, none] [] hc_143 0 0 _
  refine Ev.blk (pc' := 5) [(.aload_n 0, 0, 0, 0), (.getfield 28, 0, 3, 6), (.iconst (-1), 0, 0, 0)] (by decide +kernel) ⟨kf_3_28, trivial⟩ rfl (And.intro (kc rfl rfl) (Exists.intro 50 (And.intro rfl (?_))))
  show Ev l d mi_X3_settle 5 [some (.ref 46), none, none] [.int (-1), .ref 50] hc_143 0 0 _
  refine Ev.callS (M' := mi_J7_fill_53178) (d' := d - 1) (As := [.ref 50, .int (-1)]) (rest := []) (r' := (none, hc_168)) (tr_15_J7_fill_53178 (d := d - 1) (by omega)) (by omega) wm_J7_fill_53178 wt_J7_fill_53178 km_3_84 rfl rfl rfl (Nat.le_of_ble_eq_true rfl) ⟨Nat.le_of_ble_eq_true rfl, Nat.le_of_ble_eq_true rfl⟩ (by decide +kernel) ?_
  show Ev l d mi_X3_settle 8 [some (.ref 46), none, none] [] hc_168 0 0 _
  refine Ev.blk (pc' := 42) [(.aload_n 0, 0, 0, 0), (.getfield 31, 0, 3, 7), (.iconst 0, 0, 0, 0), (.iconst 0, 0, 0, 0), (.iastore, 0, 0, 0), (.aload_n 0, 0, 0, 0), (.getfield 31, 0, 3, 7), (.iconst 1, 0, 0, 0), (.iconst 0, 0, 0, 0), (.iastore, 0, 0, 0), (.aload_n 0, 0, 0, 0), (.iconst 0, 0, 0, 0), (.putfield 34, 0, 3, 8), (.aload_n 0, 0, 0, 0), (.iconst 0, 0, 0, 0), (.putfield 37, 0, 3, 9), (.iconst 0, 0, 0, 0), (.istore_n 1, 0, 0, 0), (.iload_n 1, 0, 0, 0), (.aload_n 0, 0, 0, 0), (.getfield 56, 0, 3, 0), (.getfield 66, 0, 4, 8)] (by decide +kernel) ⟨kf_3_31, ⟨kf_3_31, ⟨⟨kf_3_34, Or.inl rfl⟩, ⟨⟨kf_3_37, Or.inl rfl⟩, ⟨kf_3_56, ⟨kf_3_66, trivial⟩⟩⟩⟩⟩⟩ rfl (And.intro (kc rfl rfl) (Exists.intro 51 (And.intro rfl (And.intro (kc rfl rfl) (And.intro (ib_ok rfl) (And.intro (kc rfl rfl) (Exists.intro 51 (And.intro rfl (And.intro (kc rfl rfl) (And.intro (ib_ok rfl) (And.intro (kc rfl rfl) (And.intro (kc rfl rfl) (And.intro (Nat.le_of_ble_eq_true rfl) (And.intro (kc rfl rfl) (Exists.intro 6 (And.intro rfl (And.intro (kc rfl rfl) (?_))))))))))))))))))
  show Ev l d mi_X3_settle 42 [some (.ref 46), some (.int 0), none] [.int 0, .int 0] hc_169 0 0 _
  refine Ev.icmp_ge (off := 64) (tgt := 106) (by decide +kernel) (by decide) (fun _ => ?_) (fun b => absurd (by decide) b)
  exact Ev.vret rfl (by decide +kernel) (Nat.le_of_ble_eq_true rfl) (Nat.le_of_ble_eq_true rfl)
set_option maxHeartbeats 4000000 in
set_option maxRecDepth 40000 in
theorem tr_17_X3_init {l : Launch} {d : Nat} (hd : 3 ≤ d) : Cl l d mi_X3_init [.ref 46, .ref 6] hc_124 (none, hc_169) := by
  refine Ev.entry (by decide +kernel) rfl rfl ?_
  show Ev l d mi_X3_init 0 [some (.ref 46), some (.ref 6)] [] hc_124 0 0 _
  refine Ev.blk (pc' := 1) [(.aload_n 0, 0, 0, 0)] (by decide +kernel) trivial rfl (?_)
  show Ev l d mi_X3_init 1 [some (.ref 46), some (.ref 6)] [.ref 46] hc_124 0 0 _
  refine Ev.objInit ko_3_3 woi1 woi2 (Nat.le_of_ble_eq_true rfl) (by omega) (Nat.le_of_ble_eq_true rfl) (by decide +kernel) ?_
  show Ev l d mi_X3_init 4 [some (.ref 46), some (.ref 6)] [] hc_124 0 0 _
  refine Ev.blk (pc' := 16) [(.aload_n 0, 0, 0, 0), (.iconst 0, 0, 0, 0), (.putfield 9, 0, 3, 1), (.aload_n 0, 0, 0, 0), (.iconst 0, 0, 0, 0), (.putfield 15, 0, 3, 2), (.aload_n 0, 0, 0, 0), (.iconst 2, 0, 0, 0)] (by decide +kernel) ⟨⟨kf_3_9, Or.inl rfl⟩, ⟨⟨kf_3_15, Or.inl rfl⟩, trivial⟩⟩ rfl (And.intro (kc rfl rfl) (And.intro (kc rfl rfl) (?_)))
  show Ev l d mi_X3_init 16 [some (.ref 46), some (.ref 6)] [.int 2, .ref 46] hc_125 0 0 _
  refine Ev.newarray (at' := .int) (c := 13) (ty := .int) rfl (Or.inr (Or.inr ⟨rfl, rfl⟩)) war_int (by decide) (by decide) (Nat.le_of_ble_eq_true rfl) ⟨Nat.le_of_ble_eq_true rfl, Nat.le_of_ble_eq_true rfl⟩ (by decide +kernel) ?_
  show Ev l d mi_X3_init 18 [some (.ref 46), some (.ref 6)] [.ref 47, .ref 46] hc_126 1 2 _
  refine Ev.blk (pc' := 24) [(.putfield 18, 0, 3, 3), (.aload_n 0, 0, 0, 0), (.bipush 8, 0, 0, 0)] (by decide +kernel) ⟨⟨kf_3_18, Or.inr ⟨rfl, rfl, rfl⟩⟩, trivial⟩ rfl (And.intro (kc rfl rfl) (?_))
  show Ev l d mi_X3_init 24 [some (.ref 46), some (.ref 6)] [.int 8, .ref 46] hc_127 1 2 _
  refine Ev.newarray (at' := .int) (c := 13) (ty := .int) rfl (Or.inr (Or.inr ⟨rfl, rfl⟩)) war_int (by decide) (by decide) (Nat.le_of_ble_eq_true rfl) ⟨Nat.le_of_ble_eq_true rfl, Nat.le_of_ble_eq_true rfl⟩ (by decide +kernel) ?_
  show Ev l d mi_X3_init 26 [some (.ref 46), some (.ref 6)] [.ref 48, .ref 46] hc_128 2 10 _
  refine Ev.blk (pc' := 32) [(.putfield 22, 0, 3, 4), (.aload_n 0, 0, 0, 0), (.bipush 6, 0, 0, 0)] (by decide +kernel) ⟨⟨kf_3_22, Or.inr ⟨rfl, rfl, rfl⟩⟩, trivial⟩ rfl (And.intro (kc rfl rfl) (?_))
  show Ev l d mi_X3_init 32 [some (.ref 46), some (.ref 6)] [.int 6, .ref 46] hc_129 2 10 _
  refine Ev.newarray (at' := .int) (c := 13) (ty := .int) rfl (Or.inr (Or.inr ⟨rfl, rfl⟩)) war_int (by decide) (by decide) (Nat.le_of_ble_eq_true rfl) ⟨Nat.le_of_ble_eq_true rfl, Nat.le_of_ble_eq_true rfl⟩ (by decide +kernel) ?_
  show Ev l d mi_X3_init 34 [some (.ref 46), some (.ref 6)] [.ref 49, .ref 46] hc_130 3 16 _
  refine Ev.blk (pc' := 40) [(.putfield 25, 0, 3, 5), (.aload_n 0, 0, 0, 0), (.bipush 25, 0, 0, 0)] (by decide +kernel) ⟨⟨kf_3_25, Or.inr ⟨rfl, rfl, rfl⟩⟩, trivial⟩ rfl (And.intro (kc rfl rfl) (?_))
  show Ev l d mi_X3_init 40 [some (.ref 46), some (.ref 6)] [.int 25, .ref 46] hc_131 3 16 _
  refine Ev.newarray (at' := .int) (c := 13) (ty := .int) rfl (Or.inr (Or.inr ⟨rfl, rfl⟩)) war_int (by decide) (by decide) (Nat.le_of_ble_eq_true rfl) ⟨Nat.le_of_ble_eq_true rfl, Nat.le_of_ble_eq_true rfl⟩ (by decide +kernel) ?_
  show Ev l d mi_X3_init 42 [some (.ref 46), some (.ref 6)] [.ref 50, .ref 46] hc_132 4 41 _
  refine Ev.blk (pc' := 47) [(.putfield 28, 0, 3, 6), (.aload_n 0, 0, 0, 0), (.iconst 2, 0, 0, 0)] (by decide +kernel) ⟨⟨kf_3_28, Or.inr ⟨rfl, rfl, rfl⟩⟩, trivial⟩ rfl (And.intro (kc rfl rfl) (?_))
  show Ev l d mi_X3_init 47 [some (.ref 46), some (.ref 6)] [.int 2, .ref 46] hc_133 4 41 _
  refine Ev.newarray (at' := .int) (c := 13) (ty := .int) rfl (Or.inr (Or.inr ⟨rfl, rfl⟩)) war_int (by decide) (by decide) (Nat.le_of_ble_eq_true rfl) ⟨Nat.le_of_ble_eq_true rfl, Nat.le_of_ble_eq_true rfl⟩ (by decide +kernel) ?_
  show Ev l d mi_X3_init 49 [some (.ref 46), some (.ref 6)] [.ref 51, .ref 46] hc_134 5 43 _
  refine Ev.blk (pc' := 63) [(.putfield 31, 0, 3, 7), (.aload_n 0, 0, 0, 0), (.iconst 0, 0, 0, 0), (.putfield 34, 0, 3, 8), (.aload_n 0, 0, 0, 0), (.iconst 0, 0, 0, 0), (.putfield 37, 0, 3, 9), (.aload_n 0, 0, 0, 0)] (by decide +kernel) ⟨⟨kf_3_31, Or.inr ⟨rfl, rfl, rfl⟩⟩, ⟨⟨kf_3_34, Or.inl rfl⟩, ⟨⟨kf_3_37, Or.inl rfl⟩, trivial⟩⟩⟩ rfl (And.intro (kc rfl rfl) (And.intro (kc rfl rfl) (And.intro (kc rfl rfl) (?_))))
  show Ev l d mi_X3_init 63 [some (.ref 46), some (.ref 6)] [.ref 46] hc_135 5 43 _
  refine Ev.new (c := 6) (Nat.le_of_ble_eq_true rfl) kx_3_40 kq_6 wini_6 (Nat.le_of_ble_eq_true rfl) ⟨Nat.le_of_ble_eq_true rfl, Nat.le_of_ble_eq_true rfl⟩ (by decide +kernel) ?_
  show Ev l d mi_X3_init 66 [some (.ref 46), some (.ref 6)] [.ref 52, .ref 46] hc_136 6 47 _
  refine Ev.blk (pc' := 67) [(.dup, 0, 0, 0)] (by decide +kernel) trivial rfl (And.intro rfl (?_))
  show Ev l d mi_X3_init 67 [some (.ref 46), some (.ref 6)] [.ref 52, .ref 52, .ref 46] hc_136 6 47 _
  refine Ev.callIN (M' := mi_X6_init) (o := 52) (d' := d - 1) (As := []) (rest := [.ref 52, .ref 46]) (r' := hc_142) (tr_14_X6_init (d := d - 1) (by omega)) (by omega) wm_X6_init rfl rfl wi_X6_init kn_3_42 (Nat.le_of_ble_eq_true rfl) rfl rfl rfl (Nat.le_of_ble_eq_true rfl) ⟨Nat.le_of_ble_eq_true rfl, Nat.le_of_ble_eq_true rfl⟩ (by decide +kernel) ?_
  show Ev l d mi_X3_init 70 [some (.ref 46), some (.ref 6)] [.ref 52, .ref 46] hc_142 9 150 _
  refine Ev.blk (pc' := 94) [(.putfield 43, 0, 3, 10), (.aload_n 0, 0, 0, 0), (.iconst 0, 0, 0, 0), (.putfield 47, 0, 3, 11), (.aload_n 0, 0, 0, 0), (.iconst 0, 0, 0, 0), (.putfield 50, 0, 3, 12), (.aload_n 0, 0, 0, 0), (.iconst 0, 0, 0, 0), (.putfield 53, 0, 3, 13), (.aload_n 0, 0, 0, 0), (.aload_n 1, 0, 0, 0), (.putfield 56, 0, 3, 0), (.aload_n 0, 0, 0, 0)] (by decide +kernel) ⟨⟨kf_3_43, Or.inr ⟨rfl, rfl, rfl⟩⟩, ⟨⟨kf_3_47, Or.inl rfl⟩, ⟨⟨kf_3_50, Or.inl rfl⟩, ⟨⟨kf_3_53, Or.inl rfl⟩, ⟨⟨kf_3_56, Or.inl rfl⟩, trivial⟩⟩⟩⟩⟩ rfl (And.intro (kc rfl rfl) (And.intro (kc rfl rfl) (And.intro (kc rfl rfl) (And.intro (kc rfl rfl) (And.intro (kc rfl rfl) (?_))))))
  show Ev l d mi_X3_init 94 [some (.ref 46), some (.ref 6)] [.ref 46] hc_143 9 150 _
  refine Ev.callV (M' := mi_X3_settle) (o := 46) (d' := d - 1) (As := []) (rest := []) (r' := (none, hc_169)) (tr_16_X3_settle (d := d - 1) (by omega)) (by omega) wm_X3_settle wi_X3_settle wv_X3_settle km_3_60 (kc rfl rfl) (Nat.le_of_ble_eq_true rfl) rfl rfl rfl (Nat.le_of_ble_eq_true rfl) ⟨Nat.le_of_ble_eq_true rfl, Nat.le_of_ble_eq_true rfl⟩ (by decide +kernel) ?_
  show Ev l d mi_X3_init 97 [some (.ref 46), some (.ref 6)] [] hc_169 9 150 _
  exact Ev.vret rfl (by decide +kernel) (Nat.le_of_ble_eq_true rfl) (Nat.le_of_ble_eq_true rfl)
def hc_170 : SH := (sm_R hc_169 0 7 (some 46))
def hc_171 : SH := sm_new hc_170 0 0
def hc_172 : SH := sm_new hc_171 13 999
def hc_173 : SH := (sm_I (sm_R hc_172 56 0 (some 57)) 56 1 0)
def hc_174 : SH := sm_new hc_173 13 340
def hc_175 : SH := (sm_I (sm_R hc_174 56 2 (some 58)) 56 3 0)
set_option maxHeartbeats 4000000 in
set_option maxRecDepth 40000 in
theorem tr_18_X0_init {l : Launch} {d : Nat} (hd : 1 ≤ d) : Cl l d mi_X0_init [.ref 56] hc_171 (none, hc_175) := by
  refine Ev.entry (by decide +kernel) rfl rfl ?_
  show Ev l d mi_X0_init 0 [some (.ref 56)] [] hc_171 0 0 _
  refine Ev.blk (pc' := 1) [(.aload_n 0, 0, 0, 0)] (by decide +kernel) trivial rfl (?_)
  show Ev l d mi_X0_init 1 [some (.ref 56)] [.ref 56] hc_171 0 0 _
  refine Ev.objInit ko_0_3 woi1 woi2 (Nat.le_of_ble_eq_true rfl) (by omega) (Nat.le_of_ble_eq_true rfl) (by decide +kernel) ?_
  show Ev l d mi_X0_init 4 [some (.ref 56)] [] hc_171 0 0 _
  refine Ev.blk (pc' := 8) [(.aload_n 0, 0, 0, 0), (.sipush 999, 0, 0, 0)] (by decide +kernel) trivial rfl (?_)
  show Ev l d mi_X0_init 8 [some (.ref 56)] [.int 999, .ref 56] hc_171 0 0 _
  refine Ev.newarray (at' := .int) (c := 13) (ty := .int) rfl (Or.inr (Or.inr ⟨rfl, rfl⟩)) war_int (by decide) (by decide) (Nat.le_of_ble_eq_true rfl) ⟨Nat.le_of_ble_eq_true rfl, Nat.le_of_ble_eq_true rfl⟩ (by decide +kernel) ?_
  show Ev l d mi_X0_init 10 [some (.ref 56)] [.ref 57, .ref 56] hc_172 1 999 _
  refine Ev.blk (pc' := 22) [(.putfield 9, 0, 0, 0), (.aload_n 0, 0, 0, 0), (.iconst 0, 0, 0, 0), (.putfield 15, 0, 0, 1), (.aload_n 0, 0, 0, 0), (.sipush 340, 0, 0, 0)] (by decide +kernel) ⟨⟨kf_0_9, Or.inr ⟨rfl, rfl, rfl⟩⟩, ⟨⟨kf_0_15, Or.inl rfl⟩, trivial⟩⟩ rfl (And.intro (kc rfl rfl) (And.intro (kc rfl rfl) (?_)))
  show Ev l d mi_X0_init 22 [some (.ref 56)] [.int 340, .ref 56] hc_173 1 999 _
  refine Ev.newarray (at' := .int) (c := 13) (ty := .int) rfl (Or.inr (Or.inr ⟨rfl, rfl⟩)) war_int (by decide) (by decide) (Nat.le_of_ble_eq_true rfl) ⟨Nat.le_of_ble_eq_true rfl, Nat.le_of_ble_eq_true rfl⟩ (by decide +kernel) ?_
  show Ev l d mi_X0_init 24 [some (.ref 56)] [.ref 58, .ref 56] hc_174 2 1339 _
  refine Ev.blk (pc' := 32) [(.putfield 19, 0, 0, 2), (.aload_n 0, 0, 0, 0), (.iconst 0, 0, 0, 0), (.putfield 22, 0, 0, 3)] (by decide +kernel) ⟨⟨kf_0_19, Or.inr ⟨rfl, rfl, rfl⟩⟩, ⟨⟨kf_0_22, Or.inl rfl⟩, trivial⟩⟩ rfl (And.intro (kc rfl rfl) (And.intro (kc rfl rfl) (?_)))
  show Ev l d mi_X0_init 32 [some (.ref 56)] [] hc_175 2 1339 _
  exact Ev.vret rfl (by decide +kernel) (Nat.le_of_ble_eq_true rfl) (Nat.le_of_ble_eq_true rfl)
def hc_176 : SH := (sm_R hc_175 0 8 (some 56))
def hc_177 : SH := sm_new hc_176 13 16
def hc_178 : SH := (sm_R hc_177 0 9 (some 59))
def hc_179 : SH := sm_new hc_178 13 16
def hc_180 : SH := (sm_I (sm_I (sm_I (sm_I (sm_R hc_179 0 10 (some 60)) 0 11 0) 0 12 1) 0 13 0) 0 14 (-1))
def hc_181 : SH := sm_new hc_180 13 6
def hc_182 : SH := (sm_R hc_181 0 15 (some 61))
def hc_183 : SH := sm_new hc_182 13 32
def hc_184 : SH := (sm_I (sm_R hc_183 0 16 (some 62)) 0 17 0)
def hc_185 : SH := sm_new hc_184 13 8
def hc_186 : SH := (sm_R hc_185 0 18 (some 63))
def hc_187 : SH := sm_new hc_186 13 25
def hc_188 : SH := (sm_R hc_187 0 19 (some 64))
set_option maxHeartbeats 4000000 in
set_option maxRecDepth 40000 in
theorem tr_19_X9_init {l : Launch} {d : Nat} (hd : 4 ≤ d) : Cl l d mi_X9_init [.ref 0] hc_1 (none, hc_188) := by
  refine Ev.entry (by decide +kernel) rfl rfl ?_
  show Ev l d mi_X9_init 0 [some (.ref 0)] [] hc_1 0 0 _
  refine Ev.blk (pc' := 1) [(.aload_n 0, 0, 0, 0)] (by decide +kernel) trivial rfl (?_)
  show Ev l d mi_X9_init 1 [some (.ref 0)] [.ref 0] hc_1 0 0 _
  refine Ev.objInit ko_9_3 woi1 woi2 (Nat.le_of_ble_eq_true rfl) (by omega) (Nat.le_of_ble_eq_true rfl) (by decide +kernel) ?_
  show Ev l d mi_X9_init 4 [some (.ref 0)] [] hc_1 0 0 _
  refine Ev.blk (pc' := 5) [(.aload_n 0, 0, 0, 0)] (by decide +kernel) trivial rfl (?_)
  show Ev l d mi_X9_init 5 [some (.ref 0)] [.ref 0] hc_1 0 0 _
  refine Ev.new (c := 7) (Nat.le_of_ble_eq_true rfl) kx_9_9 kq_7 wini_7 (Nat.le_of_ble_eq_true rfl) ⟨Nat.le_of_ble_eq_true rfl, Nat.le_of_ble_eq_true rfl⟩ (by decide +kernel) ?_
  show Ev l d mi_X9_init 8 [some (.ref 0)] [.ref 1, .ref 0] hc_2 1 2 _
  refine Ev.blk (pc' := 9) [(.dup, 0, 0, 0)] (by decide +kernel) trivial rfl (And.intro rfl (?_))
  show Ev l d mi_X9_init 9 [some (.ref 0)] [.ref 1, .ref 1, .ref 0] hc_2 1 2 _
  refine Ev.callIN (M' := mi_X7_init) (o := 1) (d' := d - 1) (As := []) (rest := [.ref 1, .ref 0]) (r' := hc_4) (tr_1_X7_init (d := d - 1) (by omega)) (by omega) wm_X7_init rfl rfl wi_X7_init kn_9_11 (Nat.le_of_ble_eq_true rfl) rfl rfl rfl (Nat.le_of_ble_eq_true rfl) ⟨Nat.le_of_ble_eq_true rfl, Nat.le_of_ble_eq_true rfl⟩ (by decide +kernel) ?_
  show Ev l d mi_X9_init 12 [some (.ref 0)] [.ref 1, .ref 0] hc_4 2 1602 _
  refine Ev.blk (pc' := 16) [(.putfield 12, 0, 9, 0), (.aload_n 0, 0, 0, 0)] (by decide +kernel) ⟨⟨kf_9_12, Or.inr ⟨rfl, rfl, rfl⟩⟩, trivial⟩ rfl (And.intro (kc rfl rfl) (?_))
  show Ev l d mi_X9_init 16 [some (.ref 0)] [.ref 0] hc_5 2 1602 _
  refine Ev.new (c := 5) (Nat.le_of_ble_eq_true rfl) kx_9_16 kq_5 wini_5 (Nat.le_of_ble_eq_true rfl) ⟨Nat.le_of_ble_eq_true rfl, Nat.le_of_ble_eq_true rfl⟩ (by decide +kernel) ?_
  show Ev l d mi_X9_init 19 [some (.ref 0)] [.ref 3, .ref 0] hc_6 3 1609 _
  refine Ev.blk (pc' := 24) [(.dup, 0, 0, 0), (.aload_n 0, 0, 0, 0), (.getfield 12, 0, 9, 0)] (by decide +kernel) ⟨kf_9_12, trivial⟩ rfl (And.intro rfl (And.intro (kc rfl rfl) (Exists.intro 1 (And.intro rfl (?_)))))
  show Ev l d mi_X9_init 24 [some (.ref 0)] [.ref 1, .ref 3, .ref 3, .ref 0] hc_6 3 1609 _
  refine Ev.callI (M' := mi_X5_init) (o := 3) (d' := d - 1) (As := [.ref 1]) (rest := [.ref 3, .ref 0]) (r' := hc_7) (tr_2_X5_init (d := d - 1) (by omega)) (by omega) wm_X5_init rfl rfl wi_X5_init km_9_18 (Nat.le_of_ble_eq_true rfl) rfl rfl rfl (Nat.le_of_ble_eq_true rfl) ⟨Nat.le_of_ble_eq_true rfl, Nat.le_of_ble_eq_true rfl⟩ (by decide +kernel) ?_
  show Ev l d mi_X9_init 27 [some (.ref 0)] [.ref 3, .ref 0] hc_7 3 1609 _
  refine Ev.blk (pc' := 31) [(.putfield 21, 0, 9, 1), (.aload_n 0, 0, 0, 0)] (by decide +kernel) ⟨⟨kf_9_21, Or.inr ⟨rfl, rfl, rfl⟩⟩, trivial⟩ rfl (And.intro (kc rfl rfl) (?_))
  show Ev l d mi_X9_init 31 [some (.ref 0)] [.ref 0] hc_8 3 1609 _
  refine Ev.new (c := 8) (Nat.le_of_ble_eq_true rfl) kx_9_25 kq_8 wini_8 (Nat.le_of_ble_eq_true rfl) ⟨Nat.le_of_ble_eq_true rfl, Nat.le_of_ble_eq_true rfl⟩ (by decide +kernel) ?_
  show Ev l d mi_X9_init 34 [some (.ref 0)] [.ref 4, .ref 0] hc_9 4 1611 _
  refine Ev.blk (pc' := 39) [(.dup, 0, 0, 0), (.aload_n 0, 0, 0, 0), (.getfield 21, 0, 9, 1)] (by decide +kernel) ⟨kf_9_21, trivial⟩ rfl (And.intro rfl (And.intro (kc rfl rfl) (Exists.intro 3 (And.intro rfl (?_)))))
  show Ev l d mi_X9_init 39 [some (.ref 0)] [.ref 3, .ref 4, .ref 4, .ref 0] hc_9 4 1611 _
  refine Ev.callI (M' := mi_X8_init) (o := 4) (d' := d - 1) (As := [.ref 3]) (rest := [.ref 4, .ref 0]) (r' := hc_13) (tr_4_X8_init (d := d - 1) (by omega)) (by omega) wm_X8_init rfl rfl wi_X8_init km_9_27 (Nat.le_of_ble_eq_true rfl) rfl rfl rfl (Nat.le_of_ble_eq_true rfl) ⟨Nat.le_of_ble_eq_true rfl, Nat.le_of_ble_eq_true rfl⟩ (by decide +kernel) ?_
  show Ev l d mi_X9_init 42 [some (.ref 0)] [.ref 4, .ref 0] hc_13 5 1614 _
  refine Ev.blk (pc' := 46) [(.putfield 30, 0, 9, 2), (.aload_n 0, 0, 0, 0)] (by decide +kernel) ⟨⟨kf_9_30, Or.inr ⟨rfl, rfl, rfl⟩⟩, trivial⟩ rfl (And.intro (kc rfl rfl) (?_))
  show Ev l d mi_X9_init 46 [some (.ref 0)] [.ref 0] hc_14 5 1614 _
  refine Ev.new (c := 4) (Nat.le_of_ble_eq_true rfl) kx_9_34 kq_4 wini_4 (Nat.le_of_ble_eq_true rfl) ⟨Nat.le_of_ble_eq_true rfl, Nat.le_of_ble_eq_true rfl⟩ (by decide +kernel) ?_
  show Ev l d mi_X9_init 49 [some (.ref 0)] [.ref 6, .ref 0] hc_15 6 1634 _
  refine Ev.blk (pc' := 50) [(.dup, 0, 0, 0)] (by decide +kernel) trivial rfl (And.intro rfl (?_))
  show Ev l d mi_X9_init 50 [some (.ref 0)] [.ref 6, .ref 6, .ref 0] hc_15 6 1634 _
  refine Ev.callIN (M' := mi_X4_init) (o := 6) (d' := d - 1) (As := []) (rest := [.ref 6, .ref 0]) (r' := hc_42) (tr_6_X4_init (d := d - 1) (by omega)) (by omega) wm_X4_init rfl rfl wi_X4_init kn_9_36 (Nat.le_of_ble_eq_true rfl) rfl rfl rfl (Nat.le_of_ble_eq_true rfl) ⟨Nat.le_of_ble_eq_true rfl, Nat.le_of_ble_eq_true rfl⟩ (by decide +kernel) ?_
  show Ev l d mi_X9_init 53 [some (.ref 0)] [.ref 6, .ref 0] hc_42 19 3313 _
  refine Ev.blk (pc' := 57) [(.putfield 37, 0, 9, 3), (.aload_n 0, 0, 0, 0)] (by decide +kernel) ⟨⟨kf_9_37, Or.inl rfl⟩, trivial⟩ rfl (And.intro (kc rfl rfl) (?_))
  show Ev l d mi_X9_init 57 [some (.ref 0)] [.ref 0] hc_43 19 3313 _
  refine Ev.new (c := 4) (Nat.le_of_ble_eq_true rfl) kx_9_34 kq_4 wini_4 (Nat.le_of_ble_eq_true rfl) ⟨Nat.le_of_ble_eq_true rfl, Nat.le_of_ble_eq_true rfl⟩ (by decide +kernel) ?_
  show Ev l d mi_X9_init 60 [some (.ref 0)] [.ref 20, .ref 0] hc_44 20 3333 _
  refine Ev.blk (pc' := 61) [(.dup, 0, 0, 0)] (by decide +kernel) trivial rfl (And.intro rfl (?_))
  show Ev l d mi_X9_init 61 [some (.ref 0)] [.ref 20, .ref 20, .ref 0] hc_44 20 3333 _
  refine Ev.callIN (M' := mi_X4_init) (o := 20) (d' := d - 1) (As := []) (rest := [.ref 20, .ref 0]) (r' := hc_71) (tr_8_X4_init (d := d - 1) (by omega)) (by omega) wm_X4_init rfl rfl wi_X4_init kn_9_36 (Nat.le_of_ble_eq_true rfl) rfl rfl rfl (Nat.le_of_ble_eq_true rfl) ⟨Nat.le_of_ble_eq_true rfl, Nat.le_of_ble_eq_true rfl⟩ (by decide +kernel) ?_
  show Ev l d mi_X9_init 64 [some (.ref 0)] [.ref 20, .ref 0] hc_71 33 5012 _
  refine Ev.blk (pc' := 68) [(.putfield 41, 0, 9, 4), (.aload_n 0, 0, 0, 0)] (by decide +kernel) ⟨⟨kf_9_41, Or.inl rfl⟩, trivial⟩ rfl (And.intro (kc rfl rfl) (?_))
  show Ev l d mi_X9_init 68 [some (.ref 0)] [.ref 0] hc_72 33 5012 _
  refine Ev.new (c := 2) (Nat.le_of_ble_eq_true rfl) kx_9_44 kq_2 wini_2 (Nat.le_of_ble_eq_true rfl) ⟨Nat.le_of_ble_eq_true rfl, Nat.le_of_ble_eq_true rfl⟩ (by decide +kernel) ?_
  show Ev l d mi_X9_init 71 [some (.ref 0)] [.ref 34, .ref 0] hc_73 34 5014 _
  refine Ev.blk (pc' := 72) [(.dup, 0, 0, 0)] (by decide +kernel) trivial rfl (And.intro rfl (?_))
  show Ev l d mi_X9_init 72 [some (.ref 0)] [.ref 34, .ref 34, .ref 0] hc_73 34 5014 _
  refine Ev.callIN (M' := mi_X2_init) (o := 34) (d' := d - 1) (As := []) (rest := [.ref 34, .ref 0]) (r' := hc_75) (tr_9_X2_init (d := d - 1) (by omega)) (by omega) wm_X2_init rfl rfl wi_X2_init kn_9_46 (Nat.le_of_ble_eq_true rfl) rfl rfl rfl (Nat.le_of_ble_eq_true rfl) ⟨Nat.le_of_ble_eq_true rfl, Nat.le_of_ble_eq_true rfl⟩ (by decide +kernel) ?_
  show Ev l d mi_X9_init 75 [some (.ref 0)] [.ref 34, .ref 0] hc_75 35 6614 _
  refine Ev.blk (pc' := 79) [(.putfield 47, 0, 9, 5), (.aload_n 0, 0, 0, 0)] (by decide +kernel) ⟨⟨kf_9_47, Or.inr ⟨rfl, rfl, rfl⟩⟩, trivial⟩ rfl (And.intro (kc rfl rfl) (?_))
  show Ev l d mi_X9_init 79 [some (.ref 0)] [.ref 0] hc_76 35 6614 _
  refine Ev.new (c := 3) (Nat.le_of_ble_eq_true rfl) kx_9_51 kq_3 wini_3 (Nat.le_of_ble_eq_true rfl) ⟨Nat.le_of_ble_eq_true rfl, Nat.le_of_ble_eq_true rfl⟩ (by decide +kernel) ?_
  show Ev l d mi_X9_init 82 [some (.ref 0)] [.ref 36, .ref 0] hc_77 36 6628 _
  refine Ev.blk (pc' := 87) [(.dup, 0, 0, 0), (.aload_n 0, 0, 0, 0), (.getfield 37, 0, 9, 3)] (by decide +kernel) ⟨kf_9_37, trivial⟩ rfl (And.intro rfl (And.intro (kc rfl rfl) (Exists.intro 6 (And.intro rfl (?_)))))
  show Ev l d mi_X9_init 87 [some (.ref 0)] [.ref 6, .ref 36, .ref 36, .ref 0] hc_77 36 6628 _
  refine Ev.callI (M' := mi_X3_init) (o := 36) (d' := d - 1) (As := [.ref 6]) (rest := [.ref 36, .ref 0]) (r' := hc_122) (tr_13_X3_init (d := d - 1) (by omega)) (by omega) wm_X3_init rfl rfl wi_X3_init km_9_53 (Nat.le_of_ble_eq_true rfl) rfl rfl rfl (Nat.le_of_ble_eq_true rfl) ⟨Nat.le_of_ble_eq_true rfl, Nat.le_of_ble_eq_true rfl⟩ (by decide +kernel) ?_
  show Ev l d mi_X9_init 90 [some (.ref 0)] [.ref 36, .ref 0] hc_122 45 6778 _
  refine Ev.blk (pc' := 94) [(.putfield 56, 0, 9, 6), (.aload_n 0, 0, 0, 0)] (by decide +kernel) ⟨⟨kf_9_56, Or.inr ⟨rfl, rfl, rfl⟩⟩, trivial⟩ rfl (And.intro (kc rfl rfl) (?_))
  show Ev l d mi_X9_init 94 [some (.ref 0)] [.ref 0] hc_123 45 6778 _
  refine Ev.new (c := 3) (Nat.le_of_ble_eq_true rfl) kx_9_51 kq_3 wini_3 (Nat.le_of_ble_eq_true rfl) ⟨Nat.le_of_ble_eq_true rfl, Nat.le_of_ble_eq_true rfl⟩ (by decide +kernel) ?_
  show Ev l d mi_X9_init 97 [some (.ref 0)] [.ref 46, .ref 0] hc_124 46 6792 _
  refine Ev.blk (pc' := 102) [(.dup, 0, 0, 0), (.aload_n 0, 0, 0, 0), (.getfield 37, 0, 9, 3)] (by decide +kernel) ⟨kf_9_37, trivial⟩ rfl (And.intro rfl (And.intro (kc rfl rfl) (Exists.intro 6 (And.intro rfl (?_)))))
  show Ev l d mi_X9_init 102 [some (.ref 0)] [.ref 6, .ref 46, .ref 46, .ref 0] hc_124 46 6792 _
  refine Ev.callI (M' := mi_X3_init) (o := 46) (d' := d - 1) (As := [.ref 6]) (rest := [.ref 46, .ref 0]) (r' := hc_169) (tr_17_X3_init (d := d - 1) (by omega)) (by omega) wm_X3_init rfl rfl wi_X3_init km_9_53 (Nat.le_of_ble_eq_true rfl) rfl rfl rfl (Nat.le_of_ble_eq_true rfl) ⟨Nat.le_of_ble_eq_true rfl, Nat.le_of_ble_eq_true rfl⟩ (by decide +kernel) ?_
  show Ev l d mi_X9_init 105 [some (.ref 0)] [.ref 46, .ref 0] hc_169 55 6942 _
  refine Ev.blk (pc' := 109) [(.putfield 60, 0, 9, 7), (.aload_n 0, 0, 0, 0)] (by decide +kernel) ⟨⟨kf_9_60, Or.inr ⟨rfl, rfl, rfl⟩⟩, trivial⟩ rfl (And.intro (kc rfl rfl) (?_))
  show Ev l d mi_X9_init 109 [some (.ref 0)] [.ref 0] hc_170 55 6942 _
  refine Ev.new (c := 0) (Nat.le_of_ble_eq_true rfl) kx_9_63 kq_0 wini_0 (Nat.le_of_ble_eq_true rfl) ⟨Nat.le_of_ble_eq_true rfl, Nat.le_of_ble_eq_true rfl⟩ (by decide +kernel) ?_
  show Ev l d mi_X9_init 112 [some (.ref 0)] [.ref 56, .ref 0] hc_171 56 6946 _
  refine Ev.blk (pc' := 113) [(.dup, 0, 0, 0)] (by decide +kernel) trivial rfl (And.intro rfl (?_))
  show Ev l d mi_X9_init 113 [some (.ref 0)] [.ref 56, .ref 56, .ref 0] hc_171 56 6946 _
  refine Ev.callIN (M' := mi_X0_init) (o := 56) (d' := d - 1) (As := []) (rest := [.ref 56, .ref 0]) (r' := hc_175) (tr_18_X0_init (d := d - 1) (by omega)) (by omega) wm_X0_init rfl rfl wi_X0_init kn_9_65 (Nat.le_of_ble_eq_true rfl) rfl rfl rfl (Nat.le_of_ble_eq_true rfl) ⟨Nat.le_of_ble_eq_true rfl, Nat.le_of_ble_eq_true rfl⟩ (by decide +kernel) ?_
  show Ev l d mi_X9_init 116 [some (.ref 0)] [.ref 56, .ref 0] hc_175 58 8285 _
  refine Ev.blk (pc' := 122) [(.putfield 66, 0, 9, 8), (.aload_n 0, 0, 0, 0), (.bipush 16, 0, 0, 0)] (by decide +kernel) ⟨⟨kf_9_66, Or.inr ⟨rfl, rfl, rfl⟩⟩, trivial⟩ rfl (And.intro (kc rfl rfl) (?_))
  show Ev l d mi_X9_init 122 [some (.ref 0)] [.int 16, .ref 0] hc_176 58 8285 _
  refine Ev.newarray (at' := .int) (c := 13) (ty := .int) rfl (Or.inr (Or.inr ⟨rfl, rfl⟩)) war_int (by decide) (by decide) (Nat.le_of_ble_eq_true rfl) ⟨Nat.le_of_ble_eq_true rfl, Nat.le_of_ble_eq_true rfl⟩ (by decide +kernel) ?_
  show Ev l d mi_X9_init 124 [some (.ref 0)] [.ref 59, .ref 0] hc_177 59 8301 _
  refine Ev.blk (pc' := 130) [(.putfield 70, 0, 9, 9), (.aload_n 0, 0, 0, 0), (.bipush 16, 0, 0, 0)] (by decide +kernel) ⟨⟨kf_9_70, Or.inr ⟨rfl, rfl, rfl⟩⟩, trivial⟩ rfl (And.intro (kc rfl rfl) (?_))
  show Ev l d mi_X9_init 130 [some (.ref 0)] [.int 16, .ref 0] hc_178 59 8301 _
  refine Ev.newarray (at' := .int) (c := 13) (ty := .int) rfl (Or.inr (Or.inr ⟨rfl, rfl⟩)) war_int (by decide) (by decide) (Nat.le_of_ble_eq_true rfl) ⟨Nat.le_of_ble_eq_true rfl, Nat.le_of_ble_eq_true rfl⟩ (by decide +kernel) ?_
  show Ev l d mi_X9_init 132 [some (.ref 0)] [.ref 60, .ref 0] hc_179 60 8317 _
  refine Ev.blk (pc' := 158) [(.putfield 74, 0, 9, 10), (.aload_n 0, 0, 0, 0), (.iconst 0, 0, 0, 0), (.putfield 77, 0, 9, 11), (.aload_n 0, 0, 0, 0), (.iconst 1, 0, 0, 0), (.putfield 81, 0, 9, 12), (.aload_n 0, 0, 0, 0), (.iconst 0, 0, 0, 0), (.putfield 84, 0, 9, 13), (.aload_n 0, 0, 0, 0), (.iconst (-1), 0, 0, 0), (.putfield 87, 0, 9, 14), (.aload_n 0, 0, 0, 0), (.bipush 6, 0, 0, 0)] (by decide +kernel) ⟨⟨kf_9_74, Or.inr ⟨rfl, rfl, rfl⟩⟩, ⟨⟨kf_9_77, Or.inl rfl⟩, ⟨⟨kf_9_81, Or.inl rfl⟩, ⟨⟨kf_9_84, Or.inl rfl⟩, ⟨⟨kf_9_87, Or.inl rfl⟩, trivial⟩⟩⟩⟩⟩ rfl (And.intro (kc rfl rfl) (And.intro (kc rfl rfl) (And.intro (kc rfl rfl) (And.intro (kc rfl rfl) (And.intro (kc rfl rfl) (?_))))))
  show Ev l d mi_X9_init 158 [some (.ref 0)] [.int 6, .ref 0] hc_180 60 8317 _
  refine Ev.newarray (at' := .int) (c := 13) (ty := .int) rfl (Or.inr (Or.inr ⟨rfl, rfl⟩)) war_int (by decide) (by decide) (Nat.le_of_ble_eq_true rfl) ⟨Nat.le_of_ble_eq_true rfl, Nat.le_of_ble_eq_true rfl⟩ (by decide +kernel) ?_
  show Ev l d mi_X9_init 160 [some (.ref 0)] [.ref 61, .ref 0] hc_181 61 8323 _
  refine Ev.blk (pc' := 166) [(.putfield 90, 0, 9, 15), (.aload_n 0, 0, 0, 0), (.bipush 32, 0, 0, 0)] (by decide +kernel) ⟨⟨kf_9_90, Or.inr ⟨rfl, rfl, rfl⟩⟩, trivial⟩ rfl (And.intro (kc rfl rfl) (?_))
  show Ev l d mi_X9_init 166 [some (.ref 0)] [.int 32, .ref 0] hc_182 61 8323 _
  refine Ev.newarray (at' := .int) (c := 13) (ty := .int) rfl (Or.inr (Or.inr ⟨rfl, rfl⟩)) war_int (by decide) (by decide) (Nat.le_of_ble_eq_true rfl) ⟨Nat.le_of_ble_eq_true rfl, Nat.le_of_ble_eq_true rfl⟩ (by decide +kernel) ?_
  show Ev l d mi_X9_init 168 [some (.ref 0)] [.ref 62, .ref 0] hc_183 62 8355 _
  refine Ev.blk (pc' := 179) [(.putfield 93, 0, 9, 16), (.aload_n 0, 0, 0, 0), (.iconst 0, 0, 0, 0), (.putfield 96, 0, 9, 17), (.aload_n 0, 0, 0, 0), (.bipush 8, 0, 0, 0)] (by decide +kernel) ⟨⟨kf_9_93, Or.inr ⟨rfl, rfl, rfl⟩⟩, ⟨⟨kf_9_96, Or.inl rfl⟩, trivial⟩⟩ rfl (And.intro (kc rfl rfl) (And.intro (kc rfl rfl) (?_)))
  show Ev l d mi_X9_init 179 [some (.ref 0)] [.int 8, .ref 0] hc_184 62 8355 _
  refine Ev.newarray (at' := .int) (c := 13) (ty := .int) rfl (Or.inr (Or.inr ⟨rfl, rfl⟩)) war_int (by decide) (by decide) (Nat.le_of_ble_eq_true rfl) ⟨Nat.le_of_ble_eq_true rfl, Nat.le_of_ble_eq_true rfl⟩ (by decide +kernel) ?_
  show Ev l d mi_X9_init 181 [some (.ref 0)] [.ref 63, .ref 0] hc_185 63 8363 _
  refine Ev.blk (pc' := 187) [(.putfield 99, 0, 9, 18), (.aload_n 0, 0, 0, 0), (.bipush 25, 0, 0, 0)] (by decide +kernel) ⟨⟨kf_9_99, Or.inr ⟨rfl, rfl, rfl⟩⟩, trivial⟩ rfl (And.intro (kc rfl rfl) (?_))
  show Ev l d mi_X9_init 187 [some (.ref 0)] [.int 25, .ref 0] hc_186 63 8363 _
  refine Ev.newarray (at' := .int) (c := 13) (ty := .int) rfl (Or.inr (Or.inr ⟨rfl, rfl⟩)) war_int (by decide) (by decide) (Nat.le_of_ble_eq_true rfl) ⟨Nat.le_of_ble_eq_true rfl, Nat.le_of_ble_eq_true rfl⟩ (by decide +kernel) ?_
  show Ev l d mi_X9_init 189 [some (.ref 0)] [.ref 64, .ref 0] hc_187 64 8388 _
  refine Ev.blk (pc' := 192) [(.putfield 102, 0, 9, 19)] (by decide +kernel) ⟨⟨kf_9_102, Or.inr ⟨rfl, rfl, rfl⟩⟩, trivial⟩ rfl (And.intro (kc rfl rfl) (?_))
  show Ev l d mi_X9_init 192 [some (.ref 0)] [] hc_188 64 8388 _
  exact Ev.vret rfl (by decide +kernel) (Nat.le_of_ble_eq_true rfl) (Nat.le_of_ble_eq_true rfl)
