/-! THE REFERENCE: functions and proofs, by program (wip/gen_model.py): X10_qJoins X10_qPartOf X10_harmAt X10_isKept X10_playsChosen X10_laysHarms X10_dayGoes X10_choosesToday X10_daysGo X10_putsAside X10_triesAnew X10_takesBack X10_isAhead X10_bearAll X10_menOf X10_has X10_letter X10_kind X10_man X10_field X10_at X10_option X10_kept X10_balance X10_value X10_best X10_takesCrown -/
def f_X10_qJoins_j270 (y1 : Int64) (s : ST) : Option (ST) := (f_X10_qPuts y1 s).bind (fun q44 => some q44)
set_option maxHeartbeats 2000000 in
set_option maxRecDepth 20000 in
theorem e_X10_qJoins_j270 {l : Launch} {d : Nat} (hd : 2 ≤ d) (y1 : Int64) (s : ST) (r : ST) (hf : f_X10_qJoins_j270 y1 s = some r) : Ev l d mi_X10_qJoins 270 [none, none, none, none, none, none] [.long y1, .ref 65] (hp s) 0 0 (none, hp r) := by
  unfold f_X10_qJoins_j270 at hf
  obtain ⟨q44, hq44, hf⟩ := bd_some hf
  refine Ev.callV (o := 65) (M' := mi_X10_qPuts) (d' := d - 1) (As := [.long y1]) (rest := []) (r' := (none, hp q44)) (e_X10_qPuts (d := d - 1) (by omega) y1 s _ hq44) (by omega) wm_X10_qPuts wi_X10_qPuts wv_X10_qPuts km_10_536 (kc rfl rfl) (Nat.le_of_ble_eq_true rfl) rfl rfl rfl (Nat.le_of_ble_eq_true rfl) ⟨Nat.le_of_ble_eq_true rfl, Nat.le_of_ble_eq_true rfl⟩ (by decide +kernel) ?_
  show Ev l d mi_X10_qJoins 273 [none, none, none, none, none, none] [] (hp q44) 0 0 _
  cases hf
  exact Ev.vret rfl (by decide +kernel) (Nat.le_refl _) (Nat.le_refl _)
def f_X10_qJoins_j238 (y1 : Int64) (s : ST) : Option (ST) := (f_X10_qPuts y1 s).bind (fun q43 => some q43)
set_option maxHeartbeats 2000000 in
set_option maxRecDepth 20000 in
theorem e_X10_qJoins_j238 {l : Launch} {d : Nat} (hd : 2 ≤ d) (y1 : Int64) (s : ST) (r : ST) (hf : f_X10_qJoins_j238 y1 s = some r) : Ev l d mi_X10_qJoins 238 [none, none, none, none, none, none] [.long y1, .ref 65] (hp s) 0 0 (none, hp r) := by
  unfold f_X10_qJoins_j238 at hf
  obtain ⟨q43, hq43, hf⟩ := bd_some hf
  refine Ev.callV (o := 65) (M' := mi_X10_qPuts) (d' := d - 1) (As := [.long y1]) (rest := []) (r' := (none, hp q43)) (e_X10_qPuts (d := d - 1) (by omega) y1 s _ hq43) (by omega) wm_X10_qPuts wi_X10_qPuts wv_X10_qPuts km_10_536 (kc rfl rfl) (Nat.le_of_ble_eq_true rfl) rfl rfl rfl (Nat.le_of_ble_eq_true rfl) ⟨Nat.le_of_ble_eq_true rfl, Nat.le_of_ble_eq_true rfl⟩ (by decide +kernel) ?_
  show Ev l d mi_X10_qJoins 241 [none, none, none, none, none, none] [] (hp q43) 0 0 _
  refine Ev.goto (off := 32) (tgt := 273) (by decide +kernel) (by decide) ?_
  cases hf
  exact Ev.vret rfl (by decide +kernel) (Nat.le_refl _) (Nat.le_refl _)
def f_X10_qJoins_j219 (y1 : Int64) (s : ST) : Option (ST) := (f_X10_qPuts y1 s).bind (fun q42 => some q42)
set_option maxHeartbeats 2000000 in
set_option maxRecDepth 20000 in
theorem e_X10_qJoins_j219 {l : Launch} {d : Nat} (hd : 2 ≤ d) (y1 : Int64) (s : ST) (r : ST) (hf : f_X10_qJoins_j219 y1 s = some r) : Ev l d mi_X10_qJoins 219 [none, none, none, none, none, none] [.long y1, .ref 65] (hp s) 0 0 (none, hp r) := by
  unfold f_X10_qJoins_j219 at hf
  obtain ⟨q42, hq42, hf⟩ := bd_some hf
  refine Ev.callV (o := 65) (M' := mi_X10_qPuts) (d' := d - 1) (As := [.long y1]) (rest := []) (r' := (none, hp q42)) (e_X10_qPuts (d := d - 1) (by omega) y1 s _ hq42) (by omega) wm_X10_qPuts wi_X10_qPuts wv_X10_qPuts km_10_536 (kc rfl rfl) (Nat.le_of_ble_eq_true rfl) rfl rfl rfl (Nat.le_of_ble_eq_true rfl) ⟨Nat.le_of_ble_eq_true rfl, Nat.le_of_ble_eq_true rfl⟩ (by decide +kernel) ?_
  show Ev l d mi_X10_qJoins 222 [none, none, none, none, none, none] [] (hp q42) 0 0 _
  refine Ev.goto (off := 51) (tgt := 273) (by decide +kernel) (by decide) ?_
  cases hf
  exact Ev.vret rfl (by decide +kernel) (Nat.le_refl _) (Nat.le_refl _)
def f_X10_qJoins_j200 (y1 : Int64) (s : ST) : Option (ST) := (f_X10_qPuts y1 s).bind (fun q41 => some q41)
set_option maxHeartbeats 2000000 in
set_option maxRecDepth 20000 in
theorem e_X10_qJoins_j200 {l : Launch} {d : Nat} (hd : 2 ≤ d) (y1 : Int64) (s : ST) (r : ST) (hf : f_X10_qJoins_j200 y1 s = some r) : Ev l d mi_X10_qJoins 200 [none, none, none, none, none, none] [.long y1, .ref 65] (hp s) 0 0 (none, hp r) := by
  unfold f_X10_qJoins_j200 at hf
  obtain ⟨q41, hq41, hf⟩ := bd_some hf
  refine Ev.callV (o := 65) (M' := mi_X10_qPuts) (d' := d - 1) (As := [.long y1]) (rest := []) (r' := (none, hp q41)) (e_X10_qPuts (d := d - 1) (by omega) y1 s _ hq41) (by omega) wm_X10_qPuts wi_X10_qPuts wv_X10_qPuts km_10_536 (kc rfl rfl) (Nat.le_of_ble_eq_true rfl) rfl rfl rfl (Nat.le_of_ble_eq_true rfl) ⟨Nat.le_of_ble_eq_true rfl, Nat.le_of_ble_eq_true rfl⟩ (by decide +kernel) ?_
  show Ev l d mi_X10_qJoins 203 [none, none, none, none, none, none] [] (hp q41) 0 0 _
  refine Ev.goto (off := 70) (tgt := 273) (by decide +kernel) (by decide) ?_
  cases hf
  exact Ev.vret rfl (by decide +kernel) (Nat.le_refl _) (Nat.le_refl _)
def f_X10_qJoins_j181 (y1 : Int64) (s : ST) : Option (ST) := (f_X10_qPuts y1 s).bind (fun q40 => some q40)
set_option maxHeartbeats 2000000 in
set_option maxRecDepth 20000 in
theorem e_X10_qJoins_j181 {l : Launch} {d : Nat} (hd : 2 ≤ d) (y1 : Int64) (s : ST) (r : ST) (hf : f_X10_qJoins_j181 y1 s = some r) : Ev l d mi_X10_qJoins 181 [none, none, none, none, none, none] [.long y1, .ref 65] (hp s) 0 0 (none, hp r) := by
  unfold f_X10_qJoins_j181 at hf
  obtain ⟨q40, hq40, hf⟩ := bd_some hf
  refine Ev.callV (o := 65) (M' := mi_X10_qPuts) (d' := d - 1) (As := [.long y1]) (rest := []) (r' := (none, hp q40)) (e_X10_qPuts (d := d - 1) (by omega) y1 s _ hq40) (by omega) wm_X10_qPuts wi_X10_qPuts wv_X10_qPuts km_10_536 (kc rfl rfl) (Nat.le_of_ble_eq_true rfl) rfl rfl rfl (Nat.le_of_ble_eq_true rfl) ⟨Nat.le_of_ble_eq_true rfl, Nat.le_of_ble_eq_true rfl⟩ (by decide +kernel) ?_
  show Ev l d mi_X10_qJoins 184 [none, none, none, none, none, none] [] (hp q40) 0 0 _
  refine Ev.goto (off := 89) (tgt := 273) (by decide +kernel) (by decide) ?_
  cases hf
  exact Ev.vret rfl (by decide +kernel) (Nat.le_refl _) (Nat.le_refl _)
def f_X10_qJoins_j161 (y1 : Int64) (s : ST) : Option (ST) := (f_X10_qPuts y1 s).bind (fun q39 => some q39)
set_option maxHeartbeats 2000000 in
set_option maxRecDepth 20000 in
theorem e_X10_qJoins_j161 {l : Launch} {d : Nat} (hd : 2 ≤ d) (y1 : Int64) (s : ST) (r : ST) (hf : f_X10_qJoins_j161 y1 s = some r) : Ev l d mi_X10_qJoins 161 [none, none, none, none, none, none] [.long y1, .ref 65] (hp s) 0 0 (none, hp r) := by
  unfold f_X10_qJoins_j161 at hf
  obtain ⟨q39, hq39, hf⟩ := bd_some hf
  refine Ev.callV (o := 65) (M' := mi_X10_qPuts) (d' := d - 1) (As := [.long y1]) (rest := []) (r' := (none, hp q39)) (e_X10_qPuts (d := d - 1) (by omega) y1 s _ hq39) (by omega) wm_X10_qPuts wi_X10_qPuts wv_X10_qPuts km_10_536 (kc rfl rfl) (Nat.le_of_ble_eq_true rfl) rfl rfl rfl (Nat.le_of_ble_eq_true rfl) ⟨Nat.le_of_ble_eq_true rfl, Nat.le_of_ble_eq_true rfl⟩ (by decide +kernel) ?_
  show Ev l d mi_X10_qJoins 164 [none, none, none, none, none, none] [] (hp q39) 0 0 _
  refine Ev.goto (off := 109) (tgt := 273) (by decide +kernel) (by decide) ?_
  cases hf
  exact Ev.vret rfl (by decide +kernel) (Nat.le_refl _) (Nat.le_refl _)
def f_X10_qJoins (p0 : Int32) (s : ST) : Option (ST) := gd (ib ((s.1 65 117) - (Int32.ofInt 1)) 1700) (gd (ib ((s.1 65 117) - (Int32.ofInt 2)) 1700) (lt (uI s 65 117 ((s.1 65 117) - (Int32.ofInt 2))) (fun s3 => (if p0 = 1 then lt ((s.2.1 148 ((s.1 65 117) - (Int32.ofInt 2)).toNatClampNeg) + (s.2.1 148 ((s.1 65 117) - (Int32.ofInt 1)).toNatClampNeg)) (fun v5 => (f_X10_qClip v5 s3).bind (fun q6 => (f_X10_qPuts q6.1 q6.2).bind (fun q7 => some q7))) else (if p0 = 2 then lt ((s.2.1 148 ((s.1 65 117) - (Int32.ofInt 2)).toNatClampNeg) - (s.2.1 148 ((s.1 65 117) - (Int32.ofInt 1)).toNatClampNeg)) (fun v9 => (f_X10_qClip v9 s3).bind (fun q10 => (f_X10_qPuts q10.1 q10.2).bind (fun q11 => some q11))) else (if p0 = 3 then lt ((s.2.1 148 ((s.1 65 117) - (Int32.ofInt 2)).toNatClampNeg) * (s.2.1 148 ((s.1 65 117) - (Int32.ofInt 1)).toNatClampNeg)) (fun v13 => (f_X10_qClip v13 s3).bind (fun q14 => (f_X10_qPuts q14.1 q14.2).bind (fun q15 => some q15))) else (if p0 = 4 then (f_X10_qFloor (s.2.1 148 ((s.1 65 117) - (Int32.ofInt 2)).toNatClampNeg) (s.2.1 148 ((s.1 65 117) - (Int32.ofInt 1)).toNatClampNeg) s3).bind (fun q17 => (f_X10_qPuts q17.1 q17.2).bind (fun q18 => some q18)) else (if p0 = 5 then lt (lg_cmp (s.2.1 148 ((s.1 65 117) - (Int32.ofInt 2)).toNatClampNeg) (s.2.1 148 ((s.1 65 117) - (Int32.ofInt 1)).toNatClampNeg)) (fun v20 => (if 0 ≤ v20 then f_X10_qJoins_j161 (s.2.1 148 ((s.1 65 117) - (Int32.ofInt 1)).toNatClampNeg) s3 else f_X10_qJoins_j161 (s.2.1 148 ((s.1 65 117) - (Int32.ofInt 2)).toNatClampNeg) s3)) else (if p0 = 6 then lt (lg_cmp (s.2.1 148 ((s.1 65 117) - (Int32.ofInt 2)).toNatClampNeg) (s.2.1 148 ((s.1 65 117) - (Int32.ofInt 1)).toNatClampNeg)) (fun v23 => (if v23 ≤ 0 then f_X10_qJoins_j181 (s.2.1 148 ((s.1 65 117) - (Int32.ofInt 1)).toNatClampNeg) s3 else f_X10_qJoins_j181 (s.2.1 148 ((s.1 65 117) - (Int32.ofInt 2)).toNatClampNeg) s3)) else (if p0 = 7 then lt (lg_cmp (s.2.1 148 ((s.1 65 117) - (Int32.ofInt 2)).toNatClampNeg) (s.2.1 148 ((s.1 65 117) - (Int32.ofInt 1)).toNatClampNeg)) (fun v26 => (if 0 ≤ v26 then f_X10_qJoins_j200 (Int64.ofNat ((0 : Fin 2) : Nat)) s3 else f_X10_qJoins_j200 (Int64.ofNat ((1 : Fin 2) : Nat)) s3)) else (if p0 = 8 then lt (lg_cmp (s.2.1 148 ((s.1 65 117) - (Int32.ofInt 2)).toNatClampNeg) (s.2.1 148 ((s.1 65 117) - (Int32.ofInt 1)).toNatClampNeg)) (fun v29 => (if v29 ≤ 0 then f_X10_qJoins_j219 (Int64.ofNat ((0 : Fin 2) : Nat)) s3 else f_X10_qJoins_j219 (Int64.ofNat ((1 : Fin 2) : Nat)) s3)) else (if p0 = 9 then lt (lg_cmp (s.2.1 148 ((s.1 65 117) - (Int32.ofInt 2)).toNatClampNeg) (s.2.1 148 ((s.1 65 117) - (Int32.ofInt 1)).toNatClampNeg)) (fun v32 => (if v32 = 0 then f_X10_qJoins_j238 (Int64.ofNat ((1 : Fin 2) : Nat)) s3 else f_X10_qJoins_j238 (Int64.ofNat ((0 : Fin 2) : Nat)) s3)) else (if p0 = 10 then lt ((s.2.1 148 ((s.1 65 117) - (Int32.ofInt 2)).toNatClampNeg) * (s.2.1 148 ((s.1 65 117) - (Int32.ofInt 1)).toNatClampNeg)) (fun v35 => (f_X10_qPuts v35 s3).bind (fun q36 => some q36)) else (lt (lg_cmp ((s.2.1 148 ((s.1 65 117) - (Int32.ofInt 2)).toNatClampNeg) + (s.2.1 148 ((s.1 65 117) - (Int32.ofInt 1)).toNatClampNeg)) (Int64.ofNat ((0 : Fin 2) : Nat))) (fun v37 => (if v37 ≤ 0 then f_X10_qJoins_j270 (Int64.ofNat ((0 : Fin 2) : Nat)) s3 else f_X10_qJoins_j270 (Int64.ofNat ((1 : Fin 2) : Nat)) s3))))))))))))))))
set_option maxHeartbeats 2000000 in
set_option maxRecDepth 20000 in
theorem e_X10_qJoins {l : Launch} {d : Nat} (hd : 2 ≤ d) (p0 : Int32) (s : ST) (r : ST) (hf : f_X10_qJoins p0 s = some r) : Cl l d mi_X10_qJoins [.ref 65, .int p0] (hp s) (none, hp r) := by
  refine Ev.entry (by decide +kernel) rfl rfl ?_
  show Ev l d mi_X10_qJoins 0 [some (.ref 65), some (.int p0), none, none, none, none] [] (hp s) 0 0 _
  unfold f_X10_qJoins at hf
  obtain ⟨c1, hf⟩ := gd_some hf
  obtain ⟨c2, hf⟩ := gd_some hf
  obtain ⟨s3, hs3, hf⟩ := lt_some hf
  refine Ev.blk (pc' := 36) [(.aload_n 0, 0, 0, 0), (.getfield 269, 0, 10, 116), (.aload_n 0, 0, 0, 0), (.getfield 533, 0, 10, 117), (.iconst 1, 0, 0, 0), (.isub, 0, 0, 0), (.laload, 0, 0, 0), (.lstore_n 2, 0, 0, 0), (.aload_n 0, 0, 0, 0), (.getfield 269, 0, 10, 116), (.aload_n 0, 0, 0, 0), (.getfield 533, 0, 10, 117), (.iconst 2, 0, 0, 0), (.isub, 0, 0, 0), (.laload, 0, 0, 0), (.lstore 4, 0, 0, 0), (.aload_n 0, 0, 0, 0), (.dup, 0, 0, 0), (.getfield 533, 0, 10, 117), (.iconst 2, 0, 0, 0), (.isub, 0, 0, 0), (.putfield 533, 0, 10, 117), (.iload_n 1, 0, 0, 0)] (by decide +kernel) ⟨kf_10_269, ⟨kf_10_533, ⟨kf_10_269, ⟨kf_10_533, ⟨kf_10_533, ⟨⟨kf_10_533, Or.inl rfl⟩, trivial⟩⟩⟩⟩⟩⟩ rfl (And.intro (kc rfl rfl) (Exists.intro 148 (And.intro rfl (And.intro (kc rfl rfl) (And.intro (kc rfl rfl) (And.intro (ib_ok c1) (And.intro (Nat.le_of_ble_eq_true rfl) (And.intro (kc rfl rfl) (Exists.intro 148 (And.intro rfl (And.intro (kc rfl rfl) (And.intro (kc rfl rfl) (And.intro (ib_ok c2) (And.intro (Nat.le_of_ble_eq_true rfl) (And.intro rfl (And.intro (kc rfl rfl) (And.intro (kc rfl rfl) (?_))))))))))))))))))
  show Ev l d mi_X10_qJoins 36 [some (.ref 65), some (.int p0), some (.long (s.2.1 148 ((s.1 65 117) - (Int32.ofInt 1)).toNatClampNeg)), none, some (.long (s.2.1 148 ((s.1 65 117) - (Int32.ofInt 2)).toNatClampNeg)), none] [.int p0] (hp (uI s 65 117 ((s.1 65 117) - (Int32.ofInt 2)))) 0 0 _
  rw [← hs3]
  by_cases b4 : p0 = 1
  · have hf := (if_pos b4).symm.trans hf
    refine Ev.tswitch (dflt := 219) (lo := 1) (hi := 10) (offs := #[56, 70, 84, 98, 111, 131, 151, 170, 189, 208]) (len := 56) (tgt := 92) (by decide +kernel) (by rw [b4]; decide) (by decide) ?_
    obtain ⟨v5, hv5, hf⟩ := lt_some hf
    refine Ev.blk (pc' := 97) [(.aload_n 0, 0, 0, 0), (.lload 4, 0, 0, 0), (.lload_n 2, 0, 0, 0), (.ladd, 0, 0, 0)] (by decide +kernel) trivial rfl (?_)
    show Ev l d mi_X10_qJoins 97 [some (.ref 65), some (.int p0), some (.long (s.2.1 148 ((s.1 65 117) - (Int32.ofInt 1)).toNatClampNeg)), none, some (.long (s.2.1 148 ((s.1 65 117) - (Int32.ofInt 2)).toNatClampNeg)), none] [.long ((s.2.1 148 ((s.1 65 117) - (Int32.ofInt 2)).toNatClampNeg) + (s.2.1 148 ((s.1 65 117) - (Int32.ofInt 1)).toNatClampNeg)), .ref 65] (hp s3) 0 0 _
    rw [← hv5]
    obtain ⟨q6, hq6, hf⟩ := bd_some hf
    refine Ev.callS (M' := mi_X10_qClip) (d' := d - 1) (As := [.long v5]) (rest := [.ref 65]) (r' := (some (.long q6.1), hp q6.2)) (e_X10_qClip (d := d - 1) (by omega) v5 s3 _ hq6) (by omega) wm_X10_qClip wt_X10_qClip km_10_737 rfl rfl rfl (Nat.le_of_ble_eq_true rfl) ⟨Nat.le_of_ble_eq_true rfl, Nat.le_of_ble_eq_true rfl⟩ (by decide +kernel) ?_
    show Ev l d mi_X10_qJoins 100 [some (.ref 65), some (.int p0), some (.long (s.2.1 148 ((s.1 65 117) - (Int32.ofInt 1)).toNatClampNeg)), none, some (.long (s.2.1 148 ((s.1 65 117) - (Int32.ofInt 2)).toNatClampNeg)), none] [.long q6.1, .ref 65] (hp q6.2) 0 0 _
    obtain ⟨q7, hq7, hf⟩ := bd_some hf
    refine Ev.callV (o := 65) (M' := mi_X10_qPuts) (d' := d - 1) (As := [.long q6.1]) (rest := []) (r' := (none, hp q7)) (e_X10_qPuts (d := d - 1) (by omega) q6.1 q6.2 _ hq7) (by omega) wm_X10_qPuts wi_X10_qPuts wv_X10_qPuts km_10_536 (kc rfl rfl) (Nat.le_of_ble_eq_true rfl) rfl rfl rfl (Nat.le_of_ble_eq_true rfl) ⟨Nat.le_of_ble_eq_true rfl, Nat.le_of_ble_eq_true rfl⟩ (by decide +kernel) ?_
    show Ev l d mi_X10_qJoins 103 [some (.ref 65), some (.int p0), some (.long (s.2.1 148 ((s.1 65 117) - (Int32.ofInt 1)).toNatClampNeg)), none, some (.long (s.2.1 148 ((s.1 65 117) - (Int32.ofInt 2)).toNatClampNeg)), none] [] (hp q7) 0 0 _
    refine Ev.goto (off := 170) (tgt := 273) (by decide +kernel) (by decide) ?_
    cases hf
    exact Ev.vret rfl (by decide +kernel) (Nat.le_refl _) (Nat.le_refl _)
  · have hf := (if_neg b4).symm.trans hf
    by_cases b8 : p0 = 2
    · have hf := (if_pos b8).symm.trans hf
      refine Ev.tswitch (dflt := 219) (lo := 1) (hi := 10) (offs := #[56, 70, 84, 98, 111, 131, 151, 170, 189, 208]) (len := 56) (tgt := 106) (by decide +kernel) (by rw [b8]; decide) (by decide) ?_
      obtain ⟨v9, hv9, hf⟩ := lt_some hf
      refine Ev.blk (pc' := 111) [(.aload_n 0, 0, 0, 0), (.lload 4, 0, 0, 0), (.lload_n 2, 0, 0, 0), (.lsub, 0, 0, 0)] (by decide +kernel) trivial rfl (?_)
      show Ev l d mi_X10_qJoins 111 [some (.ref 65), some (.int p0), some (.long (s.2.1 148 ((s.1 65 117) - (Int32.ofInt 1)).toNatClampNeg)), none, some (.long (s.2.1 148 ((s.1 65 117) - (Int32.ofInt 2)).toNatClampNeg)), none] [.long ((s.2.1 148 ((s.1 65 117) - (Int32.ofInt 2)).toNatClampNeg) - (s.2.1 148 ((s.1 65 117) - (Int32.ofInt 1)).toNatClampNeg)), .ref 65] (hp s3) 0 0 _
      rw [← hv9]
      obtain ⟨q10, hq10, hf⟩ := bd_some hf
      refine Ev.callS (M' := mi_X10_qClip) (d' := d - 1) (As := [.long v9]) (rest := [.ref 65]) (r' := (some (.long q10.1), hp q10.2)) (e_X10_qClip (d := d - 1) (by omega) v9 s3 _ hq10) (by omega) wm_X10_qClip wt_X10_qClip km_10_737 rfl rfl rfl (Nat.le_of_ble_eq_true rfl) ⟨Nat.le_of_ble_eq_true rfl, Nat.le_of_ble_eq_true rfl⟩ (by decide +kernel) ?_
      show Ev l d mi_X10_qJoins 114 [some (.ref 65), some (.int p0), some (.long (s.2.1 148 ((s.1 65 117) - (Int32.ofInt 1)).toNatClampNeg)), none, some (.long (s.2.1 148 ((s.1 65 117) - (Int32.ofInt 2)).toNatClampNeg)), none] [.long q10.1, .ref 65] (hp q10.2) 0 0 _
      obtain ⟨q11, hq11, hf⟩ := bd_some hf
      refine Ev.callV (o := 65) (M' := mi_X10_qPuts) (d' := d - 1) (As := [.long q10.1]) (rest := []) (r' := (none, hp q11)) (e_X10_qPuts (d := d - 1) (by omega) q10.1 q10.2 _ hq11) (by omega) wm_X10_qPuts wi_X10_qPuts wv_X10_qPuts km_10_536 (kc rfl rfl) (Nat.le_of_ble_eq_true rfl) rfl rfl rfl (Nat.le_of_ble_eq_true rfl) ⟨Nat.le_of_ble_eq_true rfl, Nat.le_of_ble_eq_true rfl⟩ (by decide +kernel) ?_
      show Ev l d mi_X10_qJoins 117 [some (.ref 65), some (.int p0), some (.long (s.2.1 148 ((s.1 65 117) - (Int32.ofInt 1)).toNatClampNeg)), none, some (.long (s.2.1 148 ((s.1 65 117) - (Int32.ofInt 2)).toNatClampNeg)), none] [] (hp q11) 0 0 _
      refine Ev.goto (off := 156) (tgt := 273) (by decide +kernel) (by decide) ?_
      cases hf
      exact Ev.vret rfl (by decide +kernel) (Nat.le_refl _) (Nat.le_refl _)
    · have hf := (if_neg b8).symm.trans hf
      by_cases b12 : p0 = 3
      · have hf := (if_pos b12).symm.trans hf
        refine Ev.tswitch (dflt := 219) (lo := 1) (hi := 10) (offs := #[56, 70, 84, 98, 111, 131, 151, 170, 189, 208]) (len := 56) (tgt := 120) (by decide +kernel) (by rw [b12]; decide) (by decide) ?_
        obtain ⟨v13, hv13, hf⟩ := lt_some hf
        refine Ev.blk (pc' := 125) [(.aload_n 0, 0, 0, 0), (.lload 4, 0, 0, 0), (.lload_n 2, 0, 0, 0), (.lmul, 0, 0, 0)] (by decide +kernel) trivial rfl (?_)
        show Ev l d mi_X10_qJoins 125 [some (.ref 65), some (.int p0), some (.long (s.2.1 148 ((s.1 65 117) - (Int32.ofInt 1)).toNatClampNeg)), none, some (.long (s.2.1 148 ((s.1 65 117) - (Int32.ofInt 2)).toNatClampNeg)), none] [.long ((s.2.1 148 ((s.1 65 117) - (Int32.ofInt 2)).toNatClampNeg) * (s.2.1 148 ((s.1 65 117) - (Int32.ofInt 1)).toNatClampNeg)), .ref 65] (hp s3) 0 0 _
        rw [← hv13]
        obtain ⟨q14, hq14, hf⟩ := bd_some hf
        refine Ev.callS (M' := mi_X10_qClip) (d' := d - 1) (As := [.long v13]) (rest := [.ref 65]) (r' := (some (.long q14.1), hp q14.2)) (e_X10_qClip (d := d - 1) (by omega) v13 s3 _ hq14) (by omega) wm_X10_qClip wt_X10_qClip km_10_737 rfl rfl rfl (Nat.le_of_ble_eq_true rfl) ⟨Nat.le_of_ble_eq_true rfl, Nat.le_of_ble_eq_true rfl⟩ (by decide +kernel) ?_
        show Ev l d mi_X10_qJoins 128 [some (.ref 65), some (.int p0), some (.long (s.2.1 148 ((s.1 65 117) - (Int32.ofInt 1)).toNatClampNeg)), none, some (.long (s.2.1 148 ((s.1 65 117) - (Int32.ofInt 2)).toNatClampNeg)), none] [.long q14.1, .ref 65] (hp q14.2) 0 0 _
        obtain ⟨q15, hq15, hf⟩ := bd_some hf
        refine Ev.callV (o := 65) (M' := mi_X10_qPuts) (d' := d - 1) (As := [.long q14.1]) (rest := []) (r' := (none, hp q15)) (e_X10_qPuts (d := d - 1) (by omega) q14.1 q14.2 _ hq15) (by omega) wm_X10_qPuts wi_X10_qPuts wv_X10_qPuts km_10_536 (kc rfl rfl) (Nat.le_of_ble_eq_true rfl) rfl rfl rfl (Nat.le_of_ble_eq_true rfl) ⟨Nat.le_of_ble_eq_true rfl, Nat.le_of_ble_eq_true rfl⟩ (by decide +kernel) ?_
        show Ev l d mi_X10_qJoins 131 [some (.ref 65), some (.int p0), some (.long (s.2.1 148 ((s.1 65 117) - (Int32.ofInt 1)).toNatClampNeg)), none, some (.long (s.2.1 148 ((s.1 65 117) - (Int32.ofInt 2)).toNatClampNeg)), none] [] (hp q15) 0 0 _
        refine Ev.goto (off := 142) (tgt := 273) (by decide +kernel) (by decide) ?_
        cases hf
        exact Ev.vret rfl (by decide +kernel) (Nat.le_refl _) (Nat.le_refl _)
      · have hf := (if_neg b12).symm.trans hf
        by_cases b16 : p0 = 4
        · have hf := (if_pos b16).symm.trans hf
          refine Ev.tswitch (dflt := 219) (lo := 1) (hi := 10) (offs := #[56, 70, 84, 98, 111, 131, 151, 170, 189, 208]) (len := 56) (tgt := 134) (by decide +kernel) (by rw [b16]; decide) (by decide) ?_
          refine Ev.blk (pc' := 138) [(.aload_n 0, 0, 0, 0), (.lload 4, 0, 0, 0), (.lload_n 2, 0, 0, 0)] (by decide +kernel) trivial rfl (?_)
          show Ev l d mi_X10_qJoins 138 [some (.ref 65), some (.int p0), some (.long (s.2.1 148 ((s.1 65 117) - (Int32.ofInt 1)).toNatClampNeg)), none, some (.long (s.2.1 148 ((s.1 65 117) - (Int32.ofInt 2)).toNatClampNeg)), none] [.long (s.2.1 148 ((s.1 65 117) - (Int32.ofInt 1)).toNatClampNeg), .long (s.2.1 148 ((s.1 65 117) - (Int32.ofInt 2)).toNatClampNeg), .ref 65] (hp s3) 0 0 _
          obtain ⟨q17, hq17, hf⟩ := bd_some hf
          refine Ev.callS (M' := mi_X10_qFloor) (d' := d - 1) (As := [.long (s.2.1 148 ((s.1 65 117) - (Int32.ofInt 2)).toNatClampNeg), .long (s.2.1 148 ((s.1 65 117) - (Int32.ofInt 1)).toNatClampNeg)]) (rest := [.ref 65]) (r' := (some (.long q17.1), hp q17.2)) (e_X10_qFloor (d := d - 1) (by omega) (s.2.1 148 ((s.1 65 117) - (Int32.ofInt 2)).toNatClampNeg) (s.2.1 148 ((s.1 65 117) - (Int32.ofInt 1)).toNatClampNeg) s3 _ hq17) (by omega) wm_X10_qFloor wt_X10_qFloor km_10_741 rfl rfl rfl (Nat.le_of_ble_eq_true rfl) ⟨Nat.le_of_ble_eq_true rfl, Nat.le_of_ble_eq_true rfl⟩ (by decide +kernel) ?_
          show Ev l d mi_X10_qJoins 141 [some (.ref 65), some (.int p0), some (.long (s.2.1 148 ((s.1 65 117) - (Int32.ofInt 1)).toNatClampNeg)), none, some (.long (s.2.1 148 ((s.1 65 117) - (Int32.ofInt 2)).toNatClampNeg)), none] [.long q17.1, .ref 65] (hp q17.2) 0 0 _
          obtain ⟨q18, hq18, hf⟩ := bd_some hf
          refine Ev.callV (o := 65) (M' := mi_X10_qPuts) (d' := d - 1) (As := [.long q17.1]) (rest := []) (r' := (none, hp q18)) (e_X10_qPuts (d := d - 1) (by omega) q17.1 q17.2 _ hq18) (by omega) wm_X10_qPuts wi_X10_qPuts wv_X10_qPuts km_10_536 (kc rfl rfl) (Nat.le_of_ble_eq_true rfl) rfl rfl rfl (Nat.le_of_ble_eq_true rfl) ⟨Nat.le_of_ble_eq_true rfl, Nat.le_of_ble_eq_true rfl⟩ (by decide +kernel) ?_
          show Ev l d mi_X10_qJoins 144 [some (.ref 65), some (.int p0), some (.long (s.2.1 148 ((s.1 65 117) - (Int32.ofInt 1)).toNatClampNeg)), none, some (.long (s.2.1 148 ((s.1 65 117) - (Int32.ofInt 2)).toNatClampNeg)), none] [] (hp q18) 0 0 _
          refine Ev.goto (off := 129) (tgt := 273) (by decide +kernel) (by decide) ?_
          cases hf
          exact Ev.vret rfl (by decide +kernel) (Nat.le_refl _) (Nat.le_refl _)
        · have hf := (if_neg b16).symm.trans hf
          by_cases b19 : p0 = 5
          · have hf := (if_pos b19).symm.trans hf
            refine Ev.tswitch (dflt := 219) (lo := 1) (hi := 10) (offs := #[56, 70, 84, 98, 111, 131, 151, 170, 189, 208]) (len := 56) (tgt := 147) (by decide +kernel) (by rw [b19]; decide) (by decide) ?_
            obtain ⟨v20, hv20, hf⟩ := lt_some hf
            refine Ev.blk (pc' := 152) [(.aload_n 0, 0, 0, 0), (.lload 4, 0, 0, 0), (.lload_n 2, 0, 0, 0), (.lcmp, 0, 0, 0)] (by decide +kernel) trivial rfl (?_)
            show Ev l d mi_X10_qJoins 152 [some (.ref 65), some (.int p0), some (.long (s.2.1 148 ((s.1 65 117) - (Int32.ofInt 1)).toNatClampNeg)), none, some (.long (s.2.1 148 ((s.1 65 117) - (Int32.ofInt 2)).toNatClampNeg)), none] [.int (lg_cmp (s.2.1 148 ((s.1 65 117) - (Int32.ofInt 2)).toNatClampNeg) (s.2.1 148 ((s.1 65 117) - (Int32.ofInt 1)).toNatClampNeg)), .ref 65] (hp s3) 0 0 _
            rw [← hv20]
            refine Ev.if_ge (off := 8) (tgt := 160) (by decide +kernel) (by decide) (fun b21 => ?_) (fun b21 => ?_)
            · have hf := (if_pos b21).symm.trans hf
              refine Ev.blk (pc' := 161) [(.lload_n 2, 0, 0, 0)] (by decide +kernel) trivial rfl (?_)
              show Ev l d mi_X10_qJoins 161 [some (.ref 65), some (.int p0), some (.long (s.2.1 148 ((s.1 65 117) - (Int32.ofInt 1)).toNatClampNeg)), none, some (.long (s.2.1 148 ((s.1 65 117) - (Int32.ofInt 2)).toNatClampNeg)), none] [.long (s.2.1 148 ((s.1 65 117) - (Int32.ofInt 1)).toNatClampNeg), .ref 65] (hp s3) 0 0 _
              exact Ev.wk ((e_X10_qJoins_j161 hd) (s.2.1 148 ((s.1 65 117) - (Int32.ofInt 1)).toNatClampNeg) s3 _ hf) (And.intro (Or.inl rfl) (And.intro (Or.inl rfl) (And.intro (Or.inl rfl) (And.intro (Or.inr rfl) (And.intro (Or.inl rfl) (And.intro (Or.inr rfl) (trivial)))))))
            · have hf := (if_neg b21).symm.trans hf
              refine Ev.blk (pc' := 157) [(.lload 4, 0, 0, 0)] (by decide +kernel) trivial rfl (?_)
              show Ev l d mi_X10_qJoins 157 [some (.ref 65), some (.int p0), some (.long (s.2.1 148 ((s.1 65 117) - (Int32.ofInt 1)).toNatClampNeg)), none, some (.long (s.2.1 148 ((s.1 65 117) - (Int32.ofInt 2)).toNatClampNeg)), none] [.long (s.2.1 148 ((s.1 65 117) - (Int32.ofInt 2)).toNatClampNeg), .ref 65] (hp s3) 0 0 _
              refine Ev.goto (off := 4) (tgt := 161) (by decide +kernel) (by decide) ?_
              exact Ev.wk ((e_X10_qJoins_j161 hd) (s.2.1 148 ((s.1 65 117) - (Int32.ofInt 2)).toNatClampNeg) s3 _ hf) (And.intro (Or.inl rfl) (And.intro (Or.inl rfl) (And.intro (Or.inl rfl) (And.intro (Or.inr rfl) (And.intro (Or.inl rfl) (And.intro (Or.inr rfl) (trivial)))))))
          · have hf := (if_neg b19).symm.trans hf
            by_cases b22 : p0 = 6
            · have hf := (if_pos b22).symm.trans hf
              refine Ev.tswitch (dflt := 219) (lo := 1) (hi := 10) (offs := #[56, 70, 84, 98, 111, 131, 151, 170, 189, 208]) (len := 56) (tgt := 167) (by decide +kernel) (by rw [b22]; decide) (by decide) ?_
              obtain ⟨v23, hv23, hf⟩ := lt_some hf
              refine Ev.blk (pc' := 172) [(.aload_n 0, 0, 0, 0), (.lload 4, 0, 0, 0), (.lload_n 2, 0, 0, 0), (.lcmp, 0, 0, 0)] (by decide +kernel) trivial rfl (?_)
              show Ev l d mi_X10_qJoins 172 [some (.ref 65), some (.int p0), some (.long (s.2.1 148 ((s.1 65 117) - (Int32.ofInt 1)).toNatClampNeg)), none, some (.long (s.2.1 148 ((s.1 65 117) - (Int32.ofInt 2)).toNatClampNeg)), none] [.int (lg_cmp (s.2.1 148 ((s.1 65 117) - (Int32.ofInt 2)).toNatClampNeg) (s.2.1 148 ((s.1 65 117) - (Int32.ofInt 1)).toNatClampNeg)), .ref 65] (hp s3) 0 0 _
              rw [← hv23]
              refine Ev.if_le (off := 8) (tgt := 180) (by decide +kernel) (by decide) (fun b24 => ?_) (fun b24 => ?_)
              · have hf := (if_pos b24).symm.trans hf
                refine Ev.blk (pc' := 181) [(.lload_n 2, 0, 0, 0)] (by decide +kernel) trivial rfl (?_)
                show Ev l d mi_X10_qJoins 181 [some (.ref 65), some (.int p0), some (.long (s.2.1 148 ((s.1 65 117) - (Int32.ofInt 1)).toNatClampNeg)), none, some (.long (s.2.1 148 ((s.1 65 117) - (Int32.ofInt 2)).toNatClampNeg)), none] [.long (s.2.1 148 ((s.1 65 117) - (Int32.ofInt 1)).toNatClampNeg), .ref 65] (hp s3) 0 0 _
                exact Ev.wk ((e_X10_qJoins_j181 hd) (s.2.1 148 ((s.1 65 117) - (Int32.ofInt 1)).toNatClampNeg) s3 _ hf) (And.intro (Or.inl rfl) (And.intro (Or.inl rfl) (And.intro (Or.inl rfl) (And.intro (Or.inr rfl) (And.intro (Or.inl rfl) (And.intro (Or.inr rfl) (trivial)))))))
              · have hf := (if_neg b24).symm.trans hf
                refine Ev.blk (pc' := 177) [(.lload 4, 0, 0, 0)] (by decide +kernel) trivial rfl (?_)
                show Ev l d mi_X10_qJoins 177 [some (.ref 65), some (.int p0), some (.long (s.2.1 148 ((s.1 65 117) - (Int32.ofInt 1)).toNatClampNeg)), none, some (.long (s.2.1 148 ((s.1 65 117) - (Int32.ofInt 2)).toNatClampNeg)), none] [.long (s.2.1 148 ((s.1 65 117) - (Int32.ofInt 2)).toNatClampNeg), .ref 65] (hp s3) 0 0 _
                refine Ev.goto (off := 4) (tgt := 181) (by decide +kernel) (by decide) ?_
                exact Ev.wk ((e_X10_qJoins_j181 hd) (s.2.1 148 ((s.1 65 117) - (Int32.ofInt 2)).toNatClampNeg) s3 _ hf) (And.intro (Or.inl rfl) (And.intro (Or.inl rfl) (And.intro (Or.inl rfl) (And.intro (Or.inr rfl) (And.intro (Or.inl rfl) (And.intro (Or.inr rfl) (trivial)))))))
            · have hf := (if_neg b22).symm.trans hf
              by_cases b25 : p0 = 7
              · have hf := (if_pos b25).symm.trans hf
                refine Ev.tswitch (dflt := 219) (lo := 1) (hi := 10) (offs := #[56, 70, 84, 98, 111, 131, 151, 170, 189, 208]) (len := 56) (tgt := 187) (by decide +kernel) (by rw [b25]; decide) (by decide) ?_
                obtain ⟨v26, hv26, hf⟩ := lt_some hf
                refine Ev.blk (pc' := 192) [(.aload_n 0, 0, 0, 0), (.lload 4, 0, 0, 0), (.lload_n 2, 0, 0, 0), (.lcmp, 0, 0, 0)] (by decide +kernel) trivial rfl (?_)
                show Ev l d mi_X10_qJoins 192 [some (.ref 65), some (.int p0), some (.long (s.2.1 148 ((s.1 65 117) - (Int32.ofInt 1)).toNatClampNeg)), none, some (.long (s.2.1 148 ((s.1 65 117) - (Int32.ofInt 2)).toNatClampNeg)), none] [.int (lg_cmp (s.2.1 148 ((s.1 65 117) - (Int32.ofInt 2)).toNatClampNeg) (s.2.1 148 ((s.1 65 117) - (Int32.ofInt 1)).toNatClampNeg)), .ref 65] (hp s3) 0 0 _
                rw [← hv26]
                refine Ev.if_ge (off := 7) (tgt := 199) (by decide +kernel) (by decide) (fun b27 => ?_) (fun b27 => ?_)
                · have hf := (if_pos b27).symm.trans hf
                  refine Ev.blk (pc' := 200) [(.lconst 0, 0, 0, 0)] (by decide +kernel) trivial rfl (?_)
                  show Ev l d mi_X10_qJoins 200 [some (.ref 65), some (.int p0), some (.long (s.2.1 148 ((s.1 65 117) - (Int32.ofInt 1)).toNatClampNeg)), none, some (.long (s.2.1 148 ((s.1 65 117) - (Int32.ofInt 2)).toNatClampNeg)), none] [.long (Int64.ofNat ((0 : Fin 2) : Nat)), .ref 65] (hp s3) 0 0 _
                  exact Ev.wk ((e_X10_qJoins_j200 hd) (Int64.ofNat ((0 : Fin 2) : Nat)) s3 _ hf) (And.intro (Or.inl rfl) (And.intro (Or.inl rfl) (And.intro (Or.inl rfl) (And.intro (Or.inr rfl) (And.intro (Or.inl rfl) (And.intro (Or.inr rfl) (trivial)))))))
                · have hf := (if_neg b27).symm.trans hf
                  refine Ev.blk (pc' := 196) [(.lconst 1, 0, 0, 0)] (by decide +kernel) trivial rfl (?_)
                  show Ev l d mi_X10_qJoins 196 [some (.ref 65), some (.int p0), some (.long (s.2.1 148 ((s.1 65 117) - (Int32.ofInt 1)).toNatClampNeg)), none, some (.long (s.2.1 148 ((s.1 65 117) - (Int32.ofInt 2)).toNatClampNeg)), none] [.long (Int64.ofNat ((1 : Fin 2) : Nat)), .ref 65] (hp s3) 0 0 _
                  refine Ev.goto (off := 4) (tgt := 200) (by decide +kernel) (by decide) ?_
                  exact Ev.wk ((e_X10_qJoins_j200 hd) (Int64.ofNat ((1 : Fin 2) : Nat)) s3 _ hf) (And.intro (Or.inl rfl) (And.intro (Or.inl rfl) (And.intro (Or.inl rfl) (And.intro (Or.inr rfl) (And.intro (Or.inl rfl) (And.intro (Or.inr rfl) (trivial)))))))
              · have hf := (if_neg b25).symm.trans hf
                by_cases b28 : p0 = 8
                · have hf := (if_pos b28).symm.trans hf
                  refine Ev.tswitch (dflt := 219) (lo := 1) (hi := 10) (offs := #[56, 70, 84, 98, 111, 131, 151, 170, 189, 208]) (len := 56) (tgt := 206) (by decide +kernel) (by rw [b28]; decide) (by decide) ?_
                  obtain ⟨v29, hv29, hf⟩ := lt_some hf
                  refine Ev.blk (pc' := 211) [(.aload_n 0, 0, 0, 0), (.lload 4, 0, 0, 0), (.lload_n 2, 0, 0, 0), (.lcmp, 0, 0, 0)] (by decide +kernel) trivial rfl (?_)
                  show Ev l d mi_X10_qJoins 211 [some (.ref 65), some (.int p0), some (.long (s.2.1 148 ((s.1 65 117) - (Int32.ofInt 1)).toNatClampNeg)), none, some (.long (s.2.1 148 ((s.1 65 117) - (Int32.ofInt 2)).toNatClampNeg)), none] [.int (lg_cmp (s.2.1 148 ((s.1 65 117) - (Int32.ofInt 2)).toNatClampNeg) (s.2.1 148 ((s.1 65 117) - (Int32.ofInt 1)).toNatClampNeg)), .ref 65] (hp s3) 0 0 _
                  rw [← hv29]
                  refine Ev.if_le (off := 7) (tgt := 218) (by decide +kernel) (by decide) (fun b30 => ?_) (fun b30 => ?_)
                  · have hf := (if_pos b30).symm.trans hf
                    refine Ev.blk (pc' := 219) [(.lconst 0, 0, 0, 0)] (by decide +kernel) trivial rfl (?_)
                    show Ev l d mi_X10_qJoins 219 [some (.ref 65), some (.int p0), some (.long (s.2.1 148 ((s.1 65 117) - (Int32.ofInt 1)).toNatClampNeg)), none, some (.long (s.2.1 148 ((s.1 65 117) - (Int32.ofInt 2)).toNatClampNeg)), none] [.long (Int64.ofNat ((0 : Fin 2) : Nat)), .ref 65] (hp s3) 0 0 _
                    exact Ev.wk ((e_X10_qJoins_j219 hd) (Int64.ofNat ((0 : Fin 2) : Nat)) s3 _ hf) (And.intro (Or.inl rfl) (And.intro (Or.inl rfl) (And.intro (Or.inl rfl) (And.intro (Or.inr rfl) (And.intro (Or.inl rfl) (And.intro (Or.inr rfl) (trivial)))))))
                  · have hf := (if_neg b30).symm.trans hf
                    refine Ev.blk (pc' := 215) [(.lconst 1, 0, 0, 0)] (by decide +kernel) trivial rfl (?_)
                    show Ev l d mi_X10_qJoins 215 [some (.ref 65), some (.int p0), some (.long (s.2.1 148 ((s.1 65 117) - (Int32.ofInt 1)).toNatClampNeg)), none, some (.long (s.2.1 148 ((s.1 65 117) - (Int32.ofInt 2)).toNatClampNeg)), none] [.long (Int64.ofNat ((1 : Fin 2) : Nat)), .ref 65] (hp s3) 0 0 _
                    refine Ev.goto (off := 4) (tgt := 219) (by decide +kernel) (by decide) ?_
                    exact Ev.wk ((e_X10_qJoins_j219 hd) (Int64.ofNat ((1 : Fin 2) : Nat)) s3 _ hf) (And.intro (Or.inl rfl) (And.intro (Or.inl rfl) (And.intro (Or.inl rfl) (And.intro (Or.inr rfl) (And.intro (Or.inl rfl) (And.intro (Or.inr rfl) (trivial)))))))
                · have hf := (if_neg b28).symm.trans hf
                  by_cases b31 : p0 = 9
                  · have hf := (if_pos b31).symm.trans hf
                    refine Ev.tswitch (dflt := 219) (lo := 1) (hi := 10) (offs := #[56, 70, 84, 98, 111, 131, 151, 170, 189, 208]) (len := 56) (tgt := 225) (by decide +kernel) (by rw [b31]; decide) (by decide) ?_
                    obtain ⟨v32, hv32, hf⟩ := lt_some hf
                    refine Ev.blk (pc' := 230) [(.aload_n 0, 0, 0, 0), (.lload 4, 0, 0, 0), (.lload_n 2, 0, 0, 0), (.lcmp, 0, 0, 0)] (by decide +kernel) trivial rfl (?_)
                    show Ev l d mi_X10_qJoins 230 [some (.ref 65), some (.int p0), some (.long (s.2.1 148 ((s.1 65 117) - (Int32.ofInt 1)).toNatClampNeg)), none, some (.long (s.2.1 148 ((s.1 65 117) - (Int32.ofInt 2)).toNatClampNeg)), none] [.int (lg_cmp (s.2.1 148 ((s.1 65 117) - (Int32.ofInt 2)).toNatClampNeg) (s.2.1 148 ((s.1 65 117) - (Int32.ofInt 1)).toNatClampNeg)), .ref 65] (hp s3) 0 0 _
                    rw [← hv32]
                    refine Ev.if_ne (off := 7) (tgt := 237) (by decide +kernel) (by decide) (fun b33 => ?_) (fun b33 => ?_)
                    · have hf := (if_neg b33).symm.trans hf
                      refine Ev.blk (pc' := 238) [(.lconst 0, 0, 0, 0)] (by decide +kernel) trivial rfl (?_)
                      show Ev l d mi_X10_qJoins 238 [some (.ref 65), some (.int p0), some (.long (s.2.1 148 ((s.1 65 117) - (Int32.ofInt 1)).toNatClampNeg)), none, some (.long (s.2.1 148 ((s.1 65 117) - (Int32.ofInt 2)).toNatClampNeg)), none] [.long (Int64.ofNat ((0 : Fin 2) : Nat)), .ref 65] (hp s3) 0 0 _
                      exact Ev.wk ((e_X10_qJoins_j238 hd) (Int64.ofNat ((0 : Fin 2) : Nat)) s3 _ hf) (And.intro (Or.inl rfl) (And.intro (Or.inl rfl) (And.intro (Or.inl rfl) (And.intro (Or.inr rfl) (And.intro (Or.inl rfl) (And.intro (Or.inr rfl) (trivial)))))))
                    · have hf := (if_pos b33).symm.trans hf
                      refine Ev.blk (pc' := 234) [(.lconst 1, 0, 0, 0)] (by decide +kernel) trivial rfl (?_)
                      show Ev l d mi_X10_qJoins 234 [some (.ref 65), some (.int p0), some (.long (s.2.1 148 ((s.1 65 117) - (Int32.ofInt 1)).toNatClampNeg)), none, some (.long (s.2.1 148 ((s.1 65 117) - (Int32.ofInt 2)).toNatClampNeg)), none] [.long (Int64.ofNat ((1 : Fin 2) : Nat)), .ref 65] (hp s3) 0 0 _
                      refine Ev.goto (off := 4) (tgt := 238) (by decide +kernel) (by decide) ?_
                      exact Ev.wk ((e_X10_qJoins_j238 hd) (Int64.ofNat ((1 : Fin 2) : Nat)) s3 _ hf) (And.intro (Or.inl rfl) (And.intro (Or.inl rfl) (And.intro (Or.inl rfl) (And.intro (Or.inr rfl) (And.intro (Or.inl rfl) (And.intro (Or.inr rfl) (trivial)))))))
                  · have hf := (if_neg b31).symm.trans hf
                    by_cases b34 : p0 = 10
                    · have hf := (if_pos b34).symm.trans hf
                      refine Ev.tswitch (dflt := 219) (lo := 1) (hi := 10) (offs := #[56, 70, 84, 98, 111, 131, 151, 170, 189, 208]) (len := 56) (tgt := 244) (by decide +kernel) (by rw [b34]; decide) (by decide) ?_
                      obtain ⟨v35, hv35, hf⟩ := lt_some hf
                      refine Ev.blk (pc' := 249) [(.aload_n 0, 0, 0, 0), (.lload 4, 0, 0, 0), (.lload_n 2, 0, 0, 0), (.lmul, 0, 0, 0)] (by decide +kernel) trivial rfl (?_)
                      show Ev l d mi_X10_qJoins 249 [some (.ref 65), some (.int p0), some (.long (s.2.1 148 ((s.1 65 117) - (Int32.ofInt 1)).toNatClampNeg)), none, some (.long (s.2.1 148 ((s.1 65 117) - (Int32.ofInt 2)).toNatClampNeg)), none] [.long ((s.2.1 148 ((s.1 65 117) - (Int32.ofInt 2)).toNatClampNeg) * (s.2.1 148 ((s.1 65 117) - (Int32.ofInt 1)).toNatClampNeg)), .ref 65] (hp s3) 0 0 _
                      rw [← hv35]
                      obtain ⟨q36, hq36, hf⟩ := bd_some hf
                      refine Ev.callV (o := 65) (M' := mi_X10_qPuts) (d' := d - 1) (As := [.long v35]) (rest := []) (r' := (none, hp q36)) (e_X10_qPuts (d := d - 1) (by omega) v35 s3 _ hq36) (by omega) wm_X10_qPuts wi_X10_qPuts wv_X10_qPuts km_10_536 (kc rfl rfl) (Nat.le_of_ble_eq_true rfl) rfl rfl rfl (Nat.le_of_ble_eq_true rfl) ⟨Nat.le_of_ble_eq_true rfl, Nat.le_of_ble_eq_true rfl⟩ (by decide +kernel) ?_
                      show Ev l d mi_X10_qJoins 252 [some (.ref 65), some (.int p0), some (.long (s.2.1 148 ((s.1 65 117) - (Int32.ofInt 1)).toNatClampNeg)), none, some (.long (s.2.1 148 ((s.1 65 117) - (Int32.ofInt 2)).toNatClampNeg)), none] [] (hp q36) 0 0 _
                      refine Ev.goto (off := 21) (tgt := 273) (by decide +kernel) (by decide) ?_
                      cases hf
                      exact Ev.vret rfl (by decide +kernel) (Nat.le_refl _) (Nat.le_refl _)
                    · have hf := (if_neg b34).symm.trans hf
                      refine Ev.tswitch (dflt := 219) (lo := 1) (hi := 10) (offs := #[56, 70, 84, 98, 111, 131, 151, 170, 189, 208]) (len := 56) (tgt := 255) (by decide +kernel) (by have e0 := sw_ne b4 (c := (1)) (by decide); have e1 := sw_ne b8 (c := (2)) (by decide); have e2 := sw_ne b12 (c := (3)) (by decide); have e3 := sw_ne b16 (c := (4)) (by decide); have e4 := sw_ne b19 (c := (5)) (by decide); have e5 := sw_ne b22 (c := (6)) (by decide); have e6 := sw_ne b25 (c := (7)) (by decide); have e7 := sw_ne b28 (c := (8)) (by decide); have e8 := sw_ne b31 (c := (9)) (by decide); have e9 := sw_ne b34 (c := (10)) (by decide); rw [if_pos (by omega)]; decide) (by decide) ?_
                      obtain ⟨v37, hv37, hf⟩ := lt_some hf
                      refine Ev.blk (pc' := 262) [(.aload_n 0, 0, 0, 0), (.lload 4, 0, 0, 0), (.lload_n 2, 0, 0, 0), (.ladd, 0, 0, 0), (.lconst 0, 0, 0, 0), (.lcmp, 0, 0, 0)] (by decide +kernel) trivial rfl (?_)
                      show Ev l d mi_X10_qJoins 262 [some (.ref 65), some (.int p0), some (.long (s.2.1 148 ((s.1 65 117) - (Int32.ofInt 1)).toNatClampNeg)), none, some (.long (s.2.1 148 ((s.1 65 117) - (Int32.ofInt 2)).toNatClampNeg)), none] [.int (lg_cmp ((s.2.1 148 ((s.1 65 117) - (Int32.ofInt 2)).toNatClampNeg) + (s.2.1 148 ((s.1 65 117) - (Int32.ofInt 1)).toNatClampNeg)) (Int64.ofNat ((0 : Fin 2) : Nat))), .ref 65] (hp s3) 0 0 _
                      rw [← hv37]
                      refine Ev.if_le (off := 7) (tgt := 269) (by decide +kernel) (by decide) (fun b38 => ?_) (fun b38 => ?_)
                      · have hf := (if_pos b38).symm.trans hf
                        refine Ev.blk (pc' := 270) [(.lconst 0, 0, 0, 0)] (by decide +kernel) trivial rfl (?_)
                        show Ev l d mi_X10_qJoins 270 [some (.ref 65), some (.int p0), some (.long (s.2.1 148 ((s.1 65 117) - (Int32.ofInt 1)).toNatClampNeg)), none, some (.long (s.2.1 148 ((s.1 65 117) - (Int32.ofInt 2)).toNatClampNeg)), none] [.long (Int64.ofNat ((0 : Fin 2) : Nat)), .ref 65] (hp s3) 0 0 _
                        exact Ev.wk ((e_X10_qJoins_j270 hd) (Int64.ofNat ((0 : Fin 2) : Nat)) s3 _ hf) (And.intro (Or.inl rfl) (And.intro (Or.inl rfl) (And.intro (Or.inl rfl) (And.intro (Or.inr rfl) (And.intro (Or.inl rfl) (And.intro (Or.inr rfl) (trivial)))))))
                      · have hf := (if_neg b38).symm.trans hf
                        refine Ev.blk (pc' := 266) [(.lconst 1, 0, 0, 0)] (by decide +kernel) trivial rfl (?_)
                        show Ev l d mi_X10_qJoins 266 [some (.ref 65), some (.int p0), some (.long (s.2.1 148 ((s.1 65 117) - (Int32.ofInt 1)).toNatClampNeg)), none, some (.long (s.2.1 148 ((s.1 65 117) - (Int32.ofInt 2)).toNatClampNeg)), none] [.long (Int64.ofNat ((1 : Fin 2) : Nat)), .ref 65] (hp s3) 0 0 _
                        refine Ev.goto (off := 4) (tgt := 270) (by decide +kernel) (by decide) ?_
                        exact Ev.wk ((e_X10_qJoins_j270 hd) (Int64.ofNat ((1 : Fin 2) : Nat)) s3 _ hf) (And.intro (Or.inl rfl) (And.intro (Or.inl rfl) (And.intro (Or.inl rfl) (And.intro (Or.inr rfl) (And.intro (Or.inl rfl) (And.intro (Or.inr rfl) (trivial)))))))
def f_X10_qPartOf (p0 : Int32) (p1 : Int32) (s : ST) : Option (Int64 × ST) := (if p0 = 0 then some ((s.2.1 65 71), s) else (if p0 = 1 then some ((s.2.1 65 72), s) else (if p0 = 2 then some ((s.2.1 65 73), s) else (if p0 = 3 then gd (ib (Int32.ofInt 0) 225) (some ((s.1 112 (Int32.ofInt 0).toNatClampNeg).toInt64, s)) else (if p0 = 4 then some ((p1).toInt64, s) else (if p0 = 5 then (f_X10_columnOf p1 s).bind (fun q8 => some ((q8.1).toInt64, q8.2)) else (if p0 = 6 then (f_X10_rowOf p1 s).bind (fun q10 => some ((q10.1).toInt64, q10.2)) else (if p0 = 7 then (f_X10_sideOf p1 s).bind (fun q12 => some ((q12.1).toInt64, q12.2)) else (if p0 = 8 then (f_X10_worthOf p1 s).bind (fun q14 => some ((q14.1).toInt64, q14.2)) else (if p0 = 9 then (f_X10_kindOf p1 s).bind (fun q16 => gd (ib (((Int8.ofInt 21).toInt32) + ((Int32.ofInt 4) * q16.1)) 40) (lt ((q16.2.1 104 (((Int8.ofInt 21).toInt32) + ((Int32.ofInt 4) * q16.1)).toNatClampNeg).toInt64) (fun v18 => some (v18, q16.2)))) else (gd (ib p1 8) (some ((s.1 118 p1.toNatClampNeg).toInt64, s)))))))))))))
set_option maxHeartbeats 2000000 in
set_option maxRecDepth 20000 in
theorem e_X10_qPartOf {l : Launch} {d : Nat} (hd : 3 ≤ d) (p0 : Int32) (p1 : Int32) (s : ST) (r : Int64 × ST) (hf : f_X10_qPartOf p0 p1 s = some r) : Cl l d mi_X10_qPartOf [.ref 65, .int p0, .int p1] (hp s) (some (.long r.1), hp r.2) := by
  refine Ev.entry (by decide +kernel) rfl rfl ?_
  show Ev l d mi_X10_qPartOf 0 [some (.ref 65), some (.int p0), some (.int p1)] [] (hp s) 0 0 _
  unfold f_X10_qPartOf at hf
  refine Ev.blk (pc' := 1) [(.iload_n 1, 0, 0, 0)] (by decide +kernel) trivial rfl (?_)
  show Ev l d mi_X10_qPartOf 1 [some (.ref 65), some (.int p0), some (.int p1)] [.int p0] (hp s) 0 0 _
  by_cases b1 : p0 = 0
  · have hf := (if_pos b1).symm.trans hf
    refine Ev.tswitch (dflt := 126) (lo := 0) (hi := 9) (offs := #[55, 60, 65, 70, 78, 81, 88, 95, 102, 109]) (len := 55) (tgt := 56) (by decide +kernel) (by rw [b1]; decide) (by decide) ?_
    refine Ev.blk (pc' := 60) [(.aload_n 0, 0, 0, 0), (.getfield 527, 0, 10, 71)] (by decide +kernel) ⟨kf_10_527, trivial⟩ rfl (And.intro (kc rfl rfl) (?_))
    show Ev l d mi_X10_qPartOf 60 [some (.ref 65), some (.int p0), some (.int p1)] [.long (s.2.1 65 71)] (hp s) 0 0 _
    cases hf
    exact Ev.lret rfl (by decide +kernel) (Nat.le_refl _) (Nat.le_refl _)
  · have hf := (if_neg b1).symm.trans hf
    by_cases b2 : p0 = 1
    · have hf := (if_pos b2).symm.trans hf
      refine Ev.tswitch (dflt := 126) (lo := 0) (hi := 9) (offs := #[55, 60, 65, 70, 78, 81, 88, 95, 102, 109]) (len := 55) (tgt := 61) (by decide +kernel) (by rw [b2]; decide) (by decide) ?_
      refine Ev.blk (pc' := 65) [(.aload_n 0, 0, 0, 0), (.getfield 556, 0, 10, 72)] (by decide +kernel) ⟨kf_10_556, trivial⟩ rfl (And.intro (kc rfl rfl) (?_))
      show Ev l d mi_X10_qPartOf 65 [some (.ref 65), some (.int p0), some (.int p1)] [.long (s.2.1 65 72)] (hp s) 0 0 _
      cases hf
      exact Ev.lret rfl (by decide +kernel) (Nat.le_refl _) (Nat.le_refl _)
    · have hf := (if_neg b2).symm.trans hf
      by_cases b3 : p0 = 2
      · have hf := (if_pos b3).symm.trans hf
        refine Ev.tswitch (dflt := 126) (lo := 0) (hi := 9) (offs := #[55, 60, 65, 70, 78, 81, 88, 95, 102, 109]) (len := 55) (tgt := 66) (by decide +kernel) (by rw [b3]; decide) (by decide) ?_
        refine Ev.blk (pc' := 70) [(.aload_n 0, 0, 0, 0), (.getfield 530, 0, 10, 73)] (by decide +kernel) ⟨kf_10_530, trivial⟩ rfl (And.intro (kc rfl rfl) (?_))
        show Ev l d mi_X10_qPartOf 70 [some (.ref 65), some (.int p0), some (.int p1)] [.long (s.2.1 65 73)] (hp s) 0 0 _
        cases hf
        exact Ev.lret rfl (by decide +kernel) (Nat.le_refl _) (Nat.le_refl _)
      · have hf := (if_neg b3).symm.trans hf
        by_cases b4 : p0 = 3
        · have hf := (if_pos b4).symm.trans hf
          refine Ev.tswitch (dflt := 126) (lo := 0) (hi := 9) (offs := #[55, 60, 65, 70, 78, 81, 88, 95, 102, 109]) (len := 55) (tgt := 71) (by decide +kernel) (by rw [b4]; decide) (by decide) ?_
          obtain ⟨c5, hf⟩ := gd_some hf
          refine Ev.blk (pc' := 78) [(.aload_n 0, 0, 0, 0), (.getfield 154, 0, 10, 62), (.iconst 0, 0, 0, 0), (.iaload, 0, 0, 0), (.i2l, 0, 0, 0)] (by decide +kernel) ⟨kf_10_154, trivial⟩ rfl (And.intro (kc rfl rfl) (Exists.intro 112 (And.intro rfl (And.intro (kc rfl rfl) (And.intro (ib_ok c5) (?_))))))
          show Ev l d mi_X10_qPartOf 78 [some (.ref 65), some (.int p0), some (.int p1)] [.long (s.1 112 (Int32.ofInt 0).toNatClampNeg).toInt64] (hp s) 0 0 _
          cases hf
          exact Ev.lret rfl (by decide +kernel) (Nat.le_refl _) (Nat.le_refl _)
        · have hf := (if_neg b4).symm.trans hf
          by_cases b6 : p0 = 4
          · have hf := (if_pos b6).symm.trans hf
            refine Ev.tswitch (dflt := 126) (lo := 0) (hi := 9) (offs := #[55, 60, 65, 70, 78, 81, 88, 95, 102, 109]) (len := 55) (tgt := 79) (by decide +kernel) (by rw [b6]; decide) (by decide) ?_
            refine Ev.blk (pc' := 81) [(.iload_n 2, 0, 0, 0), (.i2l, 0, 0, 0)] (by decide +kernel) trivial rfl (?_)
            show Ev l d mi_X10_qPartOf 81 [some (.ref 65), some (.int p0), some (.int p1)] [.long (p1).toInt64] (hp s) 0 0 _
            cases hf
            exact Ev.lret rfl (by decide +kernel) (Nat.le_refl _) (Nat.le_refl _)
          · have hf := (if_neg b6).symm.trans hf
            by_cases b7 : p0 = 5
            · have hf := (if_pos b7).symm.trans hf
              refine Ev.tswitch (dflt := 126) (lo := 0) (hi := 9) (offs := #[55, 60, 65, 70, 78, 81, 88, 95, 102, 109]) (len := 55) (tgt := 82) (by decide +kernel) (by rw [b7]; decide) (by decide) ?_
              refine Ev.blk (pc' := 84) [(.aload_n 0, 0, 0, 0), (.iload_n 2, 0, 0, 0)] (by decide +kernel) trivial rfl (?_)
              show Ev l d mi_X10_qPartOf 84 [some (.ref 65), some (.int p0), some (.int p1)] [.int p1, .ref 65] (hp s) 0 0 _
              obtain ⟨q8, hq8, hf⟩ := bd_some hf
              refine Ev.callV (o := 65) (M' := mi_X10_columnOf) (d' := d - 1) (As := [.int p1]) (rest := []) (r' := (some (.int q8.1), hp q8.2)) (e_X10_columnOf (d := d - 1) (by omega) p1 s _ hq8) (by omega) wm_X10_columnOf wi_X10_columnOf wv_X10_columnOf km_10_439 (kc rfl rfl) (Nat.le_of_ble_eq_true rfl) rfl rfl rfl (Nat.le_of_ble_eq_true rfl) ⟨Nat.le_of_ble_eq_true rfl, Nat.le_of_ble_eq_true rfl⟩ (by decide +kernel) ?_
              show Ev l d mi_X10_qPartOf 87 [some (.ref 65), some (.int p0), some (.int p1)] [.int q8.1] (hp q8.2) 0 0 _
              refine Ev.blk (pc' := 88) [(.i2l, 0, 0, 0)] (by decide +kernel) trivial rfl (?_)
              show Ev l d mi_X10_qPartOf 88 [some (.ref 65), some (.int p0), some (.int p1)] [.long (q8.1).toInt64] (hp q8.2) 0 0 _
              cases hf
              exact Ev.lret rfl (by decide +kernel) (Nat.le_refl _) (Nat.le_refl _)
            · have hf := (if_neg b7).symm.trans hf
              by_cases b9 : p0 = 6
              · have hf := (if_pos b9).symm.trans hf
                refine Ev.tswitch (dflt := 126) (lo := 0) (hi := 9) (offs := #[55, 60, 65, 70, 78, 81, 88, 95, 102, 109]) (len := 55) (tgt := 89) (by decide +kernel) (by rw [b9]; decide) (by decide) ?_
                refine Ev.blk (pc' := 91) [(.aload_n 0, 0, 0, 0), (.iload_n 2, 0, 0, 0)] (by decide +kernel) trivial rfl (?_)
                show Ev l d mi_X10_qPartOf 91 [some (.ref 65), some (.int p0), some (.int p1)] [.int p1, .ref 65] (hp s) 0 0 _
                obtain ⟨q10, hq10, hf⟩ := bd_some hf
                refine Ev.callV (o := 65) (M' := mi_X10_rowOf) (d' := d - 1) (As := [.int p1]) (rest := []) (r' := (some (.int q10.1), hp q10.2)) (e_X10_rowOf (d := d - 1) (by omega) p1 s _ hq10) (by omega) wm_X10_rowOf wi_X10_rowOf wv_X10_rowOf km_10_446 (kc rfl rfl) (Nat.le_of_ble_eq_true rfl) rfl rfl rfl (Nat.le_of_ble_eq_true rfl) ⟨Nat.le_of_ble_eq_true rfl, Nat.le_of_ble_eq_true rfl⟩ (by decide +kernel) ?_
                show Ev l d mi_X10_qPartOf 94 [some (.ref 65), some (.int p0), some (.int p1)] [.int q10.1] (hp q10.2) 0 0 _
                refine Ev.blk (pc' := 95) [(.i2l, 0, 0, 0)] (by decide +kernel) trivial rfl (?_)
                show Ev l d mi_X10_qPartOf 95 [some (.ref 65), some (.int p0), some (.int p1)] [.long (q10.1).toInt64] (hp q10.2) 0 0 _
                cases hf
                exact Ev.lret rfl (by decide +kernel) (Nat.le_refl _) (Nat.le_refl _)
              · have hf := (if_neg b9).symm.trans hf
                by_cases b11 : p0 = 7
                · have hf := (if_pos b11).symm.trans hf
                  refine Ev.tswitch (dflt := 126) (lo := 0) (hi := 9) (offs := #[55, 60, 65, 70, 78, 81, 88, 95, 102, 109]) (len := 55) (tgt := 96) (by decide +kernel) (by rw [b11]; decide) (by decide) ?_
                  refine Ev.blk (pc' := 98) [(.aload_n 0, 0, 0, 0), (.iload_n 2, 0, 0, 0)] (by decide +kernel) trivial rfl (?_)
                  show Ev l d mi_X10_qPartOf 98 [some (.ref 65), some (.int p0), some (.int p1)] [.int p1, .ref 65] (hp s) 0 0 _
                  obtain ⟨q12, hq12, hf⟩ := bd_some hf
                  refine Ev.callV (o := 65) (M' := mi_X10_sideOf) (d' := d - 1) (As := [.int p1]) (rest := []) (r' := (some (.int q12.1), hp q12.2)) (e_X10_sideOf (d := d - 1) (by omega) p1 s _ hq12) (by omega) wm_X10_sideOf wi_X10_sideOf wv_X10_sideOf km_10_468 (kc rfl rfl) (Nat.le_of_ble_eq_true rfl) rfl rfl rfl (Nat.le_of_ble_eq_true rfl) ⟨Nat.le_of_ble_eq_true rfl, Nat.le_of_ble_eq_true rfl⟩ (by decide +kernel) ?_
                  show Ev l d mi_X10_qPartOf 101 [some (.ref 65), some (.int p0), some (.int p1)] [.int q12.1] (hp q12.2) 0 0 _
                  refine Ev.blk (pc' := 102) [(.i2l, 0, 0, 0)] (by decide +kernel) trivial rfl (?_)
                  show Ev l d mi_X10_qPartOf 102 [some (.ref 65), some (.int p0), some (.int p1)] [.long (q12.1).toInt64] (hp q12.2) 0 0 _
                  cases hf
                  exact Ev.lret rfl (by decide +kernel) (Nat.le_refl _) (Nat.le_refl _)
                · have hf := (if_neg b11).symm.trans hf
                  by_cases b13 : p0 = 8
                  · have hf := (if_pos b13).symm.trans hf
                    refine Ev.tswitch (dflt := 126) (lo := 0) (hi := 9) (offs := #[55, 60, 65, 70, 78, 81, 88, 95, 102, 109]) (len := 55) (tgt := 103) (by decide +kernel) (by rw [b13]; decide) (by decide) ?_
                    refine Ev.blk (pc' := 105) [(.aload_n 0, 0, 0, 0), (.iload_n 2, 0, 0, 0)] (by decide +kernel) trivial rfl (?_)
                    show Ev l d mi_X10_qPartOf 105 [some (.ref 65), some (.int p0), some (.int p1)] [.int p1, .ref 65] (hp s) 0 0 _
                    obtain ⟨q14, hq14, hf⟩ := bd_some hf
                    refine Ev.callV (o := 65) (M' := mi_X10_worthOf) (d' := d - 1) (As := [.int p1]) (rest := []) (r' := (some (.int q14.1), hp q14.2)) (e_X10_worthOf (d := d - 1) (by omega) p1 s _ hq14) (by omega) wm_X10_worthOf wi_X10_worthOf wv_X10_worthOf km_10_490 (kc rfl rfl) (Nat.le_of_ble_eq_true rfl) rfl rfl rfl (Nat.le_of_ble_eq_true rfl) ⟨Nat.le_of_ble_eq_true rfl, Nat.le_of_ble_eq_true rfl⟩ (by decide +kernel) ?_
                    show Ev l d mi_X10_qPartOf 108 [some (.ref 65), some (.int p0), some (.int p1)] [.int q14.1] (hp q14.2) 0 0 _
                    refine Ev.blk (pc' := 109) [(.i2l, 0, 0, 0)] (by decide +kernel) trivial rfl (?_)
                    show Ev l d mi_X10_qPartOf 109 [some (.ref 65), some (.int p0), some (.int p1)] [.long (q14.1).toInt64] (hp q14.2) 0 0 _
                    cases hf
                    exact Ev.lret rfl (by decide +kernel) (Nat.le_refl _) (Nat.le_refl _)
                  · have hf := (if_neg b13).symm.trans hf
                    by_cases b15 : p0 = 9
                    · have hf := (if_pos b15).symm.trans hf
                      refine Ev.tswitch (dflt := 126) (lo := 0) (hi := 9) (offs := #[55, 60, 65, 70, 78, 81, 88, 95, 102, 109]) (len := 55) (tgt := 110) (by decide +kernel) (by rw [b15]; decide) (by decide) ?_
                      refine Ev.blk (pc' := 119) [(.aload_n 0, 0, 0, 0), (.getfield 130, 0, 10, 48), (.bipush 21, 0, 0, 0), (.iconst 4, 0, 0, 0), (.aload_n 0, 0, 0, 0), (.iload_n 2, 0, 0, 0)] (by decide +kernel) ⟨kf_10_130, trivial⟩ rfl (And.intro (kc rfl rfl) (Exists.intro 104 (And.intro rfl (?_))))
                      show Ev l d mi_X10_qPartOf 119 [some (.ref 65), some (.int p0), some (.int p1)] [.int p1, .ref 65, .int (Int32.ofInt 4), .int ((Int8.ofInt 21).toInt32), .ref 104] (hp s) 0 0 _
                      obtain ⟨q16, hq16, hf⟩ := bd_some hf
                      refine Ev.callV (o := 65) (M' := mi_X10_kindOf) (d' := d - 1) (As := [.int p1]) (rest := [.int (Int32.ofInt 4), .int ((Int8.ofInt 21).toInt32), .ref 104]) (r' := (some (.int q16.1), hp q16.2)) (e_X10_kindOf (d := d - 1) (by omega) p1 s _ hq16) (by omega) wm_X10_kindOf wi_X10_kindOf wv_X10_kindOf km_10_443 (kc rfl rfl) (Nat.le_of_ble_eq_true rfl) rfl rfl rfl (Nat.le_of_ble_eq_true rfl) ⟨Nat.le_of_ble_eq_true rfl, Nat.le_of_ble_eq_true rfl⟩ (by decide +kernel) ?_
                      show Ev l d mi_X10_qPartOf 122 [some (.ref 65), some (.int p0), some (.int p1)] [.int q16.1, .int (Int32.ofInt 4), .int ((Int8.ofInt 21).toInt32), .ref 104] (hp q16.2) 0 0 _
                      obtain ⟨c17, hf⟩ := gd_some hf
                      obtain ⟨v18, hv18, hf⟩ := lt_some hf
                      refine Ev.blk (pc' := 126) [(.imul, 0, 0, 0), (.iadd, 0, 0, 0), (.iaload, 0, 0, 0), (.i2l, 0, 0, 0)] (by decide +kernel) trivial rfl (And.intro (kc rfl rfl) (And.intro (ib_ok c17) (?_)))
                      show Ev l d mi_X10_qPartOf 126 [some (.ref 65), some (.int p0), some (.int p1)] [.long (q16.2.1 104 (((Int8.ofInt 21).toInt32) + ((Int32.ofInt 4) * q16.1)).toNatClampNeg).toInt64] (hp q16.2) 0 0 _
                      rw [← hv18]
                      cases hf
                      exact Ev.lret rfl (by decide +kernel) (Nat.le_refl _) (Nat.le_refl _)
                    · have hf := (if_neg b15).symm.trans hf
                      refine Ev.tswitch (dflt := 126) (lo := 0) (hi := 9) (offs := #[55, 60, 65, 70, 78, 81, 88, 95, 102, 109]) (len := 55) (tgt := 127) (by decide +kernel) (by have e0 := sw_ne b1 (c := (0)) (by decide); have e1 := sw_ne b2 (c := (1)) (by decide); have e2 := sw_ne b3 (c := (2)) (by decide); have e3 := sw_ne b4 (c := (3)) (by decide); have e4 := sw_ne b6 (c := (4)) (by decide); have e5 := sw_ne b7 (c := (5)) (by decide); have e6 := sw_ne b9 (c := (6)) (by decide); have e7 := sw_ne b11 (c := (7)) (by decide); have e8 := sw_ne b13 (c := (8)) (by decide); have e9 := sw_ne b15 (c := (9)) (by decide); rw [if_pos (by omega)]; decide) (by decide) ?_
                      obtain ⟨c19, hf⟩ := gd_some hf
                      refine Ev.blk (pc' := 134) [(.aload_n 0, 0, 0, 0), (.getfield 172, 0, 10, 74), (.iload_n 2, 0, 0, 0), (.iaload, 0, 0, 0), (.i2l, 0, 0, 0)] (by decide +kernel) ⟨kf_10_172, trivial⟩ rfl (And.intro (kc rfl rfl) (Exists.intro 118 (And.intro rfl (And.intro (kc rfl rfl) (And.intro (ib_ok c19) (?_))))))
                      show Ev l d mi_X10_qPartOf 134 [some (.ref 65), some (.int p0), some (.int p1)] [.long (s.1 118 p1.toNatClampNeg).toInt64] (hp s) 0 0 _
                      cases hf
                      exact Ev.lret rfl (by decide +kernel) (Nat.le_refl _) (Nat.le_refl _)
def f_X10_harmAt_L46 (k128 : ST → Option (Int64 × ST)) : Nat → Int32 → ST → Option (Int64 × ST)
  | 0, _, _ => none
  | n + 1, x5, s => gd (ib (Int32.ofInt 1) 2) ((if (s.1 110 (Int32.ofInt 1).toNatClampNeg) ≤ x5 then k128 s else gd (ib (((Int16.ofInt 1600).toInt32) + x5) 3200) ((if (s.1 111 (((Int16.ofInt 1600).toInt32) + x5).toNatClampNeg) < ((Int16.ofInt 1000).toInt32) then (if (s.1 111 (((Int16.ofInt 1600).toInt32) + x5).toNatClampNeg) < ((Int8.ofInt 40).toInt32) then (f_X10_qJoins (s.1 111 (((Int16.ofInt 1600).toInt32) + x5).toNatClampNeg) s).bind (fun q11 => (f_X10_harmAt_L46 k128 n) (x5 + Int32.ofInt 1) q11) else lt ((s.1 111 (((Int16.ofInt 1600).toInt32) + x5).toNatClampNeg) - ((Int8.ofInt 40).toInt32)) (fun v12 => (f_X10_qPartOf v12 (Int32.ofInt 0) s).bind (fun q13 => (f_X10_qPuts q13.1 q13.2).bind (fun q14 => (f_X10_harmAt_L46 k128 n) (x5 + Int32.ofInt 1) q14)))) else lt (((s.1 111 (((Int16.ofInt 1600).toInt32) + x5).toNatClampNeg) - ((Int16.ofInt 1000).toInt32)).toInt64) (fun v15 => (f_X10_qPuts v15 s).bind (fun q16 => (f_X10_harmAt_L46 k128 n) (x5 + Int32.ofInt 1) q16))))))
set_option maxHeartbeats 2000000 in
set_option maxRecDepth 20000 in
theorem e_X10_harmAt_L46 {l : Launch} {d : Nat} (hd : 4 ≤ d) (k128 : ST → Option (Int64 × ST)) (hk128 : ∀ (s : ST) (r : Int64 × ST), k128 s = some r → Ev l d mi_X10_harmAt 128 [some (.ref 65), none, none, none, none, none, none] [] (hp s) 0 0 (some (.long r.1), hp r.2)) : ∀ (n : Nat) (x5 : Int32) (s : ST) (r : Int64 × ST), f_X10_harmAt_L46 k128 n x5 s = some r → Ev l d mi_X10_harmAt 46 [some (.ref 65), none, none, none, none, some (.int x5), none] [] (hp s) 0 0 (some (.long r.1), hp r.2) := by
  intro n
  induction n with
  | zero =>
    intro x5 s r hf
    cases hf
  | succ n ih =>
    intro x5 s r hf
    unfold f_X10_harmAt_L46 at hf
    obtain ⟨c6, hf⟩ := gd_some hf
    refine Ev.blk (pc' := 54) [(.iload 5, 0, 0, 0), (.aload_n 0, 0, 0, 0), (.getfield 148, 0, 10, 54), (.iconst 1, 0, 0, 0), (.iaload, 0, 0, 0)] (by decide +kernel) ⟨kf_10_148, trivial⟩ rfl (And.intro (kc rfl rfl) (Exists.intro 110 (And.intro rfl (And.intro (kc rfl rfl) (And.intro (ib_ok c6) (?_))))))
    show Ev l d mi_X10_harmAt 54 [some (.ref 65), none, none, none, none, some (.int x5), none] [.int (s.1 110 (Int32.ofInt 1).toNatClampNeg), .int x5] (hp s) 0 0 _
    refine Ev.icmp_ge (off := 74) (tgt := 128) (by decide +kernel) (by decide) (fun b7 => ?_) (fun b7 => ?_)
    · have hf := (if_pos b7).symm.trans hf
      exact Ev.wk (hk128 s _ hf) (And.intro (Or.inr rfl) (And.intro (Or.inr rfl) (And.intro (Or.inr rfl) (And.intro (Or.inr rfl) (And.intro (Or.inr rfl) (And.intro (Or.inl rfl) (And.intro (Or.inr rfl) (trivial))))))))
    · have hf := (if_neg b7).symm.trans hf
      obtain ⟨c8, hf⟩ := gd_some hf
      refine Ev.blk (pc' := 75) [(.aload_n 0, 0, 0, 0), (.getfield 151, 0, 10, 55), (.sipush 1600, 0, 0, 0), (.iload 5, 0, 0, 0), (.iadd, 0, 0, 0), (.iaload, 0, 0, 0), (.istore 6, 0, 0, 0), (.iload 6, 0, 0, 0), (.sipush 1000, 0, 0, 0)] (by decide +kernel) ⟨kf_10_151, trivial⟩ rfl (And.intro (kc rfl rfl) (Exists.intro 111 (And.intro rfl (And.intro (kc rfl rfl) (And.intro (ib_ok c8) (And.intro (Nat.le_of_ble_eq_true rfl) (?_)))))))
      show Ev l d mi_X10_harmAt 75 [some (.ref 65), none, none, none, none, some (.int x5), some (.int (s.1 111 (((Int16.ofInt 1600).toInt32) + x5).toNatClampNeg))] [.int ((Int16.ofInt 1000).toInt32), .int (s.1 111 (((Int16.ofInt 1600).toInt32) + x5).toNatClampNeg)] (hp s) 0 0 _
      refine Ev.icmp_lt (off := 17) (tgt := 92) (by decide +kernel) (by decide) (fun b9 => ?_) (fun b9 => ?_)
      · have hf := (if_pos b9).symm.trans hf
        refine Ev.blk (pc' := 96) [(.iload 6, 0, 0, 0), (.bipush 40, 0, 0, 0)] (by decide +kernel) trivial rfl (?_)
        show Ev l d mi_X10_harmAt 96 [some (.ref 65), none, none, none, none, some (.int x5), some (.int (s.1 111 (((Int16.ofInt 1600).toInt32) + x5).toNatClampNeg))] [.int ((Int8.ofInt 40).toInt32), .int (s.1 111 (((Int16.ofInt 1600).toInt32) + x5).toNatClampNeg)] (hp s) 0 0 _
        refine Ev.icmp_lt (off := 20) (tgt := 116) (by decide +kernel) (by decide) (fun b10 => ?_) (fun b10 => ?_)
        · have hf := (if_pos b10).symm.trans hf
          refine Ev.blk (pc' := 119) [(.aload_n 0, 0, 0, 0), (.iload 6, 0, 0, 0)] (by decide +kernel) trivial rfl (?_)
          show Ev l d mi_X10_harmAt 119 [some (.ref 65), none, none, none, none, some (.int x5), some (.int (s.1 111 (((Int16.ofInt 1600).toInt32) + x5).toNatClampNeg))] [.int (s.1 111 (((Int16.ofInt 1600).toInt32) + x5).toNatClampNeg), .ref 65] (hp s) 0 0 _
          obtain ⟨q11, hq11, hf⟩ := bd_some hf
          refine Ev.callV (o := 65) (M' := mi_X10_qJoins) (d' := d - 1) (As := [.int (s.1 111 (((Int16.ofInt 1600).toInt32) + x5).toNatClampNeg)]) (rest := []) (r' := (none, hp q11)) (e_X10_qJoins (d := d - 1) (by omega) (s.1 111 (((Int16.ofInt 1600).toInt32) + x5).toNatClampNeg) s _ hq11) (by omega) wm_X10_qJoins wi_X10_qJoins wv_X10_qJoins km_10_544 (kc rfl rfl) (Nat.le_of_ble_eq_true rfl) rfl rfl rfl (Nat.le_of_ble_eq_true rfl) ⟨Nat.le_of_ble_eq_true rfl, Nat.le_of_ble_eq_true rfl⟩ (by decide +kernel) ?_
          show Ev l d mi_X10_harmAt 122 [some (.ref 65), none, none, none, none, some (.int x5), some (.int (s.1 111 (((Int16.ofInt 1600).toInt32) + x5).toNatClampNeg))] [] (hp q11) 0 0 _
          refine Ev.blk (pc' := 125) [(.iinc 5 1, 0, 0, 0)] (by decide +kernel) trivial rfl (And.intro (Nat.le_of_ble_eq_true rfl) (?_))
          show Ev l d mi_X10_harmAt 125 [some (.ref 65), none, none, none, none, some (.int (x5 + Int32.ofInt 1)), some (.int (s.1 111 (((Int16.ofInt 1600).toInt32) + x5).toNatClampNeg))] [] (hp q11) 0 0 _
          refine Ev.goto (off := -79) (tgt := 46) (by decide +kernel) (by decide) ?_
          exact Ev.wk (ih (x5 + Int32.ofInt 1) q11 _ hf) (And.intro (Or.inr rfl) (And.intro (Or.inr rfl) (And.intro (Or.inr rfl) (And.intro (Or.inr rfl) (And.intro (Or.inr rfl) (And.intro (Or.inr rfl) (And.intro (Or.inl rfl) (trivial))))))))
        · have hf := (if_neg b10).symm.trans hf
          obtain ⟨v12, hv12, hf⟩ := lt_some hf
          refine Ev.blk (pc' := 107) [(.aload_n 0, 0, 0, 0), (.aload_n 0, 0, 0, 0), (.iload 6, 0, 0, 0), (.bipush 40, 0, 0, 0), (.isub, 0, 0, 0), (.iconst 0, 0, 0, 0)] (by decide +kernel) trivial rfl (?_)
          show Ev l d mi_X10_harmAt 107 [some (.ref 65), none, none, none, none, some (.int x5), some (.int (s.1 111 (((Int16.ofInt 1600).toInt32) + x5).toNatClampNeg))] [.int (Int32.ofInt 0), .int ((s.1 111 (((Int16.ofInt 1600).toInt32) + x5).toNatClampNeg) - ((Int8.ofInt 40).toInt32)), .ref 65, .ref 65] (hp s) 0 0 _
          rw [← hv12]
          obtain ⟨q13, hq13, hf⟩ := bd_some hf
          refine Ev.callV (o := 65) (M' := mi_X10_qPartOf) (d' := d - 1) (As := [.int v12, .int (Int32.ofInt 0)]) (rest := [.ref 65]) (r' := (some (.long q13.1), hp q13.2)) (e_X10_qPartOf (d := d - 1) (by omega) v12 (Int32.ofInt 0) s _ hq13) (by omega) wm_X10_qPartOf wi_X10_qPartOf wv_X10_qPartOf km_10_540 (kc rfl rfl) (Nat.le_of_ble_eq_true rfl) rfl rfl rfl (Nat.le_of_ble_eq_true rfl) ⟨Nat.le_of_ble_eq_true rfl, Nat.le_of_ble_eq_true rfl⟩ (by decide +kernel) ?_
          show Ev l d mi_X10_harmAt 110 [some (.ref 65), none, none, none, none, some (.int x5), some (.int (s.1 111 (((Int16.ofInt 1600).toInt32) + x5).toNatClampNeg))] [.long q13.1, .ref 65] (hp q13.2) 0 0 _
          obtain ⟨q14, hq14, hf⟩ := bd_some hf
          refine Ev.callV (o := 65) (M' := mi_X10_qPuts) (d' := d - 1) (As := [.long q13.1]) (rest := []) (r' := (none, hp q14)) (e_X10_qPuts (d := d - 1) (by omega) q13.1 q13.2 _ hq14) (by omega) wm_X10_qPuts wi_X10_qPuts wv_X10_qPuts km_10_536 (kc rfl rfl) (Nat.le_of_ble_eq_true rfl) rfl rfl rfl (Nat.le_of_ble_eq_true rfl) ⟨Nat.le_of_ble_eq_true rfl, Nat.le_of_ble_eq_true rfl⟩ (by decide +kernel) ?_
          show Ev l d mi_X10_harmAt 113 [some (.ref 65), none, none, none, none, some (.int x5), some (.int (s.1 111 (((Int16.ofInt 1600).toInt32) + x5).toNatClampNeg))] [] (hp q14) 0 0 _
          refine Ev.goto (off := 9) (tgt := 122) (by decide +kernel) (by decide) ?_
          refine Ev.blk (pc' := 125) [(.iinc 5 1, 0, 0, 0)] (by decide +kernel) trivial rfl (And.intro (Nat.le_of_ble_eq_true rfl) (?_))
          show Ev l d mi_X10_harmAt 125 [some (.ref 65), none, none, none, none, some (.int (x5 + Int32.ofInt 1)), some (.int (s.1 111 (((Int16.ofInt 1600).toInt32) + x5).toNatClampNeg))] [] (hp q14) 0 0 _
          refine Ev.goto (off := -79) (tgt := 46) (by decide +kernel) (by decide) ?_
          exact Ev.wk (ih (x5 + Int32.ofInt 1) q14 _ hf) (And.intro (Or.inr rfl) (And.intro (Or.inr rfl) (And.intro (Or.inr rfl) (And.intro (Or.inr rfl) (And.intro (Or.inr rfl) (And.intro (Or.inr rfl) (And.intro (Or.inl rfl) (trivial))))))))
      · have hf := (if_neg b9).symm.trans hf
        obtain ⟨v15, hv15, hf⟩ := lt_some hf
        refine Ev.blk (pc' := 86) [(.aload_n 0, 0, 0, 0), (.iload 6, 0, 0, 0), (.sipush 1000, 0, 0, 0), (.isub, 0, 0, 0), (.i2l, 0, 0, 0)] (by decide +kernel) trivial rfl (?_)
        show Ev l d mi_X10_harmAt 86 [some (.ref 65), none, none, none, none, some (.int x5), some (.int (s.1 111 (((Int16.ofInt 1600).toInt32) + x5).toNatClampNeg))] [.long ((s.1 111 (((Int16.ofInt 1600).toInt32) + x5).toNatClampNeg) - ((Int16.ofInt 1000).toInt32)).toInt64, .ref 65] (hp s) 0 0 _
        rw [← hv15]
        obtain ⟨q16, hq16, hf⟩ := bd_some hf
        refine Ev.callV (o := 65) (M' := mi_X10_qPuts) (d' := d - 1) (As := [.long v15]) (rest := []) (r' := (none, hp q16)) (e_X10_qPuts (d := d - 1) (by omega) v15 s _ hq16) (by omega) wm_X10_qPuts wi_X10_qPuts wv_X10_qPuts km_10_536 (kc rfl rfl) (Nat.le_of_ble_eq_true rfl) rfl rfl rfl (Nat.le_of_ble_eq_true rfl) ⟨Nat.le_of_ble_eq_true rfl, Nat.le_of_ble_eq_true rfl⟩ (by decide +kernel) ?_
        show Ev l d mi_X10_harmAt 89 [some (.ref 65), none, none, none, none, some (.int x5), some (.int (s.1 111 (((Int16.ofInt 1600).toInt32) + x5).toNatClampNeg))] [] (hp q16) 0 0 _
        refine Ev.goto (off := 33) (tgt := 122) (by decide +kernel) (by decide) ?_
        refine Ev.blk (pc' := 125) [(.iinc 5 1, 0, 0, 0)] (by decide +kernel) trivial rfl (And.intro (Nat.le_of_ble_eq_true rfl) (?_))
        show Ev l d mi_X10_harmAt 125 [some (.ref 65), none, none, none, none, some (.int (x5 + Int32.ofInt 1)), some (.int (s.1 111 (((Int16.ofInt 1600).toInt32) + x5).toNatClampNeg))] [] (hp q16) 0 0 _
        refine Ev.goto (off := -79) (tgt := 46) (by decide +kernel) (by decide) ?_
        exact Ev.wk (ih (x5 + Int32.ofInt 1) q16 _ hf) (And.intro (Or.inr rfl) (And.intro (Or.inr rfl) (And.intro (Or.inr rfl) (And.intro (Or.inr rfl) (And.intro (Or.inr rfl) (And.intro (Or.inr rfl) (And.intro (Or.inl rfl) (trivial))))))))
def f_X10_harmAt_j128 (s : ST) : Option (Int64 × ST) := gd (ib (Int32.ofInt 0) 1700) (lt (lg_cmp (s.2.1 148 (Int32.ofInt 0).toNatClampNeg) (Int64.ofNat ((0 : Fin 2) : Nat))) (fun v18 => (if 0 ≤ v18 then gd (ib (Int32.ofInt 0) 1700) (some ((s.2.1 148 (Int32.ofInt 0).toNatClampNeg), s)) else some ((Int64.ofNat ((0 : Fin 2) : Nat)), s))))
set_option maxHeartbeats 2000000 in
set_option maxRecDepth 20000 in
theorem e_X10_harmAt_j128 {l : Launch} {d : Nat} (hd : 4 ≤ d) (s : ST) (r : Int64 × ST) (hf : f_X10_harmAt_j128 s = some r) : Ev l d mi_X10_harmAt 128 [some (.ref 65), none, none, none, none, none, none] [] (hp s) 0 0 (some (.long r.1), hp r.2) := by
  unfold f_X10_harmAt_j128 at hf
  obtain ⟨c17, hf⟩ := gd_some hf
  obtain ⟨v18, hv18, hf⟩ := lt_some hf
  refine Ev.blk (pc' := 136) [(.aload_n 0, 0, 0, 0), (.getfield 269, 0, 10, 116), (.iconst 0, 0, 0, 0), (.laload, 0, 0, 0), (.lconst 0, 0, 0, 0), (.lcmp, 0, 0, 0)] (by decide +kernel) ⟨kf_10_269, trivial⟩ rfl (And.intro (kc rfl rfl) (Exists.intro 148 (And.intro rfl (And.intro (kc rfl rfl) (And.intro (ib_ok c17) (?_))))))
  show Ev l d mi_X10_harmAt 136 [some (.ref 65), none, none, none, none, none, none] [.int (lg_cmp (s.2.1 148 (Int32.ofInt 0).toNatClampNeg) (Int64.ofNat ((0 : Fin 2) : Nat)))] (hp s) 0 0 _
  rw [← hv18]
  refine Ev.if_ge (off := 7) (tgt := 143) (by decide +kernel) (by decide) (fun b19 => ?_) (fun b19 => ?_)
  · have hf := (if_pos b19).symm.trans hf
    obtain ⟨c20, hf⟩ := gd_some hf
    refine Ev.blk (pc' := 149) [(.aload_n 0, 0, 0, 0), (.getfield 269, 0, 10, 116), (.iconst 0, 0, 0, 0), (.laload, 0, 0, 0)] (by decide +kernel) ⟨kf_10_269, trivial⟩ rfl (And.intro (kc rfl rfl) (Exists.intro 148 (And.intro rfl (And.intro (kc rfl rfl) (And.intro (ib_ok c20) (?_))))))
    show Ev l d mi_X10_harmAt 149 [some (.ref 65), none, none, none, none, none, none] [.long (s.2.1 148 (Int32.ofInt 0).toNatClampNeg)] (hp s) 0 0 _
    cases hf
    exact Ev.lret rfl (by decide +kernel) (Nat.le_refl _) (Nat.le_refl _)
  · have hf := (if_neg b19).symm.trans hf
    refine Ev.blk (pc' := 140) [(.lconst 0, 0, 0, 0)] (by decide +kernel) trivial rfl (?_)
    show Ev l d mi_X10_harmAt 140 [some (.ref 65), none, none, none, none, none, none] [.long (Int64.ofNat ((0 : Fin 2) : Nat))] (hp s) 0 0 _
    refine Ev.goto (off := 9) (tgt := 149) (by decide +kernel) (by decide) ?_
    cases hf
    exact Ev.lret rfl (by decide +kernel) (Nat.le_refl _) (Nat.le_refl _)
def f_X10_harmAt (p0 : Int32) (p1 : Int32) (p2 : Int32) (p3 : Int32) (s : ST) : Option (Int64 × ST) := gd (ib (Int32.ofInt 1) 2) ((if (s.1 109 (Int32.ofInt 1).toNatClampNeg) = (Int32.ofInt (-1)) then some ((s.2.1 65 71), s) else (f_X10_farOff p0 p1 p2 p3 s).bind (fun q3 => gd (ib (Int32.ofInt 1) 2) (lt (uI (uI (uJ q3.2 65 73 ((q3.1).toInt64)) 65 59 (Int32.ofInt 1)) 65 117 (Int32.ofInt 0)) (fun s5 => (f_X10_harmAt_L46 f_X10_harmAt_j128 fuel) (s5.1 109 (Int32.ofInt 1).toNatClampNeg) s5)))))
set_option maxHeartbeats 2000000 in
set_option maxRecDepth 20000 in
theorem e_X10_harmAt {l : Launch} {d : Nat} (hd : 4 ≤ d) (p0 : Int32) (p1 : Int32) (p2 : Int32) (p3 : Int32) (s : ST) (r : Int64 × ST) (hf : f_X10_harmAt p0 p1 p2 p3 s = some r) : Cl l d mi_X10_harmAt [.ref 65, .int p0, .int p1, .int p2, .int p3] (hp s) (some (.long r.1), hp r.2) := by
  refine Ev.entry (by decide +kernel) rfl rfl ?_
  show Ev l d mi_X10_harmAt 0 [some (.ref 65), some (.int p0), some (.int p1), some (.int p2), some (.int p3), none, none] [] (hp s) 0 0 _
  unfold f_X10_harmAt at hf
  obtain ⟨c1, hf⟩ := gd_some hf
  refine Ev.blk (pc' := 7) [(.aload_n 0, 0, 0, 0), (.getfield 145, 0, 10, 53), (.iconst 1, 0, 0, 0), (.iaload, 0, 0, 0), (.iconst (-1), 0, 0, 0)] (by decide +kernel) ⟨kf_10_145, trivial⟩ rfl (And.intro (kc rfl rfl) (Exists.intro 109 (And.intro rfl (And.intro (kc rfl rfl) (And.intro (ib_ok c1) (?_))))))
  show Ev l d mi_X10_harmAt 7 [some (.ref 65), some (.int p0), some (.int p1), some (.int p2), some (.int p3), none, none] [.int (Int32.ofInt (-1)), .int (s.1 109 (Int32.ofInt 1).toNatClampNeg)] (hp s) 0 0 _
  refine Ev.icmp_ne (off := 8) (tgt := 15) (by decide +kernel) (by decide) (fun b2 => ?_) (fun b2 => ?_)
  · have hf := (if_neg b2).symm.trans hf
    refine Ev.blk (pc' := 21) [(.aload_n 0, 0, 0, 0), (.iload_n 1, 0, 0, 0), (.iload_n 2, 0, 0, 0), (.iload_n 3, 0, 0, 0), (.iload 4, 0, 0, 0)] (by decide +kernel) trivial rfl (?_)
    show Ev l d mi_X10_harmAt 21 [some (.ref 65), some (.int p0), some (.int p1), some (.int p2), some (.int p3), none, none] [.int p3, .int p2, .int p1, .int p0, .ref 65] (hp s) 0 0 _
    obtain ⟨q3, hq3, hf⟩ := bd_some hf
    refine Ev.callS (M' := mi_X10_farOff) (d' := d - 1) (As := [.int p0, .int p1, .int p2, .int p3]) (rest := [.ref 65]) (r' := (some (.int q3.1), hp q3.2)) (e_X10_farOff (d := d - 1) (by omega) p0 p1 p2 p3 s _ hq3) (by omega) wm_X10_farOff wt_X10_farOff km_10_461 rfl rfl rfl (Nat.le_of_ble_eq_true rfl) ⟨Nat.le_of_ble_eq_true rfl, Nat.le_of_ble_eq_true rfl⟩ (by decide +kernel) ?_
    show Ev l d mi_X10_harmAt 24 [some (.ref 65), some (.int p0), some (.int p1), some (.int p2), some (.int p3), none, none] [.int q3.1, .ref 65] (hp q3.2) 0 0 _
    obtain ⟨c4, hf⟩ := gd_some hf
    obtain ⟨s5, hs5, hf⟩ := lt_some hf
    refine Ev.blk (pc' := 46) [(.i2l, 0, 0, 0), (.putfield 530, 0, 10, 73), (.aload_n 0, 0, 0, 0), (.iconst 1, 0, 0, 0), (.putfield 336, 0, 10, 59), (.aload_n 0, 0, 0, 0), (.iconst 0, 0, 0, 0), (.putfield 533, 0, 10, 117), (.aload_n 0, 0, 0, 0), (.getfield 145, 0, 10, 53), (.iconst 1, 0, 0, 0), (.iaload, 0, 0, 0), (.istore 5, 0, 0, 0)] (by decide +kernel) ⟨⟨kf_10_530, Or.inl rfl⟩, ⟨⟨kf_10_336, Or.inl rfl⟩, ⟨⟨kf_10_533, Or.inl rfl⟩, ⟨kf_10_145, trivial⟩⟩⟩⟩ rfl (And.intro (kc rfl rfl) (And.intro (kc rfl rfl) (And.intro (Or.inr rfl) (And.intro (kc rfl rfl) (And.intro (kc rfl rfl) (Exists.intro 109 (And.intro rfl (And.intro (kc rfl rfl) (And.intro (ib_ok c4) (And.intro (Nat.le_of_ble_eq_true rfl) (?_)))))))))))
    show Ev l d mi_X10_harmAt 46 [some (.ref 65), some (.int p0), some (.int p1), some (.int p2), some (.int p3), some (.int ((uI (uI (uJ q3.2 65 73 ((q3.1).toInt64)) 65 59 (Int32.ofInt 1)) 65 117 (Int32.ofInt 0)).1 109 (Int32.ofInt 1).toNatClampNeg)), none] [] (hp (uI (uI (uJ q3.2 65 73 ((q3.1).toInt64)) 65 59 (Int32.ofInt 1)) 65 117 (Int32.ofInt 0))) 0 0 _
    rw [← hs5]
    exact Ev.wk ((e_X10_harmAt_L46 hd f_X10_harmAt_j128 (e_X10_harmAt_j128 hd) fuel) (s5.1 109 (Int32.ofInt 1).toNatClampNeg) s5 _ hf) (And.intro (Or.inr rfl) (And.intro (Or.inl rfl) (And.intro (Or.inl rfl) (And.intro (Or.inl rfl) (And.intro (Or.inl rfl) (And.intro (Or.inr rfl) (And.intro (Or.inr rfl) (trivial))))))))
  · have hf := (if_pos b2).symm.trans hf
    refine Ev.blk (pc' := 14) [(.aload_n 0, 0, 0, 0), (.getfield 527, 0, 10, 71)] (by decide +kernel) ⟨kf_10_527, trivial⟩ rfl (And.intro (kc rfl rfl) (?_))
    show Ev l d mi_X10_harmAt 14 [some (.ref 65), some (.int p0), some (.int p1), some (.int p2), some (.int p3), none, none] [.long (s.2.1 65 71)] (hp s) 0 0 _
    cases hf
    exact Ev.lret rfl (by decide +kernel) (Nat.le_refl _) (Nat.le_refl _)
def f_X10_isKept_j64 (s : ST) : Option (ST) := gd (ib ((Int8.ofInt 24).toInt32) 225) (gd (ib (Int32.ofInt 0) 225) (gd (ib ((((Int8.ofInt 25).toInt32) + ((Int32.ofInt 5) * (s.1 112 ((Int8.ofInt 24).toInt32).toNatClampNeg))) - (Int32.ofInt 5)) 225) (gd (ib (((((Int8.ofInt 25).toInt32) + ((Int32.ofInt 5) * (s.1 112 ((Int8.ofInt 24).toInt32).toNatClampNeg))) - (Int32.ofInt 5)) + (Int32.ofInt 1)) 225) (lt (uI (uI s 112 ((((Int8.ofInt 25).toInt32) + ((Int32.ofInt 5) * (s.1 112 ((Int8.ofInt 24).toInt32).toNatClampNeg))) - (Int32.ofInt 5)).toNatClampNeg (s.1 112 (Int32.ofInt 0).toNatClampNeg)) 112 (((((Int8.ofInt 25).toInt32) + ((Int32.ofInt 5) * (s.1 112 ((Int8.ofInt 24).toInt32).toNatClampNeg))) - (Int32.ofInt 5)) + (Int32.ofInt 1)).toNatClampNeg ((uI s 112 ((((Int8.ofInt 25).toInt32) + ((Int32.ofInt 5) * (s.1 112 ((Int8.ofInt 24).toInt32).toNatClampNeg))) - (Int32.ofInt 5)).toNatClampNeg (s.1 112 (Int32.ofInt 0).toNatClampNeg)).1 65 69)) (fun s15 => lt ((((Int8.ofInt 25).toInt32) + ((Int32.ofInt 5) * (s.1 112 ((Int8.ofInt 24).toInt32).toNatClampNeg))) - (Int32.ofInt 5)) (fun v16 => gd (ib (Int32.ofInt 4) 8) (gd (nz (s15.1 103 (Int32.ofInt 4).toNatClampNeg)) (gd (ib (v16 + (Int32.ofInt 2)) 225) (gd (ib (Int32.ofInt 4) 8) (gd (nz ((uI s15 112 (v16 + (Int32.ofInt 2)).toNatClampNeg ((s15.1 65 70) - (s15.1 65 70) / (s15.1 103 (Int32.ofInt 4).toNatClampNeg) * (s15.1 103 (Int32.ofInt 4).toNatClampNeg))).1 103 (Int32.ofInt 4).toNatClampNeg)) (gd (ib (v16 + (Int32.ofInt 3)) 225) (lt (uI (uI s15 112 (v16 + (Int32.ofInt 2)).toNatClampNeg ((s15.1 65 70) - (s15.1 65 70) / (s15.1 103 (Int32.ofInt 4).toNatClampNeg) * (s15.1 103 (Int32.ofInt 4).toNatClampNeg))) 112 (v16 + (Int32.ofInt 3)).toNatClampNeg (((uI s15 112 (v16 + (Int32.ofInt 2)).toNatClampNeg ((s15.1 65 70) - (s15.1 65 70) / (s15.1 103 (Int32.ofInt 4).toNatClampNeg) * (s15.1 103 (Int32.ofInt 4).toNatClampNeg))).1 65 70) / ((uI s15 112 (v16 + (Int32.ofInt 2)).toNatClampNeg ((s15.1 65 70) - (s15.1 65 70) / (s15.1 103 (Int32.ofInt 4).toNatClampNeg) * (s15.1 103 (Int32.ofInt 4).toNatClampNeg))).1 103 (Int32.ofInt 4).toNatClampNeg))) (fun s23 => gd (ib (v16 + (Int32.ofInt 4)) 225) (lt (uI s23 112 (v16 + (Int32.ofInt 4)).toNatClampNeg (s23.1 65 77)) (fun s25 => some s25)))))))))))))))
set_option maxHeartbeats 2000000 in
set_option maxRecDepth 20000 in
theorem e_X10_isKept_j64 {l : Launch} {d : Nat} (hd : 1 ≤ d) (s : ST) (r : ST) (hf : f_X10_isKept_j64 s = some r) : Ev l d mi_X10_isKept 64 [some (.ref 65), none] [] (hp s) 0 0 (none, hp r) := by
  unfold f_X10_isKept_j64 at hf
  obtain ⟨c11, hf⟩ := gd_some hf
  obtain ⟨c12, hf⟩ := gd_some hf
  obtain ⟨c13, hf⟩ := gd_some hf
  obtain ⟨c14, hf⟩ := gd_some hf
  obtain ⟨s15, hs15, hf⟩ := lt_some hf
  obtain ⟨v16, hv16, hf⟩ := lt_some hf
  refine Ev.blk (pc' := 108) [(.bipush 25, 0, 0, 0), (.iconst 5, 0, 0, 0), (.aload_n 0, 0, 0, 0), (.getfield 154, 0, 10, 62), (.bipush 24, 0, 0, 0), (.iaload, 0, 0, 0), (.imul, 0, 0, 0), (.iadd, 0, 0, 0), (.iconst 5, 0, 0, 0), (.isub, 0, 0, 0), (.istore_n 1, 0, 0, 0), (.aload_n 0, 0, 0, 0), (.getfield 154, 0, 10, 62), (.iload_n 1, 0, 0, 0), (.aload_n 0, 0, 0, 0), (.getfield 154, 0, 10, 62), (.iconst 0, 0, 0, 0), (.iaload, 0, 0, 0), (.iastore, 0, 0, 0), (.aload_n 0, 0, 0, 0), (.getfield 154, 0, 10, 62), (.iload_n 1, 0, 0, 0), (.iconst 1, 0, 0, 0), (.iadd, 0, 0, 0), (.aload_n 0, 0, 0, 0), (.getfield 521, 0, 10, 69), (.iastore, 0, 0, 0), (.aload_n 0, 0, 0, 0), (.getfield 154, 0, 10, 62), (.iload_n 1, 0, 0, 0)] (by decide +kernel) ⟨kf_10_154, ⟨kf_10_154, ⟨kf_10_154, ⟨kf_10_154, ⟨kf_10_521, ⟨kf_10_154, trivial⟩⟩⟩⟩⟩⟩ rfl (And.intro (kc rfl rfl) (Exists.intro 112 (And.intro rfl (And.intro (kc rfl rfl) (And.intro (ib_ok c11) (And.intro (Nat.le_of_ble_eq_true rfl) (And.intro (kc rfl rfl) (Exists.intro 112 (And.intro rfl (And.intro (kc rfl rfl) (Exists.intro 112 (And.intro rfl (And.intro (kc rfl rfl) (And.intro (ib_ok c12) (And.intro (kc rfl rfl) (And.intro (ib_ok c13) (And.intro (kc rfl rfl) (Exists.intro 112 (And.intro rfl (And.intro (kc rfl rfl) (And.intro (kc rfl rfl) (And.intro (ib_ok c14) (And.intro (kc rfl rfl) (Exists.intro 112 (And.intro rfl (?_))))))))))))))))))))))))))
  show Ev l d mi_X10_isKept 108 [some (.ref 65), some (.int ((((Int8.ofInt 25).toInt32) + ((Int32.ofInt 5) * (s.1 112 ((Int8.ofInt 24).toInt32).toNatClampNeg))) - (Int32.ofInt 5)))] [.int ((((Int8.ofInt 25).toInt32) + ((Int32.ofInt 5) * (s.1 112 ((Int8.ofInt 24).toInt32).toNatClampNeg))) - (Int32.ofInt 5)), .ref 112] (hp (uI (uI s 112 ((((Int8.ofInt 25).toInt32) + ((Int32.ofInt 5) * (s.1 112 ((Int8.ofInt 24).toInt32).toNatClampNeg))) - (Int32.ofInt 5)).toNatClampNeg (s.1 112 (Int32.ofInt 0).toNatClampNeg)) 112 (((((Int8.ofInt 25).toInt32) + ((Int32.ofInt 5) * (s.1 112 ((Int8.ofInt 24).toInt32).toNatClampNeg))) - (Int32.ofInt 5)) + (Int32.ofInt 1)).toNatClampNeg ((uI s 112 ((((Int8.ofInt 25).toInt32) + ((Int32.ofInt 5) * (s.1 112 ((Int8.ofInt 24).toInt32).toNatClampNeg))) - (Int32.ofInt 5)).toNatClampNeg (s.1 112 (Int32.ofInt 0).toNatClampNeg)).1 65 69))) 0 0 _
  rw [← hs15, ← hv16]
  obtain ⟨c17, hf⟩ := gd_some hf
  obtain ⟨c18, hf⟩ := gd_some hf
  obtain ⟨c19, hf⟩ := gd_some hf
  obtain ⟨c20, hf⟩ := gd_some hf
  obtain ⟨c21, hf⟩ := gd_some hf
  obtain ⟨c22, hf⟩ := gd_some hf
  obtain ⟨s23, hs23, hf⟩ := lt_some hf
  refine Ev.blk (pc' := 152) [(.iconst 2, 0, 0, 0), (.iadd, 0, 0, 0), (.aload_n 0, 0, 0, 0), (.getfield 524, 0, 10, 70), (.aload_n 0, 0, 0, 0), (.getfield 127, 0, 10, 47), (.iconst 4, 0, 0, 0), (.iaload, 0, 0, 0), (.irem, 0, 0, 0), (.iastore, 0, 0, 0), (.aload_n 0, 0, 0, 0), (.getfield 154, 0, 10, 62), (.iload_n 1, 0, 0, 0), (.iconst 3, 0, 0, 0), (.iadd, 0, 0, 0), (.aload_n 0, 0, 0, 0), (.getfield 524, 0, 10, 70), (.aload_n 0, 0, 0, 0), (.getfield 127, 0, 10, 47), (.iconst 4, 0, 0, 0), (.iaload, 0, 0, 0), (.idiv, 0, 0, 0), (.iastore, 0, 0, 0), (.aload_n 0, 0, 0, 0), (.getfield 154, 0, 10, 62), (.iload_n 1, 0, 0, 0), (.iconst 4, 0, 0, 0), (.iadd, 0, 0, 0), (.aload_n 0, 0, 0, 0), (.getfield 550, 0, 10, 77)] (by decide +kernel) ⟨kf_10_524, ⟨kf_10_127, ⟨kf_10_154, ⟨kf_10_524, ⟨kf_10_127, ⟨kf_10_154, ⟨kf_10_550, trivial⟩⟩⟩⟩⟩⟩⟩ rfl (And.intro (kc rfl rfl) (And.intro (kc rfl rfl) (Exists.intro 103 (And.intro rfl (And.intro (kc rfl rfl) (And.intro (ib_ok c17) (And.intro (nz_ok c18) (And.intro (kc rfl rfl) (And.intro (ib_ok c19) (And.intro (kc rfl rfl) (Exists.intro 112 (And.intro rfl (And.intro (kc rfl rfl) (And.intro (kc rfl rfl) (Exists.intro 103 (And.intro rfl (And.intro (kc rfl rfl) (And.intro (ib_ok c20) (And.intro (nz_ok c21) (And.intro (kc rfl rfl) (And.intro (ib_ok c22) (And.intro (kc rfl rfl) (Exists.intro 112 (And.intro rfl (And.intro (kc rfl rfl) (?_))))))))))))))))))))))))))
  show Ev l d mi_X10_isKept 152 [some (.ref 65), some (.int v16)] [.int ((uI (uI s15 112 (v16 + (Int32.ofInt 2)).toNatClampNeg ((s15.1 65 70) - (s15.1 65 70) / (s15.1 103 (Int32.ofInt 4).toNatClampNeg) * (s15.1 103 (Int32.ofInt 4).toNatClampNeg))) 112 (v16 + (Int32.ofInt 3)).toNatClampNeg (((uI s15 112 (v16 + (Int32.ofInt 2)).toNatClampNeg ((s15.1 65 70) - (s15.1 65 70) / (s15.1 103 (Int32.ofInt 4).toNatClampNeg) * (s15.1 103 (Int32.ofInt 4).toNatClampNeg))).1 65 70) / ((uI s15 112 (v16 + (Int32.ofInt 2)).toNatClampNeg ((s15.1 65 70) - (s15.1 65 70) / (s15.1 103 (Int32.ofInt 4).toNatClampNeg) * (s15.1 103 (Int32.ofInt 4).toNatClampNeg))).1 103 (Int32.ofInt 4).toNatClampNeg))).1 65 77), .int (v16 + (Int32.ofInt 4)), .ref 112] (hp (uI (uI s15 112 (v16 + (Int32.ofInt 2)).toNatClampNeg ((s15.1 65 70) - (s15.1 65 70) / (s15.1 103 (Int32.ofInt 4).toNatClampNeg) * (s15.1 103 (Int32.ofInt 4).toNatClampNeg))) 112 (v16 + (Int32.ofInt 3)).toNatClampNeg (((uI s15 112 (v16 + (Int32.ofInt 2)).toNatClampNeg ((s15.1 65 70) - (s15.1 65 70) / (s15.1 103 (Int32.ofInt 4).toNatClampNeg) * (s15.1 103 (Int32.ofInt 4).toNatClampNeg))).1 65 70) / ((uI s15 112 (v16 + (Int32.ofInt 2)).toNatClampNeg ((s15.1 65 70) - (s15.1 65 70) / (s15.1 103 (Int32.ofInt 4).toNatClampNeg) * (s15.1 103 (Int32.ofInt 4).toNatClampNeg))).1 103 (Int32.ofInt 4).toNatClampNeg)))) 0 0 _
  rw [← hs23]
  obtain ⟨c24, hf⟩ := gd_some hf
  obtain ⟨s25, hs25, hf⟩ := lt_some hf
  refine Ev.blk (pc' := 153) [(.iastore, 0, 0, 0)] (by decide +kernel) trivial rfl (And.intro (kc rfl rfl) (And.intro (ib_ok c24) (?_)))
  show Ev l d mi_X10_isKept 153 [some (.ref 65), some (.int v16)] [] (hp (uI s23 112 (v16 + (Int32.ofInt 4)).toNatClampNeg (s23.1 65 77))) 0 0 _
  rw [← hs25]
  cases hf
  exact Ev.vret rfl (by decide +kernel) (Nat.le_refl _) (Nat.le_refl _)
def f_X10_isKept_L23 (k64 : ST → Option (ST)) : Nat → Int32 → ST → Option (ST)
  | 0, _, _ => none
  | n + 1, x1, s => (if ((Int16.ofInt 220).toInt32) ≤ x1 then k64 s else gd (ib (x1 + (Int32.ofInt 5)) 225) (gd (ib x1 225) (lt (uI s 112 x1.toNatClampNeg (s.1 112 (x1 + (Int32.ofInt 5)).toNatClampNeg)) (fun s10 => (f_X10_isKept_L23 k64 n) (x1 + Int32.ofInt 1) s10))))
set_option maxHeartbeats 2000000 in
set_option maxRecDepth 20000 in
theorem e_X10_isKept_L23 {l : Launch} {d : Nat} (hd : 1 ≤ d) (k64 : ST → Option (ST)) (hk64 : ∀ (s : ST) (r : ST), k64 s = some r → Ev l d mi_X10_isKept 64 [some (.ref 65), none] [] (hp s) 0 0 (none, hp r)) : ∀ (n : Nat) (x1 : Int32) (s : ST) (r : ST), f_X10_isKept_L23 k64 n x1 s = some r → Ev l d mi_X10_isKept 23 [some (.ref 65), some (.int x1)] [] (hp s) 0 0 (none, hp r) := by
  intro n
  induction n with
  | zero =>
    intro x1 s r hf
    cases hf
  | succ n ih =>
    intro x1 s r hf
    unfold f_X10_isKept_L23 at hf
    refine Ev.blk (pc' := 27) [(.iload_n 1, 0, 0, 0), (.sipush 220, 0, 0, 0)] (by decide +kernel) trivial rfl (?_)
    show Ev l d mi_X10_isKept 27 [some (.ref 65), some (.int x1)] [.int ((Int16.ofInt 220).toInt32), .int x1] (hp s) 0 0 _
    refine Ev.icmp_ge (off := 23) (tgt := 50) (by decide +kernel) (by decide) (fun b7 => ?_) (fun b7 => ?_)
    · have hf := (if_pos b7).symm.trans hf
      refine Ev.goto (off := 14) (tgt := 64) (by decide +kernel) (by decide) ?_
      exact Ev.wk (hk64 s _ hf) (And.intro (Or.inr rfl) (And.intro (Or.inl rfl) (trivial)))
    · have hf := (if_neg b7).symm.trans hf
      obtain ⟨c8, hf⟩ := gd_some hf
      obtain ⟨c9, hf⟩ := gd_some hf
      obtain ⟨s10, hs10, hf⟩ := lt_some hf
      refine Ev.blk (pc' := 47) [(.aload_n 0, 0, 0, 0), (.getfield 154, 0, 10, 62), (.iload_n 1, 0, 0, 0), (.aload_n 0, 0, 0, 0), (.getfield 154, 0, 10, 62), (.iload_n 1, 0, 0, 0), (.iconst 5, 0, 0, 0), (.iadd, 0, 0, 0), (.iaload, 0, 0, 0), (.iastore, 0, 0, 0), (.iinc 1 1, 0, 0, 0)] (by decide +kernel) ⟨kf_10_154, ⟨kf_10_154, trivial⟩⟩ rfl (And.intro (kc rfl rfl) (Exists.intro 112 (And.intro rfl (And.intro (kc rfl rfl) (Exists.intro 112 (And.intro rfl (And.intro (kc rfl rfl) (And.intro (ib_ok c8) (And.intro (kc rfl rfl) (And.intro (ib_ok c9) (And.intro (Nat.le_of_ble_eq_true rfl) (?_))))))))))))
      show Ev l d mi_X10_isKept 47 [some (.ref 65), some (.int (x1 + Int32.ofInt 1))] [] (hp (uI s 112 x1.toNatClampNeg (s.1 112 (x1 + (Int32.ofInt 5)).toNatClampNeg))) 0 0 _
      rw [← hs10]
      refine Ev.goto (off := -24) (tgt := 23) (by decide +kernel) (by decide) ?_
      exact ih (x1 + Int32.ofInt 1) s10 _ hf
def f_X10_isKept (s : ST) : Option (ST) := (if (s.1 65 75) = 0 then gd (ib ((Int8.ofInt 24).toInt32) 225) ((if (s.1 112 ((Int8.ofInt 24).toInt32).toNatClampNeg) = ((Int8.ofInt 40).toInt32) then (f_X10_isKept_L23 f_X10_isKept_j64 fuel) ((Int8.ofInt 25).toInt32) s else gd (ib ((Int8.ofInt 24).toInt32) 225) (gd (ib ((Int8.ofInt 24).toInt32) 225) (lt (uI s 112 ((Int8.ofInt 24).toInt32).toNatClampNeg ((s.1 112 ((Int8.ofInt 24).toInt32).toNatClampNeg) + (Int32.ofInt 1))) (fun s6 => f_X10_isKept_j64 s6))))) else some s)
set_option maxHeartbeats 2000000 in
set_option maxRecDepth 20000 in
theorem e_X10_isKept {l : Launch} {d : Nat} (hd : 1 ≤ d) (s : ST) (r : ST) (hf : f_X10_isKept s = some r) : Cl l d mi_X10_isKept [.ref 65] (hp s) (none, hp r) := by
  refine Ev.entry (by decide +kernel) rfl rfl ?_
  show Ev l d mi_X10_isKept 0 [some (.ref 65), none] [] (hp s) 0 0 _
  unfold f_X10_isKept at hf
  refine Ev.blk (pc' := 4) [(.aload_n 0, 0, 0, 0), (.getfield 547, 0, 10, 75)] (by decide +kernel) ⟨kf_10_547, trivial⟩ rfl (And.intro (kc rfl rfl) (?_))
  show Ev l d mi_X10_isKept 4 [some (.ref 65), none] [.int (s.1 65 75)] (hp s) 0 0 _
  refine Ev.if_eq (off := 4) (tgt := 8) (by decide +kernel) (by decide) (fun b1 => ?_) (fun b1 => ?_)
  · have hf := (if_pos b1).symm.trans hf
    obtain ⟨c2, hf⟩ := gd_some hf
    refine Ev.blk (pc' := 17) [(.aload_n 0, 0, 0, 0), (.getfield 154, 0, 10, 62), (.bipush 24, 0, 0, 0), (.iaload, 0, 0, 0), (.bipush 40, 0, 0, 0)] (by decide +kernel) ⟨kf_10_154, trivial⟩ rfl (And.intro (kc rfl rfl) (Exists.intro 112 (And.intro rfl (And.intro (kc rfl rfl) (And.intro (ib_ok c2) (?_))))))
    show Ev l d mi_X10_isKept 17 [some (.ref 65), none] [.int ((Int8.ofInt 40).toInt32), .int (s.1 112 ((Int8.ofInt 24).toInt32).toNatClampNeg)] (hp s) 0 0 _
    refine Ev.icmp_ne (off := 36) (tgt := 53) (by decide +kernel) (by decide) (fun b3 => ?_) (fun b3 => ?_)
    · have hf := (if_neg b3).symm.trans hf
      obtain ⟨c4, hf⟩ := gd_some hf
      obtain ⟨c5, hf⟩ := gd_some hf
      obtain ⟨s6, hs6, hf⟩ := lt_some hf
      refine Ev.blk (pc' := 64) [(.aload_n 0, 0, 0, 0), (.getfield 154, 0, 10, 62), (.bipush 24, 0, 0, 0), (.dup2, 0, 0, 0), (.iaload, 0, 0, 0), (.iconst 1, 0, 0, 0), (.iadd, 0, 0, 0), (.iastore, 0, 0, 0)] (by decide +kernel) ⟨kf_10_154, trivial⟩ rfl (And.intro (kc rfl rfl) (Exists.intro 112 (And.intro rfl (And.intro (And.intro rfl rfl) (And.intro (kc rfl rfl) (And.intro (ib_ok c4) (And.intro (kc rfl rfl) (And.intro (ib_ok c5) (?_)))))))))
      show Ev l d mi_X10_isKept 64 [some (.ref 65), none] [] (hp (uI s 112 ((Int8.ofInt 24).toInt32).toNatClampNeg ((s.1 112 ((Int8.ofInt 24).toInt32).toNatClampNeg) + (Int32.ofInt 1)))) 0 0 _
      rw [← hs6]
      exact (e_X10_isKept_j64 hd) s6 _ hf
    · have hf := (if_pos b3).symm.trans hf
      refine Ev.blk (pc' := 23) [(.bipush 25, 0, 0, 0), (.istore_n 1, 0, 0, 0)] (by decide +kernel) trivial rfl (And.intro (Nat.le_of_ble_eq_true rfl) (?_))
      show Ev l d mi_X10_isKept 23 [some (.ref 65), some (.int ((Int8.ofInt 25).toInt32))] [] (hp s) 0 0 _
      exact (e_X10_isKept_L23 hd f_X10_isKept_j64 (e_X10_isKept_j64 hd) fuel) ((Int8.ofInt 25).toInt32) s _ hf
  · have hf := (if_neg b1).symm.trans hf
    cases hf
    exact Ev.vret rfl (by decide +kernel) (Nat.le_refl _) (Nat.le_refl _)
def f_X10_playsChosen_j189 (k104 : Int32 → Int32 → Int32 → ST → Option (ST)) (x1 : Int32) (x2 : Int32) (x4 : Int32) (y1 : Int32) (y2 : Int32) (s : ST) : Option (ST) := gd (ib y1 225) (lt (uI s 112 y1.toNatClampNeg y2) (fun s30 => k104 x1 x2 (x4 + Int32.ofInt 1) s30))
set_option maxHeartbeats 2000000 in
set_option maxRecDepth 20000 in
theorem e_X10_playsChosen_j189 {l : Launch} {d : Nat} (hd : 6 ≤ d) (k104 : Int32 → Int32 → Int32 → ST → Option (ST)) (hk104 : ∀ (x1 : Int32) (x2 : Int32) (x4 : Int32) (s : ST) (r : ST), k104 x1 x2 x4 s = some r → Ev l d mi_X10_playsChosen 104 [some (.ref 65), some (.int x1), some (.int x2), none, some (.int x4), none, none] [] (hp s) 0 0 (none, hp r)) (x1 : Int32) (x2 : Int32) (x4 : Int32) (y1 : Int32) (y2 : Int32) (s : ST) (r : ST) (hf : f_X10_playsChosen_j189 k104 x1 x2 x4 y1 y2 s = some r) : Ev l d mi_X10_playsChosen 189 [some (.ref 65), some (.int x1), some (.int x2), none, some (.int x4), none, none] [.int y2, .int y1, .ref 112] (hp s) 0 0 (none, hp r) := by
  unfold f_X10_playsChosen_j189 at hf
  obtain ⟨c29, hf⟩ := gd_some hf
  obtain ⟨s30, hs30, hf⟩ := lt_some hf
  refine Ev.blk (pc' := 193) [(.iastore, 0, 0, 0), (.iinc 4 1, 0, 0, 0)] (by decide +kernel) trivial rfl (And.intro (kc rfl rfl) (And.intro (ib_ok c29) (And.intro (Nat.le_of_ble_eq_true rfl) (?_))))
  show Ev l d mi_X10_playsChosen 193 [some (.ref 65), some (.int x1), some (.int x2), none, some (.int (x4 + Int32.ofInt 1)), none, none] [] (hp (uI s 112 y1.toNatClampNeg y2)) 0 0 _
  rw [← hs30]
  refine Ev.goto (off := -89) (tgt := 104) (by decide +kernel) (by decide) ?_
  exact hk104 x1 x2 (x4 + Int32.ofInt 1) s30 _ hf
def f_X10_playsChosen_L104 (k196 : ST → Option (ST)) : Nat → Int32 → Int32 → Int32 → ST → Option (ST)
  | 0, _, _, _, _ => none
  | n + 1, x1, x2, x4, s => (f_X10_fieldMany s).bind (fun q17 => (if q17.1 ≤ x4 then k196 q17.2 else gd (ib (((Int8.ofInt 18).toInt32) + ((Int32.ofInt 3) * x4)) 36) (gd (ib (((Int8.ofInt 19).toInt32) + ((Int32.ofInt 3) * x4)) 36) (lt (q17.2.1 107 (((Int8.ofInt 18).toInt32) + ((Int32.ofInt 3) * x4)).toNatClampNeg) (fun v21 => lt (q17.2.1 107 (((Int8.ofInt 19).toInt32) + ((Int32.ofInt 3) * x4)).toNatClampNeg) (fun v22 => (f_X10_harmAt v21 v22 x1 x2 q17.2).bind (fun q23 => gd (ib (((Int8.ofInt 18).toInt32) + x4) 225) (lt (lg_cmp q23.1 ((q23.2.1 112 (((Int8.ofInt 18).toInt32) + x4).toNatClampNeg).toInt64)) (fun v25 => (if v25 ≤ 0 then gd (ib (((Int8.ofInt 18).toInt32) + x4) 225) (lt ((q23.2.1 112 (((Int8.ofInt 18).toInt32) + x4).toNatClampNeg) - q23.1.toInt32) (fun v28 => (f_X10_playsChosen_j189 (f_X10_playsChosen_L104 k196 n)) x1 x2 x4 (((Int8.ofInt 18).toInt32) + x4) v28 q23.2)) else (f_X10_playsChosen_j189 (f_X10_playsChosen_L104 k196 n)) x1 x2 x4 (((Int8.ofInt 18).toInt32) + x4) (Int32.ofInt 0) q23.2))))))))))
set_option maxHeartbeats 2000000 in
set_option maxRecDepth 20000 in
theorem e_X10_playsChosen_L104 {l : Launch} {d : Nat} (hd : 6 ≤ d) (k196 : ST → Option (ST)) (hk196 : ∀ (s : ST) (r : ST), k196 s = some r → Ev l d mi_X10_playsChosen 196 [some (.ref 65), none, none, none, none, none, none] [] (hp s) 0 0 (none, hp r)) : ∀ (n : Nat) (x1 : Int32) (x2 : Int32) (x4 : Int32) (s : ST) (r : ST), f_X10_playsChosen_L104 k196 n x1 x2 x4 s = some r → Ev l d mi_X10_playsChosen 104 [some (.ref 65), some (.int x1), some (.int x2), none, some (.int x4), none, none] [] (hp s) 0 0 (none, hp r) := by
  intro n
  induction n with
  | zero =>
    intro x1 x2 x4 s r hf
    cases hf
  | succ n ih =>
    intro x1 x2 x4 s r hf
    unfold f_X10_playsChosen_L104 at hf
    refine Ev.blk (pc' := 107) [(.iload 4, 0, 0, 0), (.aload_n 0, 0, 0, 0)] (by decide +kernel) trivial rfl (?_)
    show Ev l d mi_X10_playsChosen 107 [some (.ref 65), some (.int x1), some (.int x2), none, some (.int x4), none, none] [.ref 65, .int x4] (hp s) 0 0 _
    obtain ⟨q17, hq17, hf⟩ := bd_some hf
    refine Ev.callV (o := 65) (M' := mi_X10_fieldMany) (d' := d - 1) (As := []) (rest := [.int x4]) (r' := (some (.int q17.1), hp q17.2)) (e_X10_fieldMany (d := d - 1) (by omega) s _ hq17) (by omega) wm_X10_fieldMany wi_X10_fieldMany wv_X10_fieldMany km_10_436 (kc rfl rfl) (Nat.le_of_ble_eq_true rfl) rfl rfl rfl (Nat.le_of_ble_eq_true rfl) ⟨Nat.le_of_ble_eq_true rfl, Nat.le_of_ble_eq_true rfl⟩ (by decide +kernel) ?_
    show Ev l d mi_X10_playsChosen 110 [some (.ref 65), some (.int x1), some (.int x2), none, some (.int x4), none, none] [.int q17.1, .int x4] (hp q17.2) 0 0 _
    refine Ev.icmp_ge (off := 86) (tgt := 196) (by decide +kernel) (by decide) (fun b18 => ?_) (fun b18 => ?_)
    · have hf := (if_pos b18).symm.trans hf
      exact Ev.wk (hk196 q17.2 _ hf) (And.intro (Or.inr rfl) (And.intro (Or.inl rfl) (And.intro (Or.inl rfl) (And.intro (Or.inr rfl) (And.intro (Or.inl rfl) (And.intro (Or.inr rfl) (And.intro (Or.inr rfl) (trivial))))))))
    · have hf := (if_neg b18).symm.trans hf
      obtain ⟨c19, hf⟩ := gd_some hf
      obtain ⟨c20, hf⟩ := gd_some hf
      obtain ⟨v21, hv21, hf⟩ := lt_some hf
      obtain ⟨v22, hv22, hf⟩ := lt_some hf
      refine Ev.blk (pc' := 140) [(.aload_n 0, 0, 0, 0), (.aload_n 0, 0, 0, 0), (.getfield 139, 0, 10, 51), (.bipush 18, 0, 0, 0), (.iconst 3, 0, 0, 0), (.iload 4, 0, 0, 0), (.imul, 0, 0, 0), (.iadd, 0, 0, 0), (.iaload, 0, 0, 0), (.aload_n 0, 0, 0, 0), (.getfield 139, 0, 10, 51), (.bipush 19, 0, 0, 0), (.iconst 3, 0, 0, 0), (.iload 4, 0, 0, 0), (.imul, 0, 0, 0), (.iadd, 0, 0, 0), (.iaload, 0, 0, 0), (.iload_n 1, 0, 0, 0), (.iload_n 2, 0, 0, 0)] (by decide +kernel) ⟨kf_10_139, ⟨kf_10_139, trivial⟩⟩ rfl (And.intro (kc rfl rfl) (Exists.intro 107 (And.intro rfl (And.intro (kc rfl rfl) (And.intro (ib_ok c19) (And.intro (kc rfl rfl) (Exists.intro 107 (And.intro rfl (And.intro (kc rfl rfl) (And.intro (ib_ok c20) (?_)))))))))))
      show Ev l d mi_X10_playsChosen 140 [some (.ref 65), some (.int x1), some (.int x2), none, some (.int x4), none, none] [.int x2, .int x1, .int (q17.2.1 107 (((Int8.ofInt 19).toInt32) + ((Int32.ofInt 3) * x4)).toNatClampNeg), .int (q17.2.1 107 (((Int8.ofInt 18).toInt32) + ((Int32.ofInt 3) * x4)).toNatClampNeg), .ref 65] (hp q17.2) 0 0 _
      rw [← hv21, ← hv22]
      obtain ⟨q23, hq23, hf⟩ := bd_some hf
      refine Ev.callV (o := 65) (M' := mi_X10_harmAt) (d' := d - 1) (As := [.int v21, .int v22, .int x1, .int x2]) (rest := []) (r' := (some (.long q23.1), hp q23.2)) (e_X10_harmAt (d := d - 1) (by omega) v21 v22 x1 x2 q17.2 _ hq23) (by omega) wm_X10_harmAt wi_X10_harmAt wv_X10_harmAt km_10_559 (kc rfl rfl) (Nat.le_of_ble_eq_true rfl) rfl rfl rfl (Nat.le_of_ble_eq_true rfl) ⟨Nat.le_of_ble_eq_true rfl, Nat.le_of_ble_eq_true rfl⟩ (by decide +kernel) ?_
      show Ev l d mi_X10_playsChosen 143 [some (.ref 65), some (.int x1), some (.int x2), none, some (.int x4), none, none] [.long q23.1] (hp q23.2) 0 0 _
      obtain ⟨c24, hf⟩ := gd_some hf
      obtain ⟨v25, hv25, hf⟩ := lt_some hf
      refine Ev.blk (pc' := 168) [(.lstore 5, 0, 0, 0), (.aload_n 0, 0, 0, 0), (.getfield 154, 0, 10, 62), (.bipush 18, 0, 0, 0), (.iload 4, 0, 0, 0), (.iadd, 0, 0, 0), (.lload 5, 0, 0, 0), (.aload_n 0, 0, 0, 0), (.getfield 154, 0, 10, 62), (.bipush 18, 0, 0, 0), (.iload 4, 0, 0, 0), (.iadd, 0, 0, 0), (.iaload, 0, 0, 0), (.i2l, 0, 0, 0), (.lcmp, 0, 0, 0)] (by decide +kernel) ⟨kf_10_154, ⟨kf_10_154, trivial⟩⟩ rfl (And.intro (Nat.le_of_ble_eq_true rfl) (And.intro (kc rfl rfl) (Exists.intro 112 (And.intro rfl (And.intro (kc rfl rfl) (Exists.intro 112 (And.intro rfl (And.intro (kc rfl rfl) (And.intro (ib_ok c24) (?_))))))))))
      show Ev l d mi_X10_playsChosen 168 [some (.ref 65), some (.int x1), some (.int x2), none, some (.int x4), some (.long q23.1), none] [.int (lg_cmp q23.1 ((q23.2.1 112 (((Int8.ofInt 18).toInt32) + x4).toNatClampNeg).toInt64)), .int (((Int8.ofInt 18).toInt32) + x4), .ref 112] (hp q23.2) 0 0 _
      rw [← hv25]
      refine Ev.if_le (off := 7) (tgt := 175) (by decide +kernel) (by decide) (fun b26 => ?_) (fun b26 => ?_)
      · have hf := (if_pos b26).symm.trans hf
        obtain ⟨c27, hf⟩ := gd_some hf
        obtain ⟨v28, hv28, hf⟩ := lt_some hf
        refine Ev.blk (pc' := 189) [(.aload_n 0, 0, 0, 0), (.getfield 154, 0, 10, 62), (.bipush 18, 0, 0, 0), (.iload 4, 0, 0, 0), (.iadd, 0, 0, 0), (.iaload, 0, 0, 0), (.lload 5, 0, 0, 0), (.l2i, 0, 0, 0), (.isub, 0, 0, 0)] (by decide +kernel) ⟨kf_10_154, trivial⟩ rfl (And.intro (kc rfl rfl) (Exists.intro 112 (And.intro rfl (And.intro (kc rfl rfl) (And.intro (ib_ok c27) (?_))))))
        show Ev l d mi_X10_playsChosen 189 [some (.ref 65), some (.int x1), some (.int x2), none, some (.int x4), some (.long q23.1), none] [.int ((q23.2.1 112 (((Int8.ofInt 18).toInt32) + x4).toNatClampNeg) - q23.1.toInt32), .int (((Int8.ofInt 18).toInt32) + x4), .ref 112] (hp q23.2) 0 0 _
        rw [← hv28]
        exact Ev.wk ((e_X10_playsChosen_j189 hd (f_X10_playsChosen_L104 k196 n) ih) x1 x2 x4 (((Int8.ofInt 18).toInt32) + x4) v28 q23.2 _ hf) (And.intro (Or.inr rfl) (And.intro (Or.inr rfl) (And.intro (Or.inr rfl) (And.intro (Or.inr rfl) (And.intro (Or.inr rfl) (And.intro (Or.inl rfl) (And.intro (Or.inr rfl) (trivial))))))))
      · have hf := (if_neg b26).symm.trans hf
        refine Ev.blk (pc' := 172) [(.iconst 0, 0, 0, 0)] (by decide +kernel) trivial rfl (?_)
        show Ev l d mi_X10_playsChosen 172 [some (.ref 65), some (.int x1), some (.int x2), none, some (.int x4), some (.long q23.1), none] [.int (Int32.ofInt 0), .int (((Int8.ofInt 18).toInt32) + x4), .ref 112] (hp q23.2) 0 0 _
        refine Ev.goto (off := 17) (tgt := 189) (by decide +kernel) (by decide) ?_
        exact Ev.wk ((e_X10_playsChosen_j189 hd (f_X10_playsChosen_L104 k196 n) ih) x1 x2 x4 (((Int8.ofInt 18).toInt32) + x4) (Int32.ofInt 0) q23.2 _ hf) (And.intro (Or.inr rfl) (And.intro (Or.inr rfl) (And.intro (Or.inr rfl) (And.intro (Or.inr rfl) (And.intro (Or.inr rfl) (And.intro (Or.inl rfl) (And.intro (Or.inr rfl) (trivial))))))))
def f_X10_playsChosen_j196 (s : ST) : Option (ST) := (f_X10_isKept s).bind (fun q31 => some q31)
set_option maxHeartbeats 2000000 in
set_option maxRecDepth 20000 in
theorem e_X10_playsChosen_j196 {l : Launch} {d : Nat} (hd : 6 ≤ d) (s : ST) (r : ST) (hf : f_X10_playsChosen_j196 s = some r) : Ev l d mi_X10_playsChosen 196 [some (.ref 65), none, none, none, none, none, none] [] (hp s) 0 0 (none, hp r) := by
  unfold f_X10_playsChosen_j196 at hf
  refine Ev.blk (pc' := 197) [(.aload_n 0, 0, 0, 0)] (by decide +kernel) trivial rfl (?_)
  show Ev l d mi_X10_playsChosen 197 [some (.ref 65), none, none, none, none, none, none] [.ref 65] (hp s) 0 0 _
  obtain ⟨q31, hq31, hf⟩ := bd_some hf
  refine Ev.callV (o := 65) (M' := mi_X10_isKept) (d' := d - 1) (As := []) (rest := []) (r' := (none, hp q31)) (e_X10_isKept (d := d - 1) (by omega) s _ hq31) (by omega) wm_X10_isKept wi_X10_isKept wv_X10_isKept km_10_563 (kc rfl rfl) (Nat.le_of_ble_eq_true rfl) rfl rfl rfl (Nat.le_of_ble_eq_true rfl) ⟨Nat.le_of_ble_eq_true rfl, Nat.le_of_ble_eq_true rfl⟩ (by decide +kernel) ?_
  show Ev l d mi_X10_playsChosen 200 [some (.ref 65), none, none, none, none, none, none] [] (hp q31) 0 0 _
  cases hf
  exact Ev.vret rfl (by decide +kernel) (Nat.le_refl _) (Nat.le_refl _)
def f_X10_playsChosen_j98 (x1 : Int32) (x2 : Int32) (y1 : Int64) (s : ST) : Option (ST) := lt (uJ s 65 72 y1) (fun s16 => (f_X10_playsChosen_L104 f_X10_playsChosen_j196 fuel) x1 x2 (Int32.ofInt 0) s16)
set_option maxHeartbeats 2000000 in
set_option maxRecDepth 20000 in
theorem e_X10_playsChosen_j98 {l : Launch} {d : Nat} (hd : 6 ≤ d) (x1 : Int32) (x2 : Int32) (y1 : Int64) (s : ST) (r : ST) (hf : f_X10_playsChosen_j98 x1 x2 y1 s = some r) : Ev l d mi_X10_playsChosen 98 [some (.ref 65), some (.int x1), some (.int x2), none, none, none, none] [.long y1, .ref 65] (hp s) 0 0 (none, hp r) := by
  unfold f_X10_playsChosen_j98 at hf
  obtain ⟨s16, hs16, hf⟩ := lt_some hf
  refine Ev.blk (pc' := 104) [(.putfield 556, 0, 10, 72), (.iconst 0, 0, 0, 0), (.istore 4, 0, 0, 0)] (by decide +kernel) ⟨⟨kf_10_556, Or.inl rfl⟩, trivial⟩ rfl (And.intro (kc rfl rfl) (And.intro (Nat.le_of_ble_eq_true rfl) (?_)))
  show Ev l d mi_X10_playsChosen 104 [some (.ref 65), some (.int x1), some (.int x2), none, some (.int (Int32.ofInt 0)), none, none] [] (hp (uJ s 65 72 y1)) 0 0 _
  rw [← hs16]
  exact (e_X10_playsChosen_L104 hd f_X10_playsChosen_j196 (e_X10_playsChosen_j196 hd) fuel) x1 x2 (Int32.ofInt 0) s16 _ hf
def f_X10_playsChosen_j63 (x1 : Int32) (x2 : Int32) (y1 : Int64) (s : ST) : Option (ST) := lt (uJ s 65 71 y1) (fun s11 => (f_X10_does (Int32.ofInt 4) (s11.1 65 69) (s11.1 65 70) s11).bind (fun q12 => gd (ib (Int32.ofInt 1) 225) ((f_X10_isCheck (q12.1 112 (Int32.ofInt 1).toNatClampNeg) q12).bind (fun q14 => (if q14.1 = 0 then f_X10_playsChosen_j98 x1 x2 (Int64.ofNat ((0 : Fin 2) : Nat)) q14.2 else f_X10_playsChosen_j98 x1 x2 (Int64.ofNat ((1 : Fin 2) : Nat)) q14.2)))))
set_option maxHeartbeats 2000000 in
set_option maxRecDepth 20000 in
theorem e_X10_playsChosen_j63 {l : Launch} {d : Nat} (hd : 6 ≤ d) (x1 : Int32) (x2 : Int32) (y1 : Int64) (s : ST) (r : ST) (hf : f_X10_playsChosen_j63 x1 x2 y1 s = some r) : Ev l d mi_X10_playsChosen 63 [some (.ref 65), some (.int x1), some (.int x2), none, none, none, none] [.long y1, .ref 65] (hp s) 0 0 (none, hp r) := by
  unfold f_X10_playsChosen_j63 at hf
  obtain ⟨s11, hs11, hf⟩ := lt_some hf
  refine Ev.blk (pc' := 76) [(.putfield 527, 0, 10, 71), (.aload_n 0, 0, 0, 0), (.iconst 4, 0, 0, 0), (.aload_n 0, 0, 0, 0), (.getfield 521, 0, 10, 69), (.aload_n 0, 0, 0, 0), (.getfield 524, 0, 10, 70)] (by decide +kernel) ⟨⟨kf_10_527, Or.inl rfl⟩, ⟨kf_10_521, ⟨kf_10_524, trivial⟩⟩⟩ rfl (And.intro (kc rfl rfl) (And.intro (kc rfl rfl) (And.intro (kc rfl rfl) (?_))))
  show Ev l d mi_X10_playsChosen 76 [some (.ref 65), some (.int x1), some (.int x2), none, none, none, none] [.int ((uJ s 65 71 y1).1 65 70), .int ((uJ s 65 71 y1).1 65 69), .int (Int32.ofInt 4), .ref 65] (hp (uJ s 65 71 y1)) 0 0 _
  rw [← hs11]
  obtain ⟨q12, hq12, hf⟩ := bd_some hf
  refine Ev.callV (o := 65) (M' := mi_X10_does) (d' := d - 1) (As := [.int (Int32.ofInt 4), .int (s11.1 65 69), .int (s11.1 65 70)]) (rest := []) (r' := (none, hp q12)) (e_X10_does (d := d - 1) (by omega) (Int32.ofInt 4) (s11.1 65 69) (s11.1 65 70) s11 _ hq12) (by omega) wm_X10_does wi_X10_does wv_X10_does km_10_496 (kc rfl rfl) (Nat.le_of_ble_eq_true rfl) rfl rfl rfl (Nat.le_of_ble_eq_true rfl) ⟨Nat.le_of_ble_eq_true rfl, Nat.le_of_ble_eq_true rfl⟩ (by decide +kernel) ?_
  show Ev l d mi_X10_playsChosen 79 [some (.ref 65), some (.int x1), some (.int x2), none, none, none, none] [] (hp q12) 0 0 _
  obtain ⟨c13, hf⟩ := gd_some hf
  refine Ev.blk (pc' := 87) [(.aload_n 0, 0, 0, 0), (.aload_n 0, 0, 0, 0), (.aload_n 0, 0, 0, 0), (.getfield 154, 0, 10, 62), (.iconst 1, 0, 0, 0), (.iaload, 0, 0, 0)] (by decide +kernel) ⟨kf_10_154, trivial⟩ rfl (And.intro (kc rfl rfl) (Exists.intro 112 (And.intro rfl (And.intro (kc rfl rfl) (And.intro (ib_ok c13) (?_))))))
  show Ev l d mi_X10_playsChosen 87 [some (.ref 65), some (.int x1), some (.int x2), none, none, none, none] [.int (q12.1 112 (Int32.ofInt 1).toNatClampNeg), .ref 65, .ref 65] (hp q12) 0 0 _
  obtain ⟨q14, hq14, hf⟩ := bd_some hf
  refine Ev.callV (o := 65) (M' := mi_X10_isCheck) (d' := d - 1) (As := [.int (q12.1 112 (Int32.ofInt 1).toNatClampNeg)]) (rest := [.ref 65]) (r' := (some (.int q14.1), hp q14.2)) (e_X10_isCheck (d := d - 1) (by omega) (q12.1 112 (Int32.ofInt 1).toNatClampNeg) q12 _ hq14) (by omega) wm_X10_isCheck wi_X10_isCheck wv_X10_isCheck km_10_553 (kc rfl rfl) (Nat.le_of_ble_eq_true rfl) rfl rfl rfl (Nat.le_of_ble_eq_true rfl) ⟨Nat.le_of_ble_eq_true rfl, Nat.le_of_ble_eq_true rfl⟩ (by decide +kernel) ?_
  show Ev l d mi_X10_playsChosen 90 [some (.ref 65), some (.int x1), some (.int x2), none, none, none, none] [.int q14.1, .ref 65] (hp q14.2) 0 0 _
  refine Ev.if_eq (off := 7) (tgt := 97) (by decide +kernel) (by decide) (fun b15 => ?_) (fun b15 => ?_)
  · have hf := (if_pos b15).symm.trans hf
    refine Ev.blk (pc' := 98) [(.lconst 0, 0, 0, 0)] (by decide +kernel) trivial rfl (?_)
    show Ev l d mi_X10_playsChosen 98 [some (.ref 65), some (.int x1), some (.int x2), none, none, none, none] [.long (Int64.ofNat ((0 : Fin 2) : Nat)), .ref 65] (hp q14.2) 0 0 _
    exact (e_X10_playsChosen_j98 hd) x1 x2 (Int64.ofNat ((0 : Fin 2) : Nat)) q14.2 _ hf
  · have hf := (if_neg b15).symm.trans hf
    refine Ev.blk (pc' := 94) [(.lconst 1, 0, 0, 0)] (by decide +kernel) trivial rfl (?_)
    show Ev l d mi_X10_playsChosen 94 [some (.ref 65), some (.int x1), some (.int x2), none, none, none, none] [.long (Int64.ofNat ((1 : Fin 2) : Nat)), .ref 65] (hp q14.2) 0 0 _
    refine Ev.goto (off := 4) (tgt := 98) (by decide +kernel) (by decide) ?_
    exact (e_X10_playsChosen_j98 hd) x1 x2 (Int64.ofNat ((1 : Fin 2) : Nat)) q14.2 _ hf
def f_X10_playsChosen_j44 (x1 : Int32) (x2 : Int32) (x3 : Int32) (y1 : Int32) (s : ST) : Option (ST) := lt (uI s 65 77 y1) (fun s8 => (if x3 = (Int32.ofInt (-1)) then f_X10_playsChosen_j63 x1 x2 (Int64.ofNat ((0 : Fin 2) : Nat)) s8 else (f_X10_worthOf x3 s8).bind (fun q10 => f_X10_playsChosen_j63 x1 x2 ((q10.1).toInt64) q10.2)))
set_option maxHeartbeats 2000000 in
set_option maxRecDepth 20000 in
theorem e_X10_playsChosen_j44 {l : Launch} {d : Nat} (hd : 6 ≤ d) (x1 : Int32) (x2 : Int32) (x3 : Int32) (y1 : Int32) (s : ST) (r : ST) (hf : f_X10_playsChosen_j44 x1 x2 x3 y1 s = some r) : Ev l d mi_X10_playsChosen 44 [some (.ref 65), some (.int x1), some (.int x2), some (.int x3), none, none, none] [.int y1, .ref 65] (hp s) 0 0 (none, hp r) := by
  unfold f_X10_playsChosen_j44 at hf
  obtain ⟨s8, hs8, hf⟩ := lt_some hf
  refine Ev.blk (pc' := 50) [(.putfield 550, 0, 10, 77), (.aload_n 0, 0, 0, 0), (.iload_n 3, 0, 0, 0), (.iconst (-1), 0, 0, 0)] (by decide +kernel) ⟨⟨kf_10_550, Or.inl rfl⟩, trivial⟩ rfl (And.intro (kc rfl rfl) (?_))
  show Ev l d mi_X10_playsChosen 50 [some (.ref 65), some (.int x1), some (.int x2), some (.int x3), none, none, none] [.int (Int32.ofInt (-1)), .int x3, .ref 65] (hp (uI s 65 77 y1)) 0 0 _
  rw [← hs8]
  refine Ev.icmp_ne (off := 7) (tgt := 57) (by decide +kernel) (by decide) (fun b9 => ?_) (fun b9 => ?_)
  · have hf := (if_neg b9).symm.trans hf
    refine Ev.blk (pc' := 59) [(.aload_n 0, 0, 0, 0), (.iload_n 3, 0, 0, 0)] (by decide +kernel) trivial rfl (?_)
    show Ev l d mi_X10_playsChosen 59 [some (.ref 65), some (.int x1), some (.int x2), some (.int x3), none, none, none] [.int x3, .ref 65, .ref 65] (hp s8) 0 0 _
    obtain ⟨q10, hq10, hf⟩ := bd_some hf
    refine Ev.callV (o := 65) (M' := mi_X10_worthOf) (d' := d - 1) (As := [.int x3]) (rest := [.ref 65]) (r' := (some (.int q10.1), hp q10.2)) (e_X10_worthOf (d := d - 1) (by omega) x3 s8 _ hq10) (by omega) wm_X10_worthOf wi_X10_worthOf wv_X10_worthOf km_10_490 (kc rfl rfl) (Nat.le_of_ble_eq_true rfl) rfl rfl rfl (Nat.le_of_ble_eq_true rfl) ⟨Nat.le_of_ble_eq_true rfl, Nat.le_of_ble_eq_true rfl⟩ (by decide +kernel) ?_
    show Ev l d mi_X10_playsChosen 62 [some (.ref 65), some (.int x1), some (.int x2), some (.int x3), none, none, none] [.int q10.1, .ref 65] (hp q10.2) 0 0 _
    refine Ev.blk (pc' := 63) [(.i2l, 0, 0, 0)] (by decide +kernel) trivial rfl (?_)
    show Ev l d mi_X10_playsChosen 63 [some (.ref 65), some (.int x1), some (.int x2), some (.int x3), none, none, none] [.long (q10.1).toInt64, .ref 65] (hp q10.2) 0 0 _
    exact Ev.wk ((e_X10_playsChosen_j63 hd) x1 x2 ((q10.1).toInt64) q10.2 _ hf) (And.intro (Or.inr rfl) (And.intro (Or.inr rfl) (And.intro (Or.inr rfl) (And.intro (Or.inl rfl) (And.intro (Or.inr rfl) (And.intro (Or.inr rfl) (And.intro (Or.inr rfl) (trivial))))))))
  · have hf := (if_pos b9).symm.trans hf
    refine Ev.blk (pc' := 54) [(.lconst 0, 0, 0, 0)] (by decide +kernel) trivial rfl (?_)
    show Ev l d mi_X10_playsChosen 54 [some (.ref 65), some (.int x1), some (.int x2), some (.int x3), none, none, none] [.long (Int64.ofNat ((0 : Fin 2) : Nat)), .ref 65] (hp s8) 0 0 _
    refine Ev.goto (off := 9) (tgt := 63) (by decide +kernel) (by decide) ?_
    exact Ev.wk ((e_X10_playsChosen_j63 hd) x1 x2 (Int64.ofNat ((0 : Fin 2) : Nat)) s8 _ hf) (And.intro (Or.inr rfl) (And.intro (Or.inr rfl) (And.intro (Or.inr rfl) (And.intro (Or.inl rfl) (And.intro (Or.inr rfl) (And.intro (Or.inr rfl) (And.intro (Or.inr rfl) (trivial))))))))
def f_X10_playsChosen (s : ST) : Option (ST) := gd (ib (Int32.ofInt 4) 8) (gd (nz (s.1 103 (Int32.ofInt 4).toNatClampNeg)) (gd (ib (Int32.ofInt 4) 8) (gd (nz (s.1 103 (Int32.ofInt 4).toNatClampNeg)) (lt ((s.1 65 70) - (s.1 65 70) / (s.1 103 (Int32.ofInt 4).toNatClampNeg) * (s.1 103 (Int32.ofInt 4).toNatClampNeg)) (fun v5 => (f_X10_manAt v5 ((s.1 65 70) / (s.1 103 (Int32.ofInt 4).toNatClampNeg)) s).bind (fun q6 => (if q6.1 = (Int32.ofInt (-1)) then f_X10_playsChosen_j44 v5 ((s.1 65 70) / (s.1 103 (Int32.ofInt 4).toNatClampNeg)) q6.1 ((Int16.ofInt 255).toInt32) q6.2 else f_X10_playsChosen_j44 v5 ((s.1 65 70) / (s.1 103 (Int32.ofInt 4).toNatClampNeg)) q6.1 q6.1 q6.2)))))))
set_option maxHeartbeats 2000000 in
set_option maxRecDepth 20000 in
theorem e_X10_playsChosen {l : Launch} {d : Nat} (hd : 6 ≤ d) (s : ST) (r : ST) (hf : f_X10_playsChosen s = some r) : Cl l d mi_X10_playsChosen [.ref 65] (hp s) (none, hp r) := by
  refine Ev.entry (by decide +kernel) rfl rfl ?_
  show Ev l d mi_X10_playsChosen 0 [some (.ref 65), none, none, none, none, none, none] [] (hp s) 0 0 _
  unfold f_X10_playsChosen at hf
  obtain ⟨c1, hf⟩ := gd_some hf
  obtain ⟨c2, hf⟩ := gd_some hf
  obtain ⟨c3, hf⟩ := gd_some hf
  obtain ⟨c4, hf⟩ := gd_some hf
  obtain ⟨v5, hv5, hf⟩ := lt_some hf
  refine Ev.blk (pc' := 27) [(.aload_n 0, 0, 0, 0), (.getfield 524, 0, 10, 70), (.aload_n 0, 0, 0, 0), (.getfield 127, 0, 10, 47), (.iconst 4, 0, 0, 0), (.iaload, 0, 0, 0), (.irem, 0, 0, 0), (.istore_n 1, 0, 0, 0), (.aload_n 0, 0, 0, 0), (.getfield 524, 0, 10, 70), (.aload_n 0, 0, 0, 0), (.getfield 127, 0, 10, 47), (.iconst 4, 0, 0, 0), (.iaload, 0, 0, 0), (.idiv, 0, 0, 0), (.istore_n 2, 0, 0, 0), (.aload_n 0, 0, 0, 0), (.iload_n 1, 0, 0, 0), (.iload_n 2, 0, 0, 0)] (by decide +kernel) ⟨kf_10_524, ⟨kf_10_127, ⟨kf_10_524, ⟨kf_10_127, trivial⟩⟩⟩⟩ rfl (And.intro (kc rfl rfl) (And.intro (kc rfl rfl) (Exists.intro 103 (And.intro rfl (And.intro (kc rfl rfl) (And.intro (ib_ok c1) (And.intro (nz_ok c2) (And.intro (Nat.le_of_ble_eq_true rfl) (And.intro (kc rfl rfl) (And.intro (kc rfl rfl) (Exists.intro 103 (And.intro rfl (And.intro (kc rfl rfl) (And.intro (ib_ok c3) (And.intro (nz_ok c4) (And.intro (Nat.le_of_ble_eq_true rfl) (?_)))))))))))))))))
  show Ev l d mi_X10_playsChosen 27 [some (.ref 65), some (.int ((s.1 65 70) - (s.1 65 70) / (s.1 103 (Int32.ofInt 4).toNatClampNeg) * (s.1 103 (Int32.ofInt 4).toNatClampNeg))), some (.int ((s.1 65 70) / (s.1 103 (Int32.ofInt 4).toNatClampNeg))), none, none, none, none] [.int ((s.1 65 70) / (s.1 103 (Int32.ofInt 4).toNatClampNeg)), .int ((s.1 65 70) - (s.1 65 70) / (s.1 103 (Int32.ofInt 4).toNatClampNeg) * (s.1 103 (Int32.ofInt 4).toNatClampNeg)), .ref 65] (hp s) 0 0 _
  rw [← hv5]
  obtain ⟨q6, hq6, hf⟩ := bd_some hf
  refine Ev.callV (o := 65) (M' := mi_X10_manAt) (d' := d - 1) (As := [.int v5, .int ((s.1 65 70) / (s.1 103 (Int32.ofInt 4).toNatClampNeg))]) (rest := []) (r' := (some (.int q6.1), hp q6.2)) (e_X10_manAt (d := d - 1) (by omega) v5 ((s.1 65 70) / (s.1 103 (Int32.ofInt 4).toNatClampNeg)) s _ hq6) (by omega) wm_X10_manAt wi_X10_manAt wv_X10_manAt km_10_455 (kc rfl rfl) (Nat.le_of_ble_eq_true rfl) rfl rfl rfl (Nat.le_of_ble_eq_true rfl) ⟨Nat.le_of_ble_eq_true rfl, Nat.le_of_ble_eq_true rfl⟩ (by decide +kernel) ?_
  show Ev l d mi_X10_playsChosen 30 [some (.ref 65), some (.int v5), some (.int ((s.1 65 70) / (s.1 103 (Int32.ofInt 4).toNatClampNeg))), none, none, none, none] [.int q6.1] (hp q6.2) 0 0 _
  refine Ev.blk (pc' := 34) [(.istore_n 3, 0, 0, 0), (.aload_n 0, 0, 0, 0), (.iload_n 3, 0, 0, 0), (.iconst (-1), 0, 0, 0)] (by decide +kernel) trivial rfl (And.intro (Nat.le_of_ble_eq_true rfl) (?_))
  show Ev l d mi_X10_playsChosen 34 [some (.ref 65), some (.int v5), some (.int ((s.1 65 70) / (s.1 103 (Int32.ofInt 4).toNatClampNeg))), some (.int q6.1), none, none, none] [.int (Int32.ofInt (-1)), .int q6.1, .ref 65] (hp q6.2) 0 0 _
  refine Ev.icmp_ne (off := 9) (tgt := 43) (by decide +kernel) (by decide) (fun b7 => ?_) (fun b7 => ?_)
  · have hf := (if_neg b7).symm.trans hf
    refine Ev.blk (pc' := 44) [(.iload_n 3, 0, 0, 0)] (by decide +kernel) trivial rfl (?_)
    show Ev l d mi_X10_playsChosen 44 [some (.ref 65), some (.int v5), some (.int ((s.1 65 70) / (s.1 103 (Int32.ofInt 4).toNatClampNeg))), some (.int q6.1), none, none, none] [.int q6.1, .ref 65] (hp q6.2) 0 0 _
    exact (e_X10_playsChosen_j44 hd) v5 ((s.1 65 70) / (s.1 103 (Int32.ofInt 4).toNatClampNeg)) q6.1 q6.1 q6.2 _ hf
  · have hf := (if_pos b7).symm.trans hf
    refine Ev.blk (pc' := 40) [(.sipush 255, 0, 0, 0)] (by decide +kernel) trivial rfl (?_)
    show Ev l d mi_X10_playsChosen 40 [some (.ref 65), some (.int v5), some (.int ((s.1 65 70) / (s.1 103 (Int32.ofInt 4).toNatClampNeg))), some (.int q6.1), none, none, none] [.int ((Int16.ofInt 255).toInt32), .ref 65] (hp q6.2) 0 0 _
    refine Ev.goto (off := 4) (tgt := 44) (by decide +kernel) (by decide) ?_
    exact (e_X10_playsChosen_j44 hd) v5 ((s.1 65 70) / (s.1 103 (Int32.ofInt 4).toNatClampNeg)) q6.1 ((Int16.ofInt 255).toInt32) q6.2 _ hf
def f_X10_laysHarms_L93 : Nat → Int32 → Int32 → Int32 → ST → Option (ST)
  | 0, _, _, _, _ => none
  | n + 1, x1, x2, x4, s => (f_X10_places s).bind (fun q16 => (if q16.1 ≤ x4 then some q16.2 else gd (ib x4 25) (gd (ib (Int32.ofInt 4) 8) (gd (nz (q16.2.1 103 (Int32.ofInt 4).toNatClampNeg)) (gd (ib (Int32.ofInt 4) 8) (gd (nz (q16.2.1 103 (Int32.ofInt 4).toNatClampNeg)) (lt (x4 - x4 / (q16.2.1 103 (Int32.ofInt 4).toNatClampNeg) * (q16.2.1 103 (Int32.ofInt 4).toNatClampNeg)) (fun v23 => (f_X10_harmAt v23 (x4 / (q16.2.1 103 (Int32.ofInt 4).toNatClampNeg)) x1 x2 q16.2).bind (fun q24 => gd (ib x4 25) (lt (uJ q24.2 119 x4.toNatClampNeg ((q16.2.2.1 119 x4.toNatClampNeg) + q24.1)) (fun s26 => (f_X10_laysHarms_L93 n) x1 x2 (x4 + Int32.ofInt 1) s26)))))))))))
set_option maxHeartbeats 2000000 in
set_option maxRecDepth 20000 in
theorem e_X10_laysHarms_L93 {l : Launch} {d : Nat} (hd : 6 ≤ d) : ∀ (n : Nat) (x1 : Int32) (x2 : Int32) (x4 : Int32) (s : ST) (r : ST), f_X10_laysHarms_L93 n x1 x2 x4 s = some r → Ev l d mi_X10_laysHarms 93 [some (.ref 65), some (.int x1), some (.int x2), none, some (.int x4)] [] (hp s) 0 0 (none, hp r) := by
  intro n
  induction n with
  | zero =>
    intro x1 x2 x4 s r hf
    cases hf
  | succ n ih =>
    intro x1 x2 x4 s r hf
    unfold f_X10_laysHarms_L93 at hf
    refine Ev.blk (pc' := 96) [(.iload 4, 0, 0, 0), (.aload_n 0, 0, 0, 0)] (by decide +kernel) trivial rfl (?_)
    show Ev l d mi_X10_laysHarms 96 [some (.ref 65), some (.int x1), some (.int x2), none, some (.int x4)] [.ref 65, .int x4] (hp s) 0 0 _
    obtain ⟨q16, hq16, hf⟩ := bd_some hf
    refine Ev.callV (o := 65) (M' := mi_X10_places) (d' := d - 1) (As := []) (rest := [.int x4]) (r' := (some (.int q16.1), hp q16.2)) (e_X10_places (d := d - 1) (by omega) s _ hq16) (by omega) wm_X10_places wi_X10_places wv_X10_places km_10_471 (kc rfl rfl) (Nat.le_of_ble_eq_true rfl) rfl rfl rfl (Nat.le_of_ble_eq_true rfl) ⟨Nat.le_of_ble_eq_true rfl, Nat.le_of_ble_eq_true rfl⟩ (by decide +kernel) ?_
    show Ev l d mi_X10_laysHarms 99 [some (.ref 65), some (.int x1), some (.int x2), none, some (.int x4)] [.int q16.1, .int x4] (hp q16.2) 0 0 _
    refine Ev.icmp_ge (off := 43) (tgt := 142) (by decide +kernel) (by decide) (fun b17 => ?_) (fun b17 => ?_)
    · have hf := (if_pos b17).symm.trans hf
      cases hf
      exact Ev.vret rfl (by decide +kernel) (Nat.le_refl _) (Nat.le_refl _)
    · have hf := (if_neg b17).symm.trans hf
      obtain ⟨c18, hf⟩ := gd_some hf
      obtain ⟨c19, hf⟩ := gd_some hf
      obtain ⟨c20, hf⟩ := gd_some hf
      obtain ⟨c21, hf⟩ := gd_some hf
      obtain ⟨c22, hf⟩ := gd_some hf
      obtain ⟨v23, hv23, hf⟩ := lt_some hf
      refine Ev.blk (pc' := 131) [(.aload_n 0, 0, 0, 0), (.getfield 175, 0, 10, 76), (.iload 4, 0, 0, 0), (.dup2, 0, 0, 0), (.laload, 0, 0, 0), (.aload_n 0, 0, 0, 0), (.iload 4, 0, 0, 0), (.aload_n 0, 0, 0, 0), (.getfield 127, 0, 10, 47), (.iconst 4, 0, 0, 0), (.iaload, 0, 0, 0), (.irem, 0, 0, 0), (.iload 4, 0, 0, 0), (.aload_n 0, 0, 0, 0), (.getfield 127, 0, 10, 47), (.iconst 4, 0, 0, 0), (.iaload, 0, 0, 0), (.idiv, 0, 0, 0), (.iload_n 1, 0, 0, 0), (.iload_n 2, 0, 0, 0)] (by decide +kernel) ⟨kf_10_175, ⟨kf_10_127, ⟨kf_10_127, trivial⟩⟩⟩ rfl (And.intro (kc rfl rfl) (Exists.intro 119 (And.intro rfl (And.intro (And.intro rfl rfl) (And.intro (kc rfl rfl) (And.intro (ib_ok c18) (And.intro (kc rfl rfl) (Exists.intro 103 (And.intro rfl (And.intro (kc rfl rfl) (And.intro (ib_ok c19) (And.intro (nz_ok c20) (And.intro (kc rfl rfl) (Exists.intro 103 (And.intro rfl (And.intro (kc rfl rfl) (And.intro (ib_ok c21) (And.intro (nz_ok c22) (?_)))))))))))))))))))
      show Ev l d mi_X10_laysHarms 131 [some (.ref 65), some (.int x1), some (.int x2), none, some (.int x4)] [.int x2, .int x1, .int (x4 / (q16.2.1 103 (Int32.ofInt 4).toNatClampNeg)), .int (x4 - x4 / (q16.2.1 103 (Int32.ofInt 4).toNatClampNeg) * (q16.2.1 103 (Int32.ofInt 4).toNatClampNeg)), .ref 65, .long (q16.2.2.1 119 x4.toNatClampNeg), .int x4, .ref 119] (hp q16.2) 0 0 _
      rw [← hv23]
      obtain ⟨q24, hq24, hf⟩ := bd_some hf
      refine Ev.callV (o := 65) (M' := mi_X10_harmAt) (d' := d - 1) (As := [.int v23, .int (x4 / (q16.2.1 103 (Int32.ofInt 4).toNatClampNeg)), .int x1, .int x2]) (rest := [.long (q16.2.2.1 119 x4.toNatClampNeg), .int x4, .ref 119]) (r' := (some (.long q24.1), hp q24.2)) (e_X10_harmAt (d := d - 1) (by omega) v23 (x4 / (q16.2.1 103 (Int32.ofInt 4).toNatClampNeg)) x1 x2 q16.2 _ hq24) (by omega) wm_X10_harmAt wi_X10_harmAt wv_X10_harmAt km_10_559 (kc rfl rfl) (Nat.le_of_ble_eq_true rfl) rfl rfl rfl (Nat.le_of_ble_eq_true rfl) ⟨Nat.le_of_ble_eq_true rfl, Nat.le_of_ble_eq_true rfl⟩ (by decide +kernel) ?_
      show Ev l d mi_X10_laysHarms 134 [some (.ref 65), some (.int x1), some (.int x2), none, some (.int x4)] [.long q24.1, .long (q16.2.2.1 119 x4.toNatClampNeg), .int x4, .ref 119] (hp q24.2) 0 0 _
      obtain ⟨c25, hf⟩ := gd_some hf
      obtain ⟨s26, hs26, hf⟩ := lt_some hf
      refine Ev.blk (pc' := 139) [(.ladd, 0, 0, 0), (.lastore, 0, 0, 0), (.iinc 4 1, 0, 0, 0)] (by decide +kernel) trivial rfl (And.intro (kc rfl rfl) (And.intro (ib_ok c25) (And.intro (Nat.le_of_ble_eq_true rfl) (?_))))
      show Ev l d mi_X10_laysHarms 139 [some (.ref 65), some (.int x1), some (.int x2), none, some (.int (x4 + Int32.ofInt 1))] [] (hp (uJ q24.2 119 x4.toNatClampNeg ((q16.2.2.1 119 x4.toNatClampNeg) + q24.1))) 0 0 _
      rw [← hs26]
      refine Ev.goto (off := -46) (tgt := 93) (by decide +kernel) (by decide) ?_
      exact ih x1 x2 (x4 + Int32.ofInt 1) s26 _ hf
def f_X10_laysHarms_j82 (x1 : Int32) (x2 : Int32) (y1 : Int64) (s : ST) : Option (ST) := lt (uJ s 65 72 y1) (fun s14 => (f_X10_undoes (Int32.ofInt 4) s14).bind (fun q15 => (f_X10_laysHarms_L93 fuel) x1 x2 (Int32.ofInt 0) q15))
set_option maxHeartbeats 2000000 in
set_option maxRecDepth 20000 in
theorem e_X10_laysHarms_j82 {l : Launch} {d : Nat} (hd : 6 ≤ d) (x1 : Int32) (x2 : Int32) (y1 : Int64) (s : ST) (r : ST) (hf : f_X10_laysHarms_j82 x1 x2 y1 s = some r) : Ev l d mi_X10_laysHarms 82 [some (.ref 65), some (.int x1), some (.int x2), none, none] [.long y1, .ref 65] (hp s) 0 0 (none, hp r) := by
  unfold f_X10_laysHarms_j82 at hf
  obtain ⟨s14, hs14, hf⟩ := lt_some hf
  refine Ev.blk (pc' := 87) [(.putfield 556, 0, 10, 72), (.aload_n 0, 0, 0, 0), (.iconst 4, 0, 0, 0)] (by decide +kernel) ⟨⟨kf_10_556, Or.inl rfl⟩, trivial⟩ rfl (And.intro (kc rfl rfl) (?_))
  show Ev l d mi_X10_laysHarms 87 [some (.ref 65), some (.int x1), some (.int x2), none, none] [.int (Int32.ofInt 4), .ref 65] (hp (uJ s 65 72 y1)) 0 0 _
  rw [← hs14]
  obtain ⟨q15, hq15, hf⟩ := bd_some hf
  refine Ev.callV (o := 65) (M' := mi_X10_undoes) (d' := d - 1) (As := [.int (Int32.ofInt 4)]) (rest := []) (r' := (none, hp q15)) (e_X10_undoes (d := d - 1) (by omega) (Int32.ofInt 4) s14 _ hq15) (by omega) wm_X10_undoes wi_X10_undoes wv_X10_undoes km_10_503 (kc rfl rfl) (Nat.le_of_ble_eq_true rfl) rfl rfl rfl (Nat.le_of_ble_eq_true rfl) ⟨Nat.le_of_ble_eq_true rfl, Nat.le_of_ble_eq_true rfl⟩ (by decide +kernel) ?_
  show Ev l d mi_X10_laysHarms 90 [some (.ref 65), some (.int x1), some (.int x2), none, none] [] (hp q15) 0 0 _
  refine Ev.blk (pc' := 93) [(.iconst 0, 0, 0, 0), (.istore 4, 0, 0, 0)] (by decide +kernel) trivial rfl (And.intro (Nat.le_of_ble_eq_true rfl) (?_))
  show Ev l d mi_X10_laysHarms 93 [some (.ref 65), some (.int x1), some (.int x2), none, some (.int (Int32.ofInt 0))] [] (hp q15) 0 0 _
  exact (e_X10_laysHarms_L93 hd fuel) x1 x2 (Int32.ofInt 0) q15 _ hf
def f_X10_laysHarms_j47 (x1 : Int32) (x2 : Int32) (y1 : Int64) (s : ST) : Option (ST) := lt (uJ s 65 71 y1) (fun s9 => (f_X10_does (Int32.ofInt 4) (s9.1 65 69) (s9.1 65 70) s9).bind (fun q10 => gd (ib (Int32.ofInt 1) 225) ((f_X10_isCheck (q10.1 112 (Int32.ofInt 1).toNatClampNeg) q10).bind (fun q12 => (if q12.1 = 0 then f_X10_laysHarms_j82 x1 x2 (Int64.ofNat ((0 : Fin 2) : Nat)) q12.2 else f_X10_laysHarms_j82 x1 x2 (Int64.ofNat ((1 : Fin 2) : Nat)) q12.2)))))
set_option maxHeartbeats 2000000 in
set_option maxRecDepth 20000 in
theorem e_X10_laysHarms_j47 {l : Launch} {d : Nat} (hd : 6 ≤ d) (x1 : Int32) (x2 : Int32) (y1 : Int64) (s : ST) (r : ST) (hf : f_X10_laysHarms_j47 x1 x2 y1 s = some r) : Ev l d mi_X10_laysHarms 47 [some (.ref 65), some (.int x1), some (.int x2), none, none] [.long y1, .ref 65] (hp s) 0 0 (none, hp r) := by
  unfold f_X10_laysHarms_j47 at hf
  obtain ⟨s9, hs9, hf⟩ := lt_some hf
  refine Ev.blk (pc' := 60) [(.putfield 527, 0, 10, 71), (.aload_n 0, 0, 0, 0), (.iconst 4, 0, 0, 0), (.aload_n 0, 0, 0, 0), (.getfield 521, 0, 10, 69), (.aload_n 0, 0, 0, 0), (.getfield 524, 0, 10, 70)] (by decide +kernel) ⟨⟨kf_10_527, Or.inl rfl⟩, ⟨kf_10_521, ⟨kf_10_524, trivial⟩⟩⟩ rfl (And.intro (kc rfl rfl) (And.intro (kc rfl rfl) (And.intro (kc rfl rfl) (?_))))
  show Ev l d mi_X10_laysHarms 60 [some (.ref 65), some (.int x1), some (.int x2), none, none] [.int ((uJ s 65 71 y1).1 65 70), .int ((uJ s 65 71 y1).1 65 69), .int (Int32.ofInt 4), .ref 65] (hp (uJ s 65 71 y1)) 0 0 _
  rw [← hs9]
  obtain ⟨q10, hq10, hf⟩ := bd_some hf
  refine Ev.callV (o := 65) (M' := mi_X10_does) (d' := d - 1) (As := [.int (Int32.ofInt 4), .int (s9.1 65 69), .int (s9.1 65 70)]) (rest := []) (r' := (none, hp q10)) (e_X10_does (d := d - 1) (by omega) (Int32.ofInt 4) (s9.1 65 69) (s9.1 65 70) s9 _ hq10) (by omega) wm_X10_does wi_X10_does wv_X10_does km_10_496 (kc rfl rfl) (Nat.le_of_ble_eq_true rfl) rfl rfl rfl (Nat.le_of_ble_eq_true rfl) ⟨Nat.le_of_ble_eq_true rfl, Nat.le_of_ble_eq_true rfl⟩ (by decide +kernel) ?_
  show Ev l d mi_X10_laysHarms 63 [some (.ref 65), some (.int x1), some (.int x2), none, none] [] (hp q10) 0 0 _
  obtain ⟨c11, hf⟩ := gd_some hf
  refine Ev.blk (pc' := 71) [(.aload_n 0, 0, 0, 0), (.aload_n 0, 0, 0, 0), (.aload_n 0, 0, 0, 0), (.getfield 154, 0, 10, 62), (.iconst 1, 0, 0, 0), (.iaload, 0, 0, 0)] (by decide +kernel) ⟨kf_10_154, trivial⟩ rfl (And.intro (kc rfl rfl) (Exists.intro 112 (And.intro rfl (And.intro (kc rfl rfl) (And.intro (ib_ok c11) (?_))))))
  show Ev l d mi_X10_laysHarms 71 [some (.ref 65), some (.int x1), some (.int x2), none, none] [.int (q10.1 112 (Int32.ofInt 1).toNatClampNeg), .ref 65, .ref 65] (hp q10) 0 0 _
  obtain ⟨q12, hq12, hf⟩ := bd_some hf
  refine Ev.callV (o := 65) (M' := mi_X10_isCheck) (d' := d - 1) (As := [.int (q10.1 112 (Int32.ofInt 1).toNatClampNeg)]) (rest := [.ref 65]) (r' := (some (.int q12.1), hp q12.2)) (e_X10_isCheck (d := d - 1) (by omega) (q10.1 112 (Int32.ofInt 1).toNatClampNeg) q10 _ hq12) (by omega) wm_X10_isCheck wi_X10_isCheck wv_X10_isCheck km_10_553 (kc rfl rfl) (Nat.le_of_ble_eq_true rfl) rfl rfl rfl (Nat.le_of_ble_eq_true rfl) ⟨Nat.le_of_ble_eq_true rfl, Nat.le_of_ble_eq_true rfl⟩ (by decide +kernel) ?_
  show Ev l d mi_X10_laysHarms 74 [some (.ref 65), some (.int x1), some (.int x2), none, none] [.int q12.1, .ref 65] (hp q12.2) 0 0 _
  refine Ev.if_eq (off := 7) (tgt := 81) (by decide +kernel) (by decide) (fun b13 => ?_) (fun b13 => ?_)
  · have hf := (if_pos b13).symm.trans hf
    refine Ev.blk (pc' := 82) [(.lconst 0, 0, 0, 0)] (by decide +kernel) trivial rfl (?_)
    show Ev l d mi_X10_laysHarms 82 [some (.ref 65), some (.int x1), some (.int x2), none, none] [.long (Int64.ofNat ((0 : Fin 2) : Nat)), .ref 65] (hp q12.2) 0 0 _
    exact (e_X10_laysHarms_j82 hd) x1 x2 (Int64.ofNat ((0 : Fin 2) : Nat)) q12.2 _ hf
  · have hf := (if_neg b13).symm.trans hf
    refine Ev.blk (pc' := 78) [(.lconst 1, 0, 0, 0)] (by decide +kernel) trivial rfl (?_)
    show Ev l d mi_X10_laysHarms 78 [some (.ref 65), some (.int x1), some (.int x2), none, none] [.long (Int64.ofNat ((1 : Fin 2) : Nat)), .ref 65] (hp q12.2) 0 0 _
    refine Ev.goto (off := 4) (tgt := 82) (by decide +kernel) (by decide) ?_
    exact (e_X10_laysHarms_j82 hd) x1 x2 (Int64.ofNat ((1 : Fin 2) : Nat)) q12.2 _ hf
def f_X10_laysHarms (s : ST) : Option (ST) := gd (ib (Int32.ofInt 4) 8) (gd (nz (s.1 103 (Int32.ofInt 4).toNatClampNeg)) (gd (ib (Int32.ofInt 4) 8) (gd (nz (s.1 103 (Int32.ofInt 4).toNatClampNeg)) (lt ((s.1 65 70) - (s.1 65 70) / (s.1 103 (Int32.ofInt 4).toNatClampNeg) * (s.1 103 (Int32.ofInt 4).toNatClampNeg)) (fun v5 => (f_X10_manAt v5 ((s.1 65 70) / (s.1 103 (Int32.ofInt 4).toNatClampNeg)) s).bind (fun q6 => (if q6.1 = (Int32.ofInt (-1)) then f_X10_laysHarms_j47 v5 ((s.1 65 70) / (s.1 103 (Int32.ofInt 4).toNatClampNeg)) (Int64.ofNat ((0 : Fin 2) : Nat)) q6.2 else (f_X10_worthOf q6.1 q6.2).bind (fun q8 => f_X10_laysHarms_j47 v5 ((s.1 65 70) / (s.1 103 (Int32.ofInt 4).toNatClampNeg)) ((q8.1).toInt64) q8.2))))))))
set_option maxHeartbeats 2000000 in
set_option maxRecDepth 20000 in
theorem e_X10_laysHarms {l : Launch} {d : Nat} (hd : 6 ≤ d) (s : ST) (r : ST) (hf : f_X10_laysHarms s = some r) : Cl l d mi_X10_laysHarms [.ref 65] (hp s) (none, hp r) := by
  refine Ev.entry (by decide +kernel) rfl rfl ?_
  show Ev l d mi_X10_laysHarms 0 [some (.ref 65), none, none, none, none] [] (hp s) 0 0 _
  unfold f_X10_laysHarms at hf
  obtain ⟨c1, hf⟩ := gd_some hf
  obtain ⟨c2, hf⟩ := gd_some hf
  obtain ⟨c3, hf⟩ := gd_some hf
  obtain ⟨c4, hf⟩ := gd_some hf
  obtain ⟨v5, hv5, hf⟩ := lt_some hf
  refine Ev.blk (pc' := 27) [(.aload_n 0, 0, 0, 0), (.getfield 524, 0, 10, 70), (.aload_n 0, 0, 0, 0), (.getfield 127, 0, 10, 47), (.iconst 4, 0, 0, 0), (.iaload, 0, 0, 0), (.irem, 0, 0, 0), (.istore_n 1, 0, 0, 0), (.aload_n 0, 0, 0, 0), (.getfield 524, 0, 10, 70), (.aload_n 0, 0, 0, 0), (.getfield 127, 0, 10, 47), (.iconst 4, 0, 0, 0), (.iaload, 0, 0, 0), (.idiv, 0, 0, 0), (.istore_n 2, 0, 0, 0), (.aload_n 0, 0, 0, 0), (.iload_n 1, 0, 0, 0), (.iload_n 2, 0, 0, 0)] (by decide +kernel) ⟨kf_10_524, ⟨kf_10_127, ⟨kf_10_524, ⟨kf_10_127, trivial⟩⟩⟩⟩ rfl (And.intro (kc rfl rfl) (And.intro (kc rfl rfl) (Exists.intro 103 (And.intro rfl (And.intro (kc rfl rfl) (And.intro (ib_ok c1) (And.intro (nz_ok c2) (And.intro (Nat.le_of_ble_eq_true rfl) (And.intro (kc rfl rfl) (And.intro (kc rfl rfl) (Exists.intro 103 (And.intro rfl (And.intro (kc rfl rfl) (And.intro (ib_ok c3) (And.intro (nz_ok c4) (And.intro (Nat.le_of_ble_eq_true rfl) (?_)))))))))))))))))
  show Ev l d mi_X10_laysHarms 27 [some (.ref 65), some (.int ((s.1 65 70) - (s.1 65 70) / (s.1 103 (Int32.ofInt 4).toNatClampNeg) * (s.1 103 (Int32.ofInt 4).toNatClampNeg))), some (.int ((s.1 65 70) / (s.1 103 (Int32.ofInt 4).toNatClampNeg))), none, none] [.int ((s.1 65 70) / (s.1 103 (Int32.ofInt 4).toNatClampNeg)), .int ((s.1 65 70) - (s.1 65 70) / (s.1 103 (Int32.ofInt 4).toNatClampNeg) * (s.1 103 (Int32.ofInt 4).toNatClampNeg)), .ref 65] (hp s) 0 0 _
  rw [← hv5]
  obtain ⟨q6, hq6, hf⟩ := bd_some hf
  refine Ev.callV (o := 65) (M' := mi_X10_manAt) (d' := d - 1) (As := [.int v5, .int ((s.1 65 70) / (s.1 103 (Int32.ofInt 4).toNatClampNeg))]) (rest := []) (r' := (some (.int q6.1), hp q6.2)) (e_X10_manAt (d := d - 1) (by omega) v5 ((s.1 65 70) / (s.1 103 (Int32.ofInt 4).toNatClampNeg)) s _ hq6) (by omega) wm_X10_manAt wi_X10_manAt wv_X10_manAt km_10_455 (kc rfl rfl) (Nat.le_of_ble_eq_true rfl) rfl rfl rfl (Nat.le_of_ble_eq_true rfl) ⟨Nat.le_of_ble_eq_true rfl, Nat.le_of_ble_eq_true rfl⟩ (by decide +kernel) ?_
  show Ev l d mi_X10_laysHarms 30 [some (.ref 65), some (.int v5), some (.int ((s.1 65 70) / (s.1 103 (Int32.ofInt 4).toNatClampNeg))), none, none] [.int q6.1] (hp q6.2) 0 0 _
  refine Ev.blk (pc' := 34) [(.istore_n 3, 0, 0, 0), (.aload_n 0, 0, 0, 0), (.iload_n 3, 0, 0, 0), (.iconst (-1), 0, 0, 0)] (by decide +kernel) trivial rfl (And.intro (Nat.le_of_ble_eq_true rfl) (?_))
  show Ev l d mi_X10_laysHarms 34 [some (.ref 65), some (.int v5), some (.int ((s.1 65 70) / (s.1 103 (Int32.ofInt 4).toNatClampNeg))), some (.int q6.1), none] [.int (Int32.ofInt (-1)), .int q6.1, .ref 65] (hp q6.2) 0 0 _
  refine Ev.icmp_ne (off := 7) (tgt := 41) (by decide +kernel) (by decide) (fun b7 => ?_) (fun b7 => ?_)
  · have hf := (if_neg b7).symm.trans hf
    refine Ev.blk (pc' := 43) [(.aload_n 0, 0, 0, 0), (.iload_n 3, 0, 0, 0)] (by decide +kernel) trivial rfl (?_)
    show Ev l d mi_X10_laysHarms 43 [some (.ref 65), some (.int v5), some (.int ((s.1 65 70) / (s.1 103 (Int32.ofInt 4).toNatClampNeg))), some (.int q6.1), none] [.int q6.1, .ref 65, .ref 65] (hp q6.2) 0 0 _
    obtain ⟨q8, hq8, hf⟩ := bd_some hf
    refine Ev.callV (o := 65) (M' := mi_X10_worthOf) (d' := d - 1) (As := [.int q6.1]) (rest := [.ref 65]) (r' := (some (.int q8.1), hp q8.2)) (e_X10_worthOf (d := d - 1) (by omega) q6.1 q6.2 _ hq8) (by omega) wm_X10_worthOf wi_X10_worthOf wv_X10_worthOf km_10_490 (kc rfl rfl) (Nat.le_of_ble_eq_true rfl) rfl rfl rfl (Nat.le_of_ble_eq_true rfl) ⟨Nat.le_of_ble_eq_true rfl, Nat.le_of_ble_eq_true rfl⟩ (by decide +kernel) ?_
    show Ev l d mi_X10_laysHarms 46 [some (.ref 65), some (.int v5), some (.int ((s.1 65 70) / (s.1 103 (Int32.ofInt 4).toNatClampNeg))), some (.int q6.1), none] [.int q8.1, .ref 65] (hp q8.2) 0 0 _
    refine Ev.blk (pc' := 47) [(.i2l, 0, 0, 0)] (by decide +kernel) trivial rfl (?_)
    show Ev l d mi_X10_laysHarms 47 [some (.ref 65), some (.int v5), some (.int ((s.1 65 70) / (s.1 103 (Int32.ofInt 4).toNatClampNeg))), some (.int q6.1), none] [.long (q8.1).toInt64, .ref 65] (hp q8.2) 0 0 _
    exact Ev.wk ((e_X10_laysHarms_j47 hd) v5 ((s.1 65 70) / (s.1 103 (Int32.ofInt 4).toNatClampNeg)) ((q8.1).toInt64) q8.2 _ hf) (And.intro (Or.inr rfl) (And.intro (Or.inr rfl) (And.intro (Or.inr rfl) (And.intro (Or.inl rfl) (And.intro (Or.inr rfl) (trivial))))))
  · have hf := (if_pos b7).symm.trans hf
    refine Ev.blk (pc' := 38) [(.lconst 0, 0, 0, 0)] (by decide +kernel) trivial rfl (?_)
    show Ev l d mi_X10_laysHarms 38 [some (.ref 65), some (.int v5), some (.int ((s.1 65 70) / (s.1 103 (Int32.ofInt 4).toNatClampNeg))), some (.int q6.1), none] [.long (Int64.ofNat ((0 : Fin 2) : Nat)), .ref 65] (hp q6.2) 0 0 _
    refine Ev.goto (off := 9) (tgt := 47) (by decide +kernel) (by decide) ?_
    exact Ev.wk ((e_X10_laysHarms_j47 hd) v5 ((s.1 65 70) / (s.1 103 (Int32.ofInt 4).toNatClampNeg)) (Int64.ofNat ((0 : Fin 2) : Nat)) q6.2 _ hf) (And.intro (Or.inr rfl) (And.intro (Or.inr rfl) (And.intro (Or.inr rfl) (And.intro (Or.inl rfl) (And.intro (Or.inr rfl) (trivial))))))
def f_X10_dayGoes_j91 (k31 : Int32 → ST → Option (ST)) (x1 : Int32) (y1 : Int32) (y2 : Int32) (s : ST) : Option (ST) := gd (ib y1 225) (lt (uI s 112 y1.toNatClampNeg y2) (fun s16 => k31 (x1 + Int32.ofInt 1) s16))
set_option maxHeartbeats 2000000 in
set_option maxRecDepth 20000 in
theorem e_X10_dayGoes_j91 {l : Launch} {d : Nat} (hd : 7 ≤ d) (k31 : Int32 → ST → Option (ST)) (hk31 : ∀ (x1 : Int32) (s : ST) (r : ST), k31 x1 s = some r → Ev l d mi_X10_dayGoes 31 [some (.ref 65), some (.int x1)] [] (hp s) 0 0 (none, hp r)) (x1 : Int32) (y1 : Int32) (y2 : Int32) (s : ST) (r : ST) (hf : f_X10_dayGoes_j91 k31 x1 y1 y2 s = some r) : Ev l d mi_X10_dayGoes 91 [some (.ref 65), some (.int x1)] [.int y2, .int y1, .ref 112] (hp s) 0 0 (none, hp r) := by
  unfold f_X10_dayGoes_j91 at hf
  obtain ⟨c15, hf⟩ := gd_some hf
  obtain ⟨s16, hs16, hf⟩ := lt_some hf
  refine Ev.blk (pc' := 95) [(.iastore, 0, 0, 0), (.iinc 1 1, 0, 0, 0)] (by decide +kernel) trivial rfl (And.intro (kc rfl rfl) (And.intro (ib_ok c15) (And.intro (Nat.le_of_ble_eq_true rfl) (?_))))
  show Ev l d mi_X10_dayGoes 95 [some (.ref 65), some (.int (x1 + Int32.ofInt 1))] [] (hp (uI s 112 y1.toNatClampNeg y2)) 0 0 _
  rw [← hs16]
  refine Ev.goto (off := -64) (tgt := 31) (by decide +kernel) (by decide) ?_
  exact hk31 (x1 + Int32.ofInt 1) s16 _ hf
def f_X10_dayGoes_L31 (k98 : ST → Option (ST)) : Nat → Int32 → ST → Option (ST)
  | 0, _, _ => none
  | n + 1, x1, s => (f_X10_fieldMany s).bind (fun q6 => (if q6.1 ≤ x1 then k98 q6.2 else gd (ib (((Int8.ofInt 18).toInt32) + x1) 225) (gd (ib (Int32.ofInt 2) 4) (lt ((q6.2.1 112 (((Int8.ofInt 18).toInt32) + x1).toNatClampNeg) + (q6.2.1 108 (Int32.ofInt 2).toNatClampNeg)) (fun v10 => (if v10 ≤ ((Int16.ofInt 999).toInt32) then gd (ib (((Int8.ofInt 18).toInt32) + x1) 225) (gd (ib (Int32.ofInt 2) 4) (lt ((q6.2.1 112 (((Int8.ofInt 18).toInt32) + x1).toNatClampNeg) + (q6.2.1 108 (Int32.ofInt 2).toNatClampNeg)) (fun v14 => (f_X10_dayGoes_j91 (f_X10_dayGoes_L31 k98 n)) x1 (((Int8.ofInt 18).toInt32) + x1) v14 q6.2))) else (f_X10_dayGoes_j91 (f_X10_dayGoes_L31 k98 n)) x1 (((Int8.ofInt 18).toInt32) + x1) ((Int16.ofInt 999).toInt32) q6.2))))))
set_option maxHeartbeats 2000000 in
set_option maxRecDepth 20000 in
theorem e_X10_dayGoes_L31 {l : Launch} {d : Nat} (hd : 7 ≤ d) (k98 : ST → Option (ST)) (hk98 : ∀ (s : ST) (r : ST), k98 s = some r → Ev l d mi_X10_dayGoes 98 [some (.ref 65), none] [] (hp s) 0 0 (none, hp r)) : ∀ (n : Nat) (x1 : Int32) (s : ST) (r : ST), f_X10_dayGoes_L31 k98 n x1 s = some r → Ev l d mi_X10_dayGoes 31 [some (.ref 65), some (.int x1)] [] (hp s) 0 0 (none, hp r) := by
  intro n
  induction n with
  | zero =>
    intro x1 s r hf
    cases hf
  | succ n ih =>
    intro x1 s r hf
    unfold f_X10_dayGoes_L31 at hf
    refine Ev.blk (pc' := 33) [(.iload_n 1, 0, 0, 0), (.aload_n 0, 0, 0, 0)] (by decide +kernel) trivial rfl (?_)
    show Ev l d mi_X10_dayGoes 33 [some (.ref 65), some (.int x1)] [.ref 65, .int x1] (hp s) 0 0 _
    obtain ⟨q6, hq6, hf⟩ := bd_some hf
    refine Ev.callV (o := 65) (M' := mi_X10_fieldMany) (d' := d - 1) (As := []) (rest := [.int x1]) (r' := (some (.int q6.1), hp q6.2)) (e_X10_fieldMany (d := d - 1) (by omega) s _ hq6) (by omega) wm_X10_fieldMany wi_X10_fieldMany wv_X10_fieldMany km_10_436 (kc rfl rfl) (Nat.le_of_ble_eq_true rfl) rfl rfl rfl (Nat.le_of_ble_eq_true rfl) ⟨Nat.le_of_ble_eq_true rfl, Nat.le_of_ble_eq_true rfl⟩ (by decide +kernel) ?_
    show Ev l d mi_X10_dayGoes 36 [some (.ref 65), some (.int x1)] [.int q6.1, .int x1] (hp q6.2) 0 0 _
    refine Ev.icmp_ge (off := 62) (tgt := 98) (by decide +kernel) (by decide) (fun b7 => ?_) (fun b7 => ?_)
    · have hf := (if_pos b7).symm.trans hf
      exact Ev.wk (hk98 q6.2 _ hf) (And.intro (Or.inr rfl) (And.intro (Or.inl rfl) (trivial)))
    · have hf := (if_neg b7).symm.trans hf
      obtain ⟨c8, hf⟩ := gd_some hf
      obtain ⟨c9, hf⟩ := gd_some hf
      obtain ⟨v10, hv10, hf⟩ := lt_some hf
      refine Ev.blk (pc' := 66) [(.aload_n 0, 0, 0, 0), (.getfield 154, 0, 10, 62), (.bipush 18, 0, 0, 0), (.iload_n 1, 0, 0, 0), (.iadd, 0, 0, 0), (.aload_n 0, 0, 0, 0), (.getfield 154, 0, 10, 62), (.bipush 18, 0, 0, 0), (.iload_n 1, 0, 0, 0), (.iadd, 0, 0, 0), (.iaload, 0, 0, 0), (.aload_n 0, 0, 0, 0), (.getfield 142, 0, 10, 52), (.iconst 2, 0, 0, 0), (.iaload, 0, 0, 0), (.iadd, 0, 0, 0), (.sipush 999, 0, 0, 0)] (by decide +kernel) ⟨kf_10_154, ⟨kf_10_154, ⟨kf_10_142, trivial⟩⟩⟩ rfl (And.intro (kc rfl rfl) (Exists.intro 112 (And.intro rfl (And.intro (kc rfl rfl) (Exists.intro 112 (And.intro rfl (And.intro (kc rfl rfl) (And.intro (ib_ok c8) (And.intro (kc rfl rfl) (Exists.intro 108 (And.intro rfl (And.intro (kc rfl rfl) (And.intro (ib_ok c9) (?_))))))))))))))
      show Ev l d mi_X10_dayGoes 66 [some (.ref 65), some (.int x1)] [.int ((Int16.ofInt 999).toInt32), .int ((q6.2.1 112 (((Int8.ofInt 18).toInt32) + x1).toNatClampNeg) + (q6.2.1 108 (Int32.ofInt 2).toNatClampNeg)), .int (((Int8.ofInt 18).toInt32) + x1), .ref 112] (hp q6.2) 0 0 _
      rw [← hv10]
      refine Ev.icmp_le (off := 9) (tgt := 75) (by decide +kernel) (by decide) (fun b11 => ?_) (fun b11 => ?_)
      · have hf := (if_pos b11).symm.trans hf
        obtain ⟨c12, hf⟩ := gd_some hf
        obtain ⟨c13, hf⟩ := gd_some hf
        obtain ⟨v14, hv14, hf⟩ := lt_some hf
        refine Ev.blk (pc' := 91) [(.aload_n 0, 0, 0, 0), (.getfield 154, 0, 10, 62), (.bipush 18, 0, 0, 0), (.iload_n 1, 0, 0, 0), (.iadd, 0, 0, 0), (.iaload, 0, 0, 0), (.aload_n 0, 0, 0, 0), (.getfield 142, 0, 10, 52), (.iconst 2, 0, 0, 0), (.iaload, 0, 0, 0), (.iadd, 0, 0, 0)] (by decide +kernel) ⟨kf_10_154, ⟨kf_10_142, trivial⟩⟩ rfl (And.intro (kc rfl rfl) (Exists.intro 112 (And.intro rfl (And.intro (kc rfl rfl) (And.intro (ib_ok c12) (And.intro (kc rfl rfl) (Exists.intro 108 (And.intro rfl (And.intro (kc rfl rfl) (And.intro (ib_ok c13) (?_)))))))))))
        show Ev l d mi_X10_dayGoes 91 [some (.ref 65), some (.int x1)] [.int ((q6.2.1 112 (((Int8.ofInt 18).toInt32) + x1).toNatClampNeg) + (q6.2.1 108 (Int32.ofInt 2).toNatClampNeg)), .int (((Int8.ofInt 18).toInt32) + x1), .ref 112] (hp q6.2) 0 0 _
        rw [← hv14]
        exact (e_X10_dayGoes_j91 hd (f_X10_dayGoes_L31 k98 n) ih) x1 (((Int8.ofInt 18).toInt32) + x1) v14 q6.2 _ hf
      · have hf := (if_neg b11).symm.trans hf
        refine Ev.blk (pc' := 72) [(.sipush 999, 0, 0, 0)] (by decide +kernel) trivial rfl (?_)
        show Ev l d mi_X10_dayGoes 72 [some (.ref 65), some (.int x1)] [.int ((Int16.ofInt 999).toInt32), .int (((Int8.ofInt 18).toInt32) + x1), .ref 112] (hp q6.2) 0 0 _
        refine Ev.goto (off := 19) (tgt := 91) (by decide +kernel) (by decide) ?_
        exact (e_X10_dayGoes_j91 hd (f_X10_dayGoes_L31 k98 n) ih) x1 (((Int8.ofInt 18).toInt32) + x1) ((Int16.ofInt 999).toInt32) q6.2 _ hf
def f_X10_dayGoes_j98 (s : ST) : Option (ST) := gd (ib (Int32.ofInt 0) 225) (gd (ib (Int32.ofInt 0) 225) (lt (uI s 112 (Int32.ofInt 0).toNatClampNeg ((s.1 112 (Int32.ofInt 0).toNatClampNeg) + (Int32.ofInt 1))) (fun s19 => some s19)))
set_option maxHeartbeats 2000000 in
set_option maxRecDepth 20000 in
theorem e_X10_dayGoes_j98 {l : Launch} {d : Nat} (hd : 7 ≤ d) (s : ST) (r : ST) (hf : f_X10_dayGoes_j98 s = some r) : Ev l d mi_X10_dayGoes 98 [some (.ref 65), none] [] (hp s) 0 0 (none, hp r) := by
  unfold f_X10_dayGoes_j98 at hf
  obtain ⟨c17, hf⟩ := gd_some hf
  obtain ⟨c18, hf⟩ := gd_some hf
  obtain ⟨s19, hs19, hf⟩ := lt_some hf
  refine Ev.blk (pc' := 108) [(.aload_n 0, 0, 0, 0), (.getfield 154, 0, 10, 62), (.iconst 0, 0, 0, 0), (.dup2, 0, 0, 0), (.iaload, 0, 0, 0), (.iconst 1, 0, 0, 0), (.iadd, 0, 0, 0), (.iastore, 0, 0, 0)] (by decide +kernel) ⟨kf_10_154, trivial⟩ rfl (And.intro (kc rfl rfl) (Exists.intro 112 (And.intro rfl (And.intro (And.intro rfl rfl) (And.intro (kc rfl rfl) (And.intro (ib_ok c17) (And.intro (kc rfl rfl) (And.intro (ib_ok c18) (?_)))))))))
  show Ev l d mi_X10_dayGoes 108 [some (.ref 65), none] [] (hp (uI s 112 (Int32.ofInt 0).toNatClampNeg ((s.1 112 (Int32.ofInt 0).toNatClampNeg) + (Int32.ofInt 1)))) 0 0 _
  rw [← hs19]
  cases hf
  exact Ev.vret rfl (by decide +kernel) (Nat.le_refl _) (Nat.le_refl _)
def f_X10_dayGoes_j29 (s : ST) : Option (ST) := (f_X10_dayGoes_L31 f_X10_dayGoes_j98 fuel) (Int32.ofInt 0) s
set_option maxHeartbeats 2000000 in
set_option maxRecDepth 20000 in
theorem e_X10_dayGoes_j29 {l : Launch} {d : Nat} (hd : 7 ≤ d) (s : ST) (r : ST) (hf : f_X10_dayGoes_j29 s = some r) : Ev l d mi_X10_dayGoes 29 [some (.ref 65), none] [] (hp s) 0 0 (none, hp r) := by
  unfold f_X10_dayGoes_j29 at hf
  refine Ev.blk (pc' := 31) [(.iconst 0, 0, 0, 0), (.istore_n 1, 0, 0, 0)] (by decide +kernel) trivial rfl (And.intro (Nat.le_of_ble_eq_true rfl) (?_))
  show Ev l d mi_X10_dayGoes 31 [some (.ref 65), some (.int (Int32.ofInt 0))] [] (hp s) 0 0 _
  exact (e_X10_dayGoes_L31 hd f_X10_dayGoes_j98 (e_X10_dayGoes_j98 hd) fuel) (Int32.ofInt 0) s _ hf
def f_X10_dayGoes (s : ST) : Option (ST) := (if (s.1 65 68) = (Int32.ofInt (-1)) then gd (ib (Int32.ofInt 1) 225) (gd (ib (Int32.ofInt 1) 225) (lt (uI s 112 (Int32.ofInt 1).toNatClampNeg ((Int32.ofInt 1) - (s.1 112 (Int32.ofInt 1).toNatClampNeg))) (fun s5 => f_X10_dayGoes_j29 s5))) else (f_X10_playsChosen s).bind (fun q2 => f_X10_dayGoes_j29 q2))
set_option maxHeartbeats 2000000 in
set_option maxRecDepth 20000 in
theorem e_X10_dayGoes {l : Launch} {d : Nat} (hd : 7 ≤ d) (s : ST) (r : ST) (hf : f_X10_dayGoes s = some r) : Cl l d mi_X10_dayGoes [.ref 65] (hp s) (none, hp r) := by
  refine Ev.entry (by decide +kernel) rfl rfl ?_
  show Ev l d mi_X10_dayGoes 0 [some (.ref 65), none] [] (hp s) 0 0 _
  unfold f_X10_dayGoes at hf
  refine Ev.blk (pc' := 5) [(.aload_n 0, 0, 0, 0), (.getfield 515, 0, 10, 68), (.iconst (-1), 0, 0, 0)] (by decide +kernel) ⟨kf_10_515, trivial⟩ rfl (And.intro (kc rfl rfl) (?_))
  show Ev l d mi_X10_dayGoes 5 [some (.ref 65), none] [.int (Int32.ofInt (-1)), .int (s.1 65 68)] (hp s) 0 0 _
  refine Ev.icmp_ne (off := 20) (tgt := 25) (by decide +kernel) (by decide) (fun b1 => ?_) (fun b1 => ?_)
  · have hf := (if_neg b1).symm.trans hf
    refine Ev.blk (pc' := 26) [(.aload_n 0, 0, 0, 0)] (by decide +kernel) trivial rfl (?_)
    show Ev l d mi_X10_dayGoes 26 [some (.ref 65), none] [.ref 65] (hp s) 0 0 _
    obtain ⟨q2, hq2, hf⟩ := bd_some hf
    refine Ev.callV (o := 65) (M' := mi_X10_playsChosen) (d' := d - 1) (As := []) (rest := []) (r' := (none, hp q2)) (e_X10_playsChosen (d := d - 1) (by omega) s _ hq2) (by omega) wm_X10_playsChosen wi_X10_playsChosen wv_X10_playsChosen km_10_566 (kc rfl rfl) (Nat.le_of_ble_eq_true rfl) rfl rfl rfl (Nat.le_of_ble_eq_true rfl) ⟨Nat.le_of_ble_eq_true rfl, Nat.le_of_ble_eq_true rfl⟩ (by decide +kernel) ?_
    show Ev l d mi_X10_dayGoes 29 [some (.ref 65), none] [] (hp q2) 0 0 _
    exact (e_X10_dayGoes_j29 hd) q2 _ hf
  · have hf := (if_pos b1).symm.trans hf
    obtain ⟨c3, hf⟩ := gd_some hf
    obtain ⟨c4, hf⟩ := gd_some hf
    obtain ⟨s5, hs5, hf⟩ := lt_some hf
    refine Ev.blk (pc' := 22) [(.aload_n 0, 0, 0, 0), (.getfield 154, 0, 10, 62), (.iconst 1, 0, 0, 0), (.iconst 1, 0, 0, 0), (.aload_n 0, 0, 0, 0), (.getfield 154, 0, 10, 62), (.iconst 1, 0, 0, 0), (.iaload, 0, 0, 0), (.isub, 0, 0, 0), (.iastore, 0, 0, 0)] (by decide +kernel) ⟨kf_10_154, ⟨kf_10_154, trivial⟩⟩ rfl (And.intro (kc rfl rfl) (Exists.intro 112 (And.intro rfl (And.intro (kc rfl rfl) (Exists.intro 112 (And.intro rfl (And.intro (kc rfl rfl) (And.intro (ib_ok c3) (And.intro (kc rfl rfl) (And.intro (ib_ok c4) (?_)))))))))))
    show Ev l d mi_X10_dayGoes 22 [some (.ref 65), none] [] (hp (uI s 112 (Int32.ofInt 1).toNatClampNeg ((Int32.ofInt 1) - (s.1 112 (Int32.ofInt 1).toNatClampNeg)))) 0 0 _
    rw [← hs5]
    refine Ev.goto (off := 7) (tgt := 29) (by decide +kernel) (by decide) ?_
    exact (e_X10_dayGoes_j29 hd) s5 _ hf
def f_X10_choosesToday_j35 (y1 : Int32) (s : ST) : Option (ST) := (f_X10_choosesBest y1 s).bind (fun q6 => some q6)
set_option maxHeartbeats 2000000 in
set_option maxRecDepth 20000 in
theorem e_X10_choosesToday_j35 {l : Launch} {d : Nat} (hd : 10 ≤ d) (y1 : Int32) (s : ST) (r : ST) (hf : f_X10_choosesToday_j35 y1 s = some r) : Ev l d mi_X10_choosesToday 35 [none] [.int y1, .ref 65] (hp s) 0 0 (none, hp r) := by
  unfold f_X10_choosesToday_j35 at hf
  obtain ⟨q6, hq6, hf⟩ := bd_some hf
  refine Ev.callV (o := 65) (M' := mi_X10_choosesBest) (d' := d - 1) (As := [.int y1]) (rest := []) (r' := (none, hp q6)) (e_X10_choosesBest (d := d - 1) (by omega) y1 s _ hq6) (by omega) wm_X10_choosesBest wi_X10_choosesBest wv_X10_choosesBest km_10_572 (kc rfl rfl) (Nat.le_of_ble_eq_true rfl) rfl rfl rfl (Nat.le_of_ble_eq_true rfl) ⟨Nat.le_of_ble_eq_true rfl, Nat.le_of_ble_eq_true rfl⟩ (by decide +kernel) ?_
  show Ev l d mi_X10_choosesToday 38 [none] [] (hp q6) 0 0 _
  cases hf
  exact Ev.vret rfl (by decide +kernel) (Nat.le_refl _) (Nat.le_refl _)
def f_X10_choosesToday (s : ST) : Option (ST) := gd (ib (Int32.ofInt 1) 225) ((if (s.1 112 (Int32.ofInt 1).toNatClampNeg) = (s.1 65 78) then f_X10_choosesToday_j35 (s.1 65 79) s else gd (ib (Int32.ofInt 1) 225) (gd (ib (((Int8.ofInt 6).toInt32) + (s.1 112 (Int32.ofInt 1).toNatClampNeg)) 8) (lt (s.1 103 (((Int8.ofInt 6).toInt32) + (s.1 112 (Int32.ofInt 1).toNatClampNeg)).toNatClampNeg) (fun v5 => f_X10_choosesToday_j35 v5 s)))))
set_option maxHeartbeats 2000000 in
set_option maxRecDepth 20000 in
theorem e_X10_choosesToday {l : Launch} {d : Nat} (hd : 10 ≤ d) (s : ST) (r : ST) (hf : f_X10_choosesToday s = some r) : Cl l d mi_X10_choosesToday [.ref 65] (hp s) (none, hp r) := by
  refine Ev.entry (by decide +kernel) rfl rfl ?_
  show Ev l d mi_X10_choosesToday 0 [some (.ref 65)] [] (hp s) 0 0 _
  unfold f_X10_choosesToday at hf
  obtain ⟨c1, hf⟩ := gd_some hf
  refine Ev.blk (pc' := 11) [(.aload_n 0, 0, 0, 0), (.aload_n 0, 0, 0, 0), (.getfield 154, 0, 10, 62), (.iconst 1, 0, 0, 0), (.iaload, 0, 0, 0), (.aload_n 0, 0, 0, 0), (.getfield 178, 0, 10, 78)] (by decide +kernel) ⟨kf_10_154, ⟨kf_10_178, trivial⟩⟩ rfl (And.intro (kc rfl rfl) (Exists.intro 112 (And.intro rfl (And.intro (kc rfl rfl) (And.intro (ib_ok c1) (And.intro (kc rfl rfl) (?_)))))))
  show Ev l d mi_X10_choosesToday 11 [some (.ref 65)] [.int (s.1 65 78), .int (s.1 112 (Int32.ofInt 1).toNatClampNeg), .ref 65] (hp s) 0 0 _
  refine Ev.icmp_ne (off := 10) (tgt := 21) (by decide +kernel) (by decide) (fun b2 => ?_) (fun b2 => ?_)
  · have hf := (if_neg b2).symm.trans hf
    obtain ⟨c3, hf⟩ := gd_some hf
    obtain ⟨c4, hf⟩ := gd_some hf
    obtain ⟨v5, hv5, hf⟩ := lt_some hf
    refine Ev.blk (pc' := 35) [(.aload_n 0, 0, 0, 0), (.getfield 127, 0, 10, 47), (.bipush 6, 0, 0, 0), (.aload_n 0, 0, 0, 0), (.getfield 154, 0, 10, 62), (.iconst 1, 0, 0, 0), (.iaload, 0, 0, 0), (.iadd, 0, 0, 0), (.iaload, 0, 0, 0)] (by decide +kernel) ⟨kf_10_127, ⟨kf_10_154, trivial⟩⟩ rfl (And.intro (kc rfl rfl) (Exists.intro 103 (And.intro rfl (And.intro (kc rfl rfl) (Exists.intro 112 (And.intro rfl (And.intro (kc rfl rfl) (And.intro (ib_ok c3) (And.intro (kc rfl rfl) (And.intro (ib_ok c4) (?_)))))))))))
    show Ev l d mi_X10_choosesToday 35 [some (.ref 65)] [.int (s.1 103 (((Int8.ofInt 6).toInt32) + (s.1 112 (Int32.ofInt 1).toNatClampNeg)).toNatClampNeg), .ref 65] (hp s) 0 0 _
    rw [← hv5]
    exact Ev.wk ((e_X10_choosesToday_j35 hd) v5 s _ hf) (And.intro (Or.inl rfl) (trivial))
  · have hf := (if_pos b2).symm.trans hf
    refine Ev.blk (pc' := 18) [(.aload_n 0, 0, 0, 0), (.getfield 569, 0, 10, 79)] (by decide +kernel) ⟨kf_10_569, trivial⟩ rfl (And.intro (kc rfl rfl) (?_))
    show Ev l d mi_X10_choosesToday 18 [some (.ref 65)] [.int (s.1 65 79), .ref 65] (hp s) 0 0 _
    refine Ev.goto (off := 17) (tgt := 35) (by decide +kernel) (by decide) ?_
    exact Ev.wk ((e_X10_choosesToday_j35 hd) (s.1 65 79) s _ hf) (And.intro (Or.inl rfl) (trivial))
def f_X10_daysGo_L2 : Nat → Int32 → Int32 → ST → Option (ST)
  | 0, _, _, _ => none
  | n + 1, x1, x2, s => (if x1 ≤ x2 then some s else (f_X10_choosesToday s).bind (fun q2 => (f_X10_dayGoes q2).bind (fun q3 => (f_X10_daysGo_L2 n) x1 (x2 + Int32.ofInt 1) q3)))
set_option maxHeartbeats 2000000 in
set_option maxRecDepth 20000 in
theorem e_X10_daysGo_L2 {l : Launch} {d : Nat} (hd : 11 ≤ d) : ∀ (n : Nat) (x1 : Int32) (x2 : Int32) (s : ST) (r : ST), f_X10_daysGo_L2 n x1 x2 s = some r → Ev l d mi_X10_daysGo 2 [some (.ref 65), some (.int x1), some (.int x2)] [] (hp s) 0 0 (none, hp r) := by
  intro n
  induction n with
  | zero =>
    intro x1 x2 s r hf
    cases hf
  | succ n ih =>
    intro x1 x2 s r hf
    unfold f_X10_daysGo_L2 at hf
    refine Ev.blk (pc' := 4) [(.iload_n 2, 0, 0, 0), (.iload_n 1, 0, 0, 0)] (by decide +kernel) trivial rfl (?_)
    show Ev l d mi_X10_daysGo 4 [some (.ref 65), some (.int x1), some (.int x2)] [.int x1, .int x2] (hp s) 0 0 _
    refine Ev.icmp_ge (off := 17) (tgt := 21) (by decide +kernel) (by decide) (fun b1 => ?_) (fun b1 => ?_)
    · have hf := (if_pos b1).symm.trans hf
      cases hf
      exact Ev.vret rfl (by decide +kernel) (Nat.le_refl _) (Nat.le_refl _)
    · have hf := (if_neg b1).symm.trans hf
      refine Ev.blk (pc' := 8) [(.aload_n 0, 0, 0, 0)] (by decide +kernel) trivial rfl (?_)
      show Ev l d mi_X10_daysGo 8 [some (.ref 65), some (.int x1), some (.int x2)] [.ref 65] (hp s) 0 0 _
      obtain ⟨q2, hq2, hf⟩ := bd_some hf
      refine Ev.callV (o := 65) (M' := mi_X10_choosesToday) (d' := d - 1) (As := []) (rest := []) (r' := (none, hp q2)) (e_X10_choosesToday (d := d - 1) (by omega) s _ hq2) (by omega) wm_X10_choosesToday wi_X10_choosesToday wv_X10_choosesToday km_10_575 (kc rfl rfl) (Nat.le_of_ble_eq_true rfl) rfl rfl rfl (Nat.le_of_ble_eq_true rfl) ⟨Nat.le_of_ble_eq_true rfl, Nat.le_of_ble_eq_true rfl⟩ (by decide +kernel) ?_
      show Ev l d mi_X10_daysGo 11 [some (.ref 65), some (.int x1), some (.int x2)] [] (hp q2) 0 0 _
      refine Ev.blk (pc' := 12) [(.aload_n 0, 0, 0, 0)] (by decide +kernel) trivial rfl (?_)
      show Ev l d mi_X10_daysGo 12 [some (.ref 65), some (.int x1), some (.int x2)] [.ref 65] (hp q2) 0 0 _
      obtain ⟨q3, hq3, hf⟩ := bd_some hf
      refine Ev.callV (o := 65) (M' := mi_X10_dayGoes) (d' := d - 1) (As := []) (rest := []) (r' := (none, hp q3)) (e_X10_dayGoes (d := d - 1) (by omega) q2 _ hq3) (by omega) wm_X10_dayGoes wi_X10_dayGoes wv_X10_dayGoes km_10_578 (kc rfl rfl) (Nat.le_of_ble_eq_true rfl) rfl rfl rfl (Nat.le_of_ble_eq_true rfl) ⟨Nat.le_of_ble_eq_true rfl, Nat.le_of_ble_eq_true rfl⟩ (by decide +kernel) ?_
      show Ev l d mi_X10_daysGo 15 [some (.ref 65), some (.int x1), some (.int x2)] [] (hp q3) 0 0 _
      refine Ev.blk (pc' := 18) [(.iinc 2 1, 0, 0, 0)] (by decide +kernel) trivial rfl (And.intro (Nat.le_of_ble_eq_true rfl) (?_))
      show Ev l d mi_X10_daysGo 18 [some (.ref 65), some (.int x1), some (.int (x2 + Int32.ofInt 1))] [] (hp q3) 0 0 _
      refine Ev.goto (off := -16) (tgt := 2) (by decide +kernel) (by decide) ?_
      exact ih x1 (x2 + Int32.ofInt 1) q3 _ hf
def f_X10_daysGo (p0 : Int32) (s : ST) : Option (ST) := (f_X10_daysGo_L2 fuel) p0 (Int32.ofInt 0) s
set_option maxHeartbeats 2000000 in
set_option maxRecDepth 20000 in
theorem e_X10_daysGo {l : Launch} {d : Nat} (hd : 11 ≤ d) (p0 : Int32) (s : ST) (r : ST) (hf : f_X10_daysGo p0 s = some r) : Cl l d mi_X10_daysGo [.ref 65, .int p0] (hp s) (none, hp r) := by
  refine Ev.entry (by decide +kernel) rfl rfl ?_
  show Ev l d mi_X10_daysGo 0 [some (.ref 65), some (.int p0), none] [] (hp s) 0 0 _
  unfold f_X10_daysGo at hf
  refine Ev.blk (pc' := 2) [(.iconst 0, 0, 0, 0), (.istore_n 2, 0, 0, 0)] (by decide +kernel) trivial rfl (And.intro (Nat.le_of_ble_eq_true rfl) (?_))
  show Ev l d mi_X10_daysGo 2 [some (.ref 65), some (.int p0), some (.int (Int32.ofInt 0))] [] (hp s) 0 0 _
  exact (e_X10_daysGo_L2 hd fuel) p0 (Int32.ofInt 0) s _ hf
def f_X10_putsAside_L7 : Nat → Int32 → ST → Option (ST)
  | 0, _, _ => none
  | n + 1, x1, s => (if ((Int8.ofInt 24).toInt32) ≤ x1 then some s else gd (ib x1 225) (gd (ib x1 24) (lt (uI s 113 x1.toNatClampNeg (s.1 112 x1.toNatClampNeg)) (fun s5 => (f_X10_putsAside_L7 n) (x1 + Int32.ofInt 1) s5))))
set_option maxHeartbeats 2000000 in
set_option maxRecDepth 20000 in
theorem e_X10_putsAside_L7 {l : Launch} {d : Nat} (hd : 1 ≤ d) : ∀ (n : Nat) (x1 : Int32) (s : ST) (r : ST), f_X10_putsAside_L7 n x1 s = some r → Ev l d mi_X10_putsAside 7 [some (.ref 65), some (.int x1)] [] (hp s) 0 0 (none, hp r) := by
  intro n
  induction n with
  | zero =>
    intro x1 s r hf
    cases hf
  | succ n ih =>
    intro x1 s r hf
    unfold f_X10_putsAside_L7 at hf
    refine Ev.blk (pc' := 10) [(.iload_n 1, 0, 0, 0), (.bipush 24, 0, 0, 0)] (by decide +kernel) trivial rfl (?_)
    show Ev l d mi_X10_putsAside 10 [some (.ref 65), some (.int x1)] [.int ((Int8.ofInt 24).toInt32), .int x1] (hp s) 0 0 _
    refine Ev.icmp_ge (off := 21) (tgt := 31) (by decide +kernel) (by decide) (fun b2 => ?_) (fun b2 => ?_)
    · have hf := (if_pos b2).symm.trans hf
      cases hf
      exact Ev.vret rfl (by decide +kernel) (Nat.le_refl _) (Nat.le_refl _)
    · have hf := (if_neg b2).symm.trans hf
      obtain ⟨c3, hf⟩ := gd_some hf
      obtain ⟨c4, hf⟩ := gd_some hf
      obtain ⟨s5, hs5, hf⟩ := lt_some hf
      refine Ev.blk (pc' := 28) [(.aload_n 0, 0, 0, 0), (.getfield 157, 0, 10, 63), (.iload_n 1, 0, 0, 0), (.aload_n 0, 0, 0, 0), (.getfield 154, 0, 10, 62), (.iload_n 1, 0, 0, 0), (.iaload, 0, 0, 0), (.iastore, 0, 0, 0), (.iinc 1 1, 0, 0, 0)] (by decide +kernel) ⟨kf_10_157, ⟨kf_10_154, trivial⟩⟩ rfl (And.intro (kc rfl rfl) (Exists.intro 113 (And.intro rfl (And.intro (kc rfl rfl) (Exists.intro 112 (And.intro rfl (And.intro (kc rfl rfl) (And.intro (ib_ok c3) (And.intro (kc rfl rfl) (And.intro (ib_ok c4) (And.intro (Nat.le_of_ble_eq_true rfl) (?_))))))))))))
      show Ev l d mi_X10_putsAside 28 [some (.ref 65), some (.int (x1 + Int32.ofInt 1))] [] (hp (uI s 113 x1.toNatClampNeg (s.1 112 x1.toNatClampNeg))) 0 0 _
      rw [← hs5]
      refine Ev.goto (off := -21) (tgt := 7) (by decide +kernel) (by decide) ?_
      exact ih (x1 + Int32.ofInt 1) s5 _ hf
def f_X10_putsAside (s : ST) : Option (ST) := lt (uI s 65 75 (Int32.ofInt 1)) (fun s1 => (f_X10_putsAside_L7 fuel) (Int32.ofInt 0) s1)
set_option maxHeartbeats 2000000 in
set_option maxRecDepth 20000 in
theorem e_X10_putsAside {l : Launch} {d : Nat} (hd : 1 ≤ d) (s : ST) (r : ST) (hf : f_X10_putsAside s = some r) : Cl l d mi_X10_putsAside [.ref 65] (hp s) (none, hp r) := by
  refine Ev.entry (by decide +kernel) rfl rfl ?_
  show Ev l d mi_X10_putsAside 0 [some (.ref 65), none] [] (hp s) 0 0 _
  unfold f_X10_putsAside at hf
  obtain ⟨s1, hs1, hf⟩ := lt_some hf
  refine Ev.blk (pc' := 7) [(.aload_n 0, 0, 0, 0), (.iconst 1, 0, 0, 0), (.putfield 547, 0, 10, 75), (.iconst 0, 0, 0, 0), (.istore_n 1, 0, 0, 0)] (by decide +kernel) ⟨⟨kf_10_547, Or.inl rfl⟩, trivial⟩ rfl (And.intro (kc rfl rfl) (And.intro (Or.inr rfl) (And.intro (Nat.le_of_ble_eq_true rfl) (?_))))
  show Ev l d mi_X10_putsAside 7 [some (.ref 65), some (.int (Int32.ofInt 0))] [] (hp (uI s 65 75 (Int32.ofInt 1))) 0 0 _
  rw [← hs1]
  exact (e_X10_putsAside_L7 hd fuel) (Int32.ofInt 0) s1 _ hf
def f_X10_triesAnew_L2 : Nat → Int32 → ST → Option (ST)
  | 0, _, _ => none
  | n + 1, x1, s => (if ((Int8.ofInt 24).toInt32) ≤ x1 then some s else gd (ib x1 24) (gd (ib x1 225) (lt (uI s 112 x1.toNatClampNeg (s.1 113 x1.toNatClampNeg)) (fun s4 => (f_X10_triesAnew_L2 n) (x1 + Int32.ofInt 1) s4))))
set_option maxHeartbeats 2000000 in
set_option maxRecDepth 20000 in
theorem e_X10_triesAnew_L2 {l : Launch} {d : Nat} (hd : 1 ≤ d) : ∀ (n : Nat) (x1 : Int32) (s : ST) (r : ST), f_X10_triesAnew_L2 n x1 s = some r → Ev l d mi_X10_triesAnew 2 [some (.ref 65), some (.int x1)] [] (hp s) 0 0 (none, hp r) := by
  intro n
  induction n with
  | zero =>
    intro x1 s r hf
    cases hf
  | succ n ih =>
    intro x1 s r hf
    unfold f_X10_triesAnew_L2 at hf
    refine Ev.blk (pc' := 5) [(.iload_n 1, 0, 0, 0), (.bipush 24, 0, 0, 0)] (by decide +kernel) trivial rfl (?_)
    show Ev l d mi_X10_triesAnew 5 [some (.ref 65), some (.int x1)] [.int ((Int8.ofInt 24).toInt32), .int x1] (hp s) 0 0 _
    refine Ev.icmp_ge (off := 21) (tgt := 26) (by decide +kernel) (by decide) (fun b1 => ?_) (fun b1 => ?_)
    · have hf := (if_pos b1).symm.trans hf
      cases hf
      exact Ev.vret rfl (by decide +kernel) (Nat.le_refl _) (Nat.le_refl _)
    · have hf := (if_neg b1).symm.trans hf
      obtain ⟨c2, hf⟩ := gd_some hf
      obtain ⟨c3, hf⟩ := gd_some hf
      obtain ⟨s4, hs4, hf⟩ := lt_some hf
      refine Ev.blk (pc' := 23) [(.aload_n 0, 0, 0, 0), (.getfield 154, 0, 10, 62), (.iload_n 1, 0, 0, 0), (.aload_n 0, 0, 0, 0), (.getfield 157, 0, 10, 63), (.iload_n 1, 0, 0, 0), (.iaload, 0, 0, 0), (.iastore, 0, 0, 0), (.iinc 1 1, 0, 0, 0)] (by decide +kernel) ⟨kf_10_154, ⟨kf_10_157, trivial⟩⟩ rfl (And.intro (kc rfl rfl) (Exists.intro 112 (And.intro rfl (And.intro (kc rfl rfl) (Exists.intro 113 (And.intro rfl (And.intro (kc rfl rfl) (And.intro (ib_ok c2) (And.intro (kc rfl rfl) (And.intro (ib_ok c3) (And.intro (Nat.le_of_ble_eq_true rfl) (?_))))))))))))
      show Ev l d mi_X10_triesAnew 23 [some (.ref 65), some (.int (x1 + Int32.ofInt 1))] [] (hp (uI s 112 x1.toNatClampNeg (s.1 113 x1.toNatClampNeg))) 0 0 _
      rw [← hs4]
      refine Ev.goto (off := -21) (tgt := 2) (by decide +kernel) (by decide) ?_
      exact ih (x1 + Int32.ofInt 1) s4 _ hf
def f_X10_triesAnew (s : ST) : Option (ST) := (f_X10_triesAnew_L2 fuel) (Int32.ofInt 0) s
set_option maxHeartbeats 2000000 in
set_option maxRecDepth 20000 in
theorem e_X10_triesAnew {l : Launch} {d : Nat} (hd : 1 ≤ d) (s : ST) (r : ST) (hf : f_X10_triesAnew s = some r) : Cl l d mi_X10_triesAnew [.ref 65] (hp s) (none, hp r) := by
  refine Ev.entry (by decide +kernel) rfl rfl ?_
  show Ev l d mi_X10_triesAnew 0 [some (.ref 65), none] [] (hp s) 0 0 _
  unfold f_X10_triesAnew at hf
  refine Ev.blk (pc' := 2) [(.iconst 0, 0, 0, 0), (.istore_n 1, 0, 0, 0)] (by decide +kernel) trivial rfl (And.intro (Nat.le_of_ble_eq_true rfl) (?_))
  show Ev l d mi_X10_triesAnew 2 [some (.ref 65), some (.int (Int32.ofInt 0))] [] (hp s) 0 0 _
  exact (e_X10_triesAnew_L2 hd fuel) (Int32.ofInt 0) s _ hf
def f_X10_takesBack (s : ST) : Option (ST) := (f_X10_triesAnew s).bind (fun q1 => lt (uI q1 65 75 (Int32.ofInt 0)) (fun s2 => some s2))
set_option maxHeartbeats 2000000 in
set_option maxRecDepth 20000 in
theorem e_X10_takesBack {l : Launch} {d : Nat} (hd : 2 ≤ d) (s : ST) (r : ST) (hf : f_X10_takesBack s = some r) : Cl l d mi_X10_takesBack [.ref 65] (hp s) (none, hp r) := by
  refine Ev.entry (by decide +kernel) rfl rfl ?_
  show Ev l d mi_X10_takesBack 0 [some (.ref 65)] [] (hp s) 0 0 _
  unfold f_X10_takesBack at hf
  refine Ev.blk (pc' := 1) [(.aload_n 0, 0, 0, 0)] (by decide +kernel) trivial rfl (?_)
  show Ev l d mi_X10_takesBack 1 [some (.ref 65)] [.ref 65] (hp s) 0 0 _
  obtain ⟨q1, hq1, hf⟩ := bd_some hf
  refine Ev.callV (o := 65) (M' := mi_X10_triesAnew) (d' := d - 1) (As := []) (rest := []) (r' := (none, hp q1)) (e_X10_triesAnew (d := d - 1) (by omega) s _ hq1) (by omega) wm_X10_triesAnew wi_X10_triesAnew wv_X10_triesAnew km_10_581 (kc rfl rfl) (Nat.le_of_ble_eq_true rfl) rfl rfl rfl (Nat.le_of_ble_eq_true rfl) ⟨Nat.le_of_ble_eq_true rfl, Nat.le_of_ble_eq_true rfl⟩ (by decide +kernel) ?_
  show Ev l d mi_X10_takesBack 4 [some (.ref 65)] [] (hp q1) 0 0 _
  obtain ⟨s2, hs2, hf⟩ := lt_some hf
  refine Ev.blk (pc' := 9) [(.aload_n 0, 0, 0, 0), (.iconst 0, 0, 0, 0), (.putfield 547, 0, 10, 75)] (by decide +kernel) ⟨⟨kf_10_547, Or.inl rfl⟩, trivial⟩ rfl (And.intro (kc rfl rfl) (And.intro (Or.inl rfl) (?_)))
  show Ev l d mi_X10_takesBack 9 [some (.ref 65)] [] (hp (uI q1 65 75 (Int32.ofInt 0))) 0 0 _
  rw [← hs2]
  cases hf
  exact Ev.vret rfl (by decide +kernel) (Nat.le_refl _) (Nat.le_refl _)
def f_X10_isAhead (p0 : Int32) (p1 : Int32) (p2 : Int32) (s : ST) : Option (Int32 × ST) := (if (s.1 65 58) = 0 then some ((Int32.ofInt 0), s) else (f_X10_isIn ((p0).toInt64) ((p1).toInt64) ((p2).toInt64) s).bind (fun q2 => (if q2.1 = 0 then some ((Int32.ofInt 0), q2.2) else gd (ib (Int32.ofInt 0) 225) ((if ((Int16.ofInt 999).toInt32) < ((q2.2.1 112 (Int32.ofInt 0).toNatClampNeg) + p0) then some ((Int32.ofInt 0), q2.2) else some ((Int32.ofInt 1), q2.2))))))
set_option maxHeartbeats 2000000 in
set_option maxRecDepth 20000 in
theorem e_X10_isAhead {l : Launch} {d : Nat} (hd : 2 ≤ d) (p0 : Int32) (p1 : Int32) (p2 : Int32) (s : ST) (r : Int32 × ST) (hf : f_X10_isAhead p0 p1 p2 s = some r) : Cl l d mi_X10_isAhead [.ref 65, .int p0, .int p1, .int p2] (hp s) (some (.int r.1), hp r.2) := by
  refine Ev.entry (by decide +kernel) rfl rfl ?_
  show Ev l d mi_X10_isAhead 0 [some (.ref 65), some (.int p0), some (.int p1), some (.int p2)] [] (hp s) 0 0 _
  unfold f_X10_isAhead at hf
  refine Ev.blk (pc' := 4) [(.aload_n 0, 0, 0, 0), (.getfield 424, 0, 10, 58)] (by decide +kernel) ⟨kf_10_424, trivial⟩ rfl (And.intro (kc rfl rfl) (?_))
  show Ev l d mi_X10_isAhead 4 [some (.ref 65), some (.int p0), some (.int p1), some (.int p2)] [.int (s.1 65 58)] (hp s) 0 0 _
  refine Ev.if_eq (off := 33) (tgt := 37) (by decide +kernel) (by decide) (fun b1 => ?_) (fun b1 => ?_)
  · have hf := (if_pos b1).symm.trans hf
    refine Ev.blk (pc' := 38) [(.iconst 0, 0, 0, 0)] (by decide +kernel) trivial rfl (?_)
    show Ev l d mi_X10_isAhead 38 [some (.ref 65), some (.int p0), some (.int p1), some (.int p2)] [.int (Int32.ofInt 0)] (hp s) 0 0 _
    cases hf
    exact Ev.iret .boolean rfl rfl (by decide +kernel) (Nat.le_refl _) (Nat.le_refl _)
  · have hf := (if_neg b1).symm.trans hf
    refine Ev.blk (pc' := 13) [(.iload_n 1, 0, 0, 0), (.i2l, 0, 0, 0), (.iload_n 2, 0, 0, 0), (.i2l, 0, 0, 0), (.iload_n 3, 0, 0, 0), (.i2l, 0, 0, 0)] (by decide +kernel) trivial rfl (?_)
    show Ev l d mi_X10_isAhead 13 [some (.ref 65), some (.int p0), some (.int p1), some (.int p2)] [.long (p2).toInt64, .long (p1).toInt64, .long (p0).toInt64] (hp s) 0 0 _
    obtain ⟨q2, hq2, hf⟩ := bd_some hf
    refine Ev.callS (M' := mi_X10_isIn) (d' := d - 1) (As := [.long (p0).toInt64, .long (p1).toInt64, .long (p2).toInt64]) (rest := []) (r' := (some (.int q2.1), hp q2.2)) (e_X10_isIn (d := d - 1) (by omega) ((p0).toInt64) ((p1).toInt64) ((p2).toInt64) s _ hq2) (by omega) wm_X10_isIn wt_X10_isIn km_10_321 rfl rfl rfl (Nat.le_of_ble_eq_true rfl) ⟨Nat.le_of_ble_eq_true rfl, Nat.le_of_ble_eq_true rfl⟩ (by decide +kernel) ?_
    show Ev l d mi_X10_isAhead 16 [some (.ref 65), some (.int p0), some (.int p1), some (.int p2)] [.int q2.1] (hp q2.2) 0 0 _
    refine Ev.if_eq (off := 21) (tgt := 37) (by decide +kernel) (by decide) (fun b3 => ?_) (fun b3 => ?_)
    · have hf := (if_pos b3).symm.trans hf
      refine Ev.blk (pc' := 38) [(.iconst 0, 0, 0, 0)] (by decide +kernel) trivial rfl (?_)
      show Ev l d mi_X10_isAhead 38 [some (.ref 65), some (.int p0), some (.int p1), some (.int p2)] [.int (Int32.ofInt 0)] (hp q2.2) 0 0 _
      cases hf
      exact Ev.iret .boolean rfl rfl (by decide +kernel) (Nat.le_refl _) (Nat.le_refl _)
    · have hf := (if_neg b3).symm.trans hf
      obtain ⟨c4, hf⟩ := gd_some hf
      refine Ev.blk (pc' := 30) [(.aload_n 0, 0, 0, 0), (.getfield 154, 0, 10, 62), (.iconst 0, 0, 0, 0), (.iaload, 0, 0, 0), (.iload_n 1, 0, 0, 0), (.iadd, 0, 0, 0), (.sipush 999, 0, 0, 0)] (by decide +kernel) ⟨kf_10_154, trivial⟩ rfl (And.intro (kc rfl rfl) (Exists.intro 112 (And.intro rfl (And.intro (kc rfl rfl) (And.intro (ib_ok c4) (?_))))))
      show Ev l d mi_X10_isAhead 30 [some (.ref 65), some (.int p0), some (.int p1), some (.int p2)] [.int ((Int16.ofInt 999).toInt32), .int ((q2.2.1 112 (Int32.ofInt 0).toNatClampNeg) + p0)] (hp q2.2) 0 0 _
      refine Ev.icmp_gt (off := 7) (tgt := 37) (by decide +kernel) (by decide) (fun b5 => ?_) (fun b5 => ?_)
      · have hf := (if_pos b5).symm.trans hf
        refine Ev.blk (pc' := 38) [(.iconst 0, 0, 0, 0)] (by decide +kernel) trivial rfl (?_)
        show Ev l d mi_X10_isAhead 38 [some (.ref 65), some (.int p0), some (.int p1), some (.int p2)] [.int (Int32.ofInt 0)] (hp q2.2) 0 0 _
        cases hf
        exact Ev.iret .boolean rfl rfl (by decide +kernel) (Nat.le_refl _) (Nat.le_refl _)
      · have hf := (if_neg b5).symm.trans hf
        refine Ev.blk (pc' := 34) [(.iconst 1, 0, 0, 0)] (by decide +kernel) trivial rfl (?_)
        show Ev l d mi_X10_isAhead 34 [some (.ref 65), some (.int p0), some (.int p1), some (.int p2)] [.int (Int32.ofInt 1)] (hp q2.2) 0 0 _
        refine Ev.goto (off := 4) (tgt := 38) (by decide +kernel) (by decide) ?_
        cases hf
        exact Ev.iret .boolean rfl rfl (by decide +kernel) (Nat.le_refl _) (Nat.le_refl _)
def f_X10_bearAll_L4 : Nat → Int32 → Int32 → ST → Option (Int32 × ST)
  | 0, _, _, _ => none
  | n + 1, x1, x2, s => (f_X10_fieldMany s).bind (fun q1 => (if q1.1 ≤ x2 then some (x1, q1.2) else gd (ib (((Int8.ofInt 18).toInt32) + x2) 225) (lt (x1 + (q1.2.1 112 (((Int8.ofInt 18).toInt32) + x2).toNatClampNeg)) (fun v4 => (f_X10_bearAll_L4 n) v4 (x2 + Int32.ofInt 1) q1.2))))
set_option maxHeartbeats 2000000 in
set_option maxRecDepth 20000 in
theorem e_X10_bearAll_L4 {l : Launch} {d : Nat} (hd : 2 ≤ d) : ∀ (n : Nat) (x1 : Int32) (x2 : Int32) (s : ST) (r : Int32 × ST), f_X10_bearAll_L4 n x1 x2 s = some r → Ev l d mi_X10_bearAll 4 [some (.ref 65), some (.int x1), some (.int x2)] [] (hp s) 0 0 (some (.int r.1), hp r.2) := by
  intro n
  induction n with
  | zero =>
    intro x1 x2 s r hf
    cases hf
  | succ n ih =>
    intro x1 x2 s r hf
    unfold f_X10_bearAll_L4 at hf
    refine Ev.blk (pc' := 6) [(.iload_n 2, 0, 0, 0), (.aload_n 0, 0, 0, 0)] (by decide +kernel) trivial rfl (?_)
    show Ev l d mi_X10_bearAll 6 [some (.ref 65), some (.int x1), some (.int x2)] [.ref 65, .int x2] (hp s) 0 0 _
    obtain ⟨q1, hq1, hf⟩ := bd_some hf
    refine Ev.callV (o := 65) (M' := mi_X10_fieldMany) (d' := d - 1) (As := []) (rest := [.int x2]) (r' := (some (.int q1.1), hp q1.2)) (e_X10_fieldMany (d := d - 1) (by omega) s _ hq1) (by omega) wm_X10_fieldMany wi_X10_fieldMany wv_X10_fieldMany km_10_436 (kc rfl rfl) (Nat.le_of_ble_eq_true rfl) rfl rfl rfl (Nat.le_of_ble_eq_true rfl) ⟨Nat.le_of_ble_eq_true rfl, Nat.le_of_ble_eq_true rfl⟩ (by decide +kernel) ?_
    show Ev l d mi_X10_bearAll 9 [some (.ref 65), some (.int x1), some (.int x2)] [.int q1.1, .int x2] (hp q1.2) 0 0 _
    refine Ev.icmp_ge (off := 21) (tgt := 30) (by decide +kernel) (by decide) (fun b2 => ?_) (fun b2 => ?_)
    · have hf := (if_pos b2).symm.trans hf
      refine Ev.blk (pc' := 31) [(.iload_n 1, 0, 0, 0)] (by decide +kernel) trivial rfl (?_)
      show Ev l d mi_X10_bearAll 31 [some (.ref 65), some (.int x1), some (.int x2)] [.int x1] (hp q1.2) 0 0 _
      cases hf
      exact Ev.iret .int rfl rfl (by decide +kernel) (Nat.le_refl _) (Nat.le_refl _)
    · have hf := (if_neg b2).symm.trans hf
      obtain ⟨c3, hf⟩ := gd_some hf
      obtain ⟨v4, hv4, hf⟩ := lt_some hf
      refine Ev.blk (pc' := 27) [(.iload_n 1, 0, 0, 0), (.aload_n 0, 0, 0, 0), (.getfield 154, 0, 10, 62), (.bipush 18, 0, 0, 0), (.iload_n 2, 0, 0, 0), (.iadd, 0, 0, 0), (.iaload, 0, 0, 0), (.iadd, 0, 0, 0), (.istore_n 1, 0, 0, 0), (.iinc 2 1, 0, 0, 0)] (by decide +kernel) ⟨kf_10_154, trivial⟩ rfl (And.intro (kc rfl rfl) (Exists.intro 112 (And.intro rfl (And.intro (kc rfl rfl) (And.intro (ib_ok c3) (And.intro (Nat.le_of_ble_eq_true rfl) (And.intro (Nat.le_of_ble_eq_true rfl) (?_))))))))
      show Ev l d mi_X10_bearAll 27 [some (.ref 65), some (.int (x1 + (q1.2.1 112 (((Int8.ofInt 18).toInt32) + x2).toNatClampNeg))), some (.int (x2 + Int32.ofInt 1))] [] (hp q1.2) 0 0 _
      rw [← hv4]
      refine Ev.goto (off := -23) (tgt := 4) (by decide +kernel) (by decide) ?_
      exact ih v4 (x2 + Int32.ofInt 1) q1.2 _ hf
def f_X10_bearAll (s : ST) : Option (Int32 × ST) := (f_X10_bearAll_L4 fuel) (Int32.ofInt 0) (Int32.ofInt 0) s
set_option maxHeartbeats 2000000 in
set_option maxRecDepth 20000 in
theorem e_X10_bearAll {l : Launch} {d : Nat} (hd : 2 ≤ d) (s : ST) (r : Int32 × ST) (hf : f_X10_bearAll s = some r) : Cl l d mi_X10_bearAll [.ref 65] (hp s) (some (.int r.1), hp r.2) := by
  refine Ev.entry (by decide +kernel) rfl rfl ?_
  show Ev l d mi_X10_bearAll 0 [some (.ref 65), none, none] [] (hp s) 0 0 _
  unfold f_X10_bearAll at hf
  refine Ev.blk (pc' := 4) [(.iconst 0, 0, 0, 0), (.istore_n 1, 0, 0, 0), (.iconst 0, 0, 0, 0), (.istore_n 2, 0, 0, 0)] (by decide +kernel) trivial rfl (And.intro (Nat.le_of_ble_eq_true rfl) (And.intro (Nat.le_of_ble_eq_true rfl) (?_)))
  show Ev l d mi_X10_bearAll 4 [some (.ref 65), some (.int (Int32.ofInt 0)), some (.int (Int32.ofInt 0))] [] (hp s) 0 0 _
  exact (e_X10_bearAll_L4 hd fuel) (Int32.ofInt 0) (Int32.ofInt 0) s _ hf
def f_X10_menOf_L4 : Nat → Int32 → Int32 → Int32 → ST → Option (Int32 × ST)
  | 0, _, _, _, _ => none
  | n + 1, x1, x2, x3, s => (f_X10_manMany s).bind (fun q1 => (if q1.1 ≤ x3 then some (x2, q1.2) else (f_X10_isTaken x3 q1.2).bind (fun q3 => (if q3.1 = 0 then (f_X10_sideOf x3 q3.2).bind (fun q5 => (if q5.1 = x1 then (f_X10_menOf_L4 n) x1 (x2 + Int32.ofInt 1) (x3 + Int32.ofInt 1) q5.2 else (f_X10_menOf_L4 n) x1 x2 (x3 + Int32.ofInt 1) q5.2)) else (f_X10_menOf_L4 n) x1 x2 (x3 + Int32.ofInt 1) q3.2))))
set_option maxHeartbeats 2000000 in
set_option maxRecDepth 20000 in
theorem e_X10_menOf_L4 {l : Launch} {d : Nat} (hd : 3 ≤ d) : ∀ (n : Nat) (x1 : Int32) (x2 : Int32) (x3 : Int32) (s : ST) (r : Int32 × ST), f_X10_menOf_L4 n x1 x2 x3 s = some r → Ev l d mi_X10_menOf 4 [some (.ref 65), some (.int x1), some (.int x2), some (.int x3)] [] (hp s) 0 0 (some (.int r.1), hp r.2) := by
  intro n
  induction n with
  | zero =>
    intro x1 x2 x3 s r hf
    cases hf
  | succ n ih =>
    intro x1 x2 x3 s r hf
    unfold f_X10_menOf_L4 at hf
    refine Ev.blk (pc' := 6) [(.iload_n 3, 0, 0, 0), (.aload_n 0, 0, 0, 0)] (by decide +kernel) trivial rfl (?_)
    show Ev l d mi_X10_menOf 6 [some (.ref 65), some (.int x1), some (.int x2), some (.int x3)] [.ref 65, .int x3] (hp s) 0 0 _
    obtain ⟨q1, hq1, hf⟩ := bd_some hf
    refine Ev.callV (o := 65) (M' := mi_X10_manMany) (d' := d - 1) (As := []) (rest := [.int x3]) (r' := (some (.int q1.1), hp q1.2)) (e_X10_manMany (d := d - 1) (by omega) s _ hq1) (by omega) wm_X10_manMany wi_X10_manMany wv_X10_manMany km_10_433 (kc rfl rfl) (Nat.le_of_ble_eq_true rfl) rfl rfl rfl (Nat.le_of_ble_eq_true rfl) ⟨Nat.le_of_ble_eq_true rfl, Nat.le_of_ble_eq_true rfl⟩ (by decide +kernel) ?_
    show Ev l d mi_X10_menOf 9 [some (.ref 65), some (.int x1), some (.int x2), some (.int x3)] [.int q1.1, .int x3] (hp q1.2) 0 0 _
    refine Ev.icmp_ge (off := 29) (tgt := 38) (by decide +kernel) (by decide) (fun b2 => ?_) (fun b2 => ?_)
    · have hf := (if_pos b2).symm.trans hf
      refine Ev.blk (pc' := 39) [(.iload_n 2, 0, 0, 0)] (by decide +kernel) trivial rfl (?_)
      show Ev l d mi_X10_menOf 39 [some (.ref 65), some (.int x1), some (.int x2), some (.int x3)] [.int x2] (hp q1.2) 0 0 _
      cases hf
      exact Ev.iret .int rfl rfl (by decide +kernel) (Nat.le_refl _) (Nat.le_refl _)
    · have hf := (if_neg b2).symm.trans hf
      refine Ev.blk (pc' := 14) [(.aload_n 0, 0, 0, 0), (.iload_n 3, 0, 0, 0)] (by decide +kernel) trivial rfl (?_)
      show Ev l d mi_X10_menOf 14 [some (.ref 65), some (.int x1), some (.int x2), some (.int x3)] [.int x3, .ref 65] (hp q1.2) 0 0 _
      obtain ⟨q3, hq3, hf⟩ := bd_some hf
      refine Ev.callV (o := 65) (M' := mi_X10_isTaken) (d' := d - 1) (As := [.int x3]) (rest := []) (r' := (some (.int q3.1), hp q3.2)) (e_X10_isTaken (d := d - 1) (by omega) x3 q1.2 _ hq3) (by omega) wm_X10_isTaken wi_X10_isTaken wv_X10_isTaken km_10_458 (kc rfl rfl) (Nat.le_of_ble_eq_true rfl) rfl rfl rfl (Nat.le_of_ble_eq_true rfl) ⟨Nat.le_of_ble_eq_true rfl, Nat.le_of_ble_eq_true rfl⟩ (by decide +kernel) ?_
      show Ev l d mi_X10_menOf 17 [some (.ref 65), some (.int x1), some (.int x2), some (.int x3)] [.int q3.1] (hp q3.2) 0 0 _
      refine Ev.if_ne (off := 15) (tgt := 32) (by decide +kernel) (by decide) (fun b4 => ?_) (fun b4 => ?_)
      · have hf := (if_neg b4).symm.trans hf
        refine Ev.blk (pc' := 35) [(.iinc 3 1, 0, 0, 0)] (by decide +kernel) trivial rfl (And.intro (Nat.le_of_ble_eq_true rfl) (?_))
        show Ev l d mi_X10_menOf 35 [some (.ref 65), some (.int x1), some (.int x2), some (.int (x3 + Int32.ofInt 1))] [] (hp q3.2) 0 0 _
        refine Ev.goto (off := -31) (tgt := 4) (by decide +kernel) (by decide) ?_
        exact ih x1 x2 (x3 + Int32.ofInt 1) q3.2 _ hf
      · have hf := (if_pos b4).symm.trans hf
        refine Ev.blk (pc' := 22) [(.aload_n 0, 0, 0, 0), (.iload_n 3, 0, 0, 0)] (by decide +kernel) trivial rfl (?_)
        show Ev l d mi_X10_menOf 22 [some (.ref 65), some (.int x1), some (.int x2), some (.int x3)] [.int x3, .ref 65] (hp q3.2) 0 0 _
        obtain ⟨q5, hq5, hf⟩ := bd_some hf
        refine Ev.callV (o := 65) (M' := mi_X10_sideOf) (d' := d - 1) (As := [.int x3]) (rest := []) (r' := (some (.int q5.1), hp q5.2)) (e_X10_sideOf (d := d - 1) (by omega) x3 q3.2 _ hq5) (by omega) wm_X10_sideOf wi_X10_sideOf wv_X10_sideOf km_10_468 (kc rfl rfl) (Nat.le_of_ble_eq_true rfl) rfl rfl rfl (Nat.le_of_ble_eq_true rfl) ⟨Nat.le_of_ble_eq_true rfl, Nat.le_of_ble_eq_true rfl⟩ (by decide +kernel) ?_
        show Ev l d mi_X10_menOf 25 [some (.ref 65), some (.int x1), some (.int x2), some (.int x3)] [.int q5.1] (hp q5.2) 0 0 _
        refine Ev.blk (pc' := 26) [(.iload_n 1, 0, 0, 0)] (by decide +kernel) trivial rfl (?_)
        show Ev l d mi_X10_menOf 26 [some (.ref 65), some (.int x1), some (.int x2), some (.int x3)] [.int x1, .int q5.1] (hp q5.2) 0 0 _
        refine Ev.icmp_ne (off := 6) (tgt := 32) (by decide +kernel) (by decide) (fun b6 => ?_) (fun b6 => ?_)
        · have hf := (if_neg b6).symm.trans hf
          refine Ev.blk (pc' := 35) [(.iinc 3 1, 0, 0, 0)] (by decide +kernel) trivial rfl (And.intro (Nat.le_of_ble_eq_true rfl) (?_))
          show Ev l d mi_X10_menOf 35 [some (.ref 65), some (.int x1), some (.int x2), some (.int (x3 + Int32.ofInt 1))] [] (hp q5.2) 0 0 _
          refine Ev.goto (off := -31) (tgt := 4) (by decide +kernel) (by decide) ?_
          exact ih x1 x2 (x3 + Int32.ofInt 1) q5.2 _ hf
        · have hf := (if_pos b6).symm.trans hf
          refine Ev.blk (pc' := 35) [(.iinc 2 1, 0, 0, 0), (.iinc 3 1, 0, 0, 0)] (by decide +kernel) trivial rfl (And.intro (Nat.le_of_ble_eq_true rfl) (And.intro (Nat.le_of_ble_eq_true rfl) (?_)))
          show Ev l d mi_X10_menOf 35 [some (.ref 65), some (.int x1), some (.int (x2 + Int32.ofInt 1)), some (.int (x3 + Int32.ofInt 1))] [] (hp q5.2) 0 0 _
          refine Ev.goto (off := -31) (tgt := 4) (by decide +kernel) (by decide) ?_
          exact ih x1 (x2 + Int32.ofInt 1) (x3 + Int32.ofInt 1) q5.2 _ hf
def f_X10_menOf (p0 : Int32) (s : ST) : Option (Int32 × ST) := (f_X10_menOf_L4 fuel) p0 (Int32.ofInt 0) (Int32.ofInt 0) s
set_option maxHeartbeats 2000000 in
set_option maxRecDepth 20000 in
theorem e_X10_menOf {l : Launch} {d : Nat} (hd : 3 ≤ d) (p0 : Int32) (s : ST) (r : Int32 × ST) (hf : f_X10_menOf p0 s = some r) : Cl l d mi_X10_menOf [.ref 65, .int p0] (hp s) (some (.int r.1), hp r.2) := by
  refine Ev.entry (by decide +kernel) rfl rfl ?_
  show Ev l d mi_X10_menOf 0 [some (.ref 65), some (.int p0), none, none] [] (hp s) 0 0 _
  unfold f_X10_menOf at hf
  refine Ev.blk (pc' := 4) [(.iconst 0, 0, 0, 0), (.istore_n 2, 0, 0, 0), (.iconst 0, 0, 0, 0), (.istore_n 3, 0, 0, 0)] (by decide +kernel) trivial rfl (And.intro (Nat.le_of_ble_eq_true rfl) (And.intro (Nat.le_of_ble_eq_true rfl) (?_)))
  show Ev l d mi_X10_menOf 4 [some (.ref 65), some (.int p0), some (.int (Int32.ofInt 0)), some (.int (Int32.ofInt 0))] [] (hp s) 0 0 _
  exact (e_X10_menOf_L4 hd fuel) p0 (Int32.ofInt 0) (Int32.ofInt 0) s _ hf
def f_X10_has (p0 : Int32) (s : ST) : Option (Int32 × ST) := (if p0 = 0 then gd (ib ((Int32.ofInt 4) + p0) 8) (some ((s.1 103 ((Int32.ofInt 4) + p0).toNatClampNeg), s)) else (if p0 = 1 then gd (ib ((Int32.ofInt 4) + p0) 8) (some ((s.1 103 ((Int32.ofInt 4) + p0).toNatClampNeg), s)) else (if p0 = 2 then gd (ib (((Int32.ofInt 3) + p0) - (Int32.ofInt 2)) 6) (lt (s.1 101 (((Int32.ofInt 3) + p0) - (Int32.ofInt 2)).toNatClampNeg) (fun v7 => some (v7, s))) else (if p0 = 3 then gd (ib (((Int32.ofInt 3) + p0) - (Int32.ofInt 2)) 6) (lt (s.1 101 (((Int32.ofInt 3) + p0) - (Int32.ofInt 2)).toNatClampNeg) (fun v10 => some (v10, s))) else (if p0 = 4 then gd (ib (((Int32.ofInt 3) + p0) - (Int32.ofInt 2)) 6) (lt (s.1 101 (((Int32.ofInt 3) + p0) - (Int32.ofInt 2)).toNatClampNeg) (fun v13 => some (v13, s))) else (if p0 = 5 then gd (ib (p0 - (Int32.ofInt 5)) 225) (some ((s.1 112 (p0 - (Int32.ofInt 5)).toNatClampNeg), s)) else (if p0 = 6 then gd (ib (p0 - (Int32.ofInt 5)) 225) (some ((s.1 112 (p0 - (Int32.ofInt 5)).toNatClampNeg), s)) else (if p0 = 7 then (if (s.1 65 58) = 0 then some ((Int32.ofInt 0), s) else (f_X10_isOver s).bind (fun q20 => (if q20.1 = 0 then some ((Int32.ofInt 0), q20.2) else some ((Int32.ofInt 1), q20.2)))) else (if p0 = 8 then (f_X10_manMany s).bind (fun q23 => (f_X10_menOf (Int32.ofInt 0) q23.2).bind (fun q24 => (f_X10_menOf (Int32.ofInt 1) q24.2).bind (fun q25 => some (((q23.1 - q24.1) - q25.1), q25.2)))) else (if p0 = 9 then (f_X10_bearAll s).bind (fun q27 => some (q27.1, q27.2)) else (if p0 = 10 then gd (ib ((Int8.ofInt 24).toInt32) 225) (some ((s.1 112 ((Int8.ofInt 24).toInt32).toNatClampNeg), s)) else (if p0 = 11 then some ((s.1 65 80), s) else (if p0 = 12 then some ((s.1 65 84), s) else (some ((Int32.ofInt (-1)), s)))))))))))))))
set_option maxHeartbeats 2000000 in
set_option maxRecDepth 20000 in
theorem e_X10_has {l : Launch} {d : Nat} (hd : 8 ≤ d) (p0 : Int32) (s : ST) (r : Int32 × ST) (hf : f_X10_has p0 s = some r) : Cl l d mi_X10_has [.ref 65, .int p0] (hp s) (some (.int r.1), hp r.2) := by
  refine Ev.entry (by decide +kernel) rfl rfl ?_
  show Ev l d mi_X10_has 0 [some (.ref 65), some (.int p0)] [] (hp s) 0 0 _
  unfold f_X10_has at hf
  refine Ev.blk (pc' := 1) [(.iload_n 1, 0, 0, 0)] (by decide +kernel) trivial rfl (?_)
  show Ev l d mi_X10_has 1 [some (.ref 65), some (.int p0)] [.int p0] (hp s) 0 0 _
  by_cases b1 : p0 = 0
  · have hf := (if_pos b1).symm.trans hf
    refine Ev.tswitch (dflt := 156) (lo := 0) (hi := 12) (offs := #[67, 67, 76, 76, 76, 87, 87, 96, 116, 133, 138, 146, 151]) (len := 67) (tgt := 68) (by decide +kernel) (by rw [b1]; decide) (by decide) ?_
    obtain ⟨c2, hf⟩ := gd_some hf
    refine Ev.blk (pc' := 76) [(.aload_n 0, 0, 0, 0), (.getfield 127, 0, 10, 47), (.iconst 4, 0, 0, 0), (.iload_n 1, 0, 0, 0), (.iadd, 0, 0, 0), (.iaload, 0, 0, 0)] (by decide +kernel) ⟨kf_10_127, trivial⟩ rfl (And.intro (kc rfl rfl) (Exists.intro 103 (And.intro rfl (And.intro (kc rfl rfl) (And.intro (ib_ok c2) (?_))))))
    show Ev l d mi_X10_has 76 [some (.ref 65), some (.int p0)] [.int (s.1 103 ((Int32.ofInt 4) + p0).toNatClampNeg)] (hp s) 0 0 _
    cases hf
    exact Ev.iret .int rfl rfl (by decide +kernel) (Nat.le_refl _) (Nat.le_refl _)
  · have hf := (if_neg b1).symm.trans hf
    by_cases b3 : p0 = 1
    · have hf := (if_pos b3).symm.trans hf
      refine Ev.tswitch (dflt := 156) (lo := 0) (hi := 12) (offs := #[67, 67, 76, 76, 76, 87, 87, 96, 116, 133, 138, 146, 151]) (len := 67) (tgt := 68) (by decide +kernel) (by rw [b3]; decide) (by decide) ?_
      obtain ⟨c4, hf⟩ := gd_some hf
      refine Ev.blk (pc' := 76) [(.aload_n 0, 0, 0, 0), (.getfield 127, 0, 10, 47), (.iconst 4, 0, 0, 0), (.iload_n 1, 0, 0, 0), (.iadd, 0, 0, 0), (.iaload, 0, 0, 0)] (by decide +kernel) ⟨kf_10_127, trivial⟩ rfl (And.intro (kc rfl rfl) (Exists.intro 103 (And.intro rfl (And.intro (kc rfl rfl) (And.intro (ib_ok c4) (?_))))))
      show Ev l d mi_X10_has 76 [some (.ref 65), some (.int p0)] [.int (s.1 103 ((Int32.ofInt 4) + p0).toNatClampNeg)] (hp s) 0 0 _
      cases hf
      exact Ev.iret .int rfl rfl (by decide +kernel) (Nat.le_refl _) (Nat.le_refl _)
    · have hf := (if_neg b3).symm.trans hf
      by_cases b5 : p0 = 2
      · have hf := (if_pos b5).symm.trans hf
        refine Ev.tswitch (dflt := 156) (lo := 0) (hi := 12) (offs := #[67, 67, 76, 76, 76, 87, 87, 96, 116, 133, 138, 146, 151]) (len := 67) (tgt := 77) (by decide +kernel) (by rw [b5]; decide) (by decide) ?_
        obtain ⟨c6, hf⟩ := gd_some hf
        obtain ⟨v7, hv7, hf⟩ := lt_some hf
        refine Ev.blk (pc' := 87) [(.aload_n 0, 0, 0, 0), (.getfield 120, 0, 10, 45), (.iconst 3, 0, 0, 0), (.iload_n 1, 0, 0, 0), (.iadd, 0, 0, 0), (.iconst 2, 0, 0, 0), (.isub, 0, 0, 0), (.iaload, 0, 0, 0)] (by decide +kernel) ⟨kf_10_120, trivial⟩ rfl (And.intro (kc rfl rfl) (Exists.intro 101 (And.intro rfl (And.intro (kc rfl rfl) (And.intro (ib_ok c6) (?_))))))
        show Ev l d mi_X10_has 87 [some (.ref 65), some (.int p0)] [.int (s.1 101 (((Int32.ofInt 3) + p0) - (Int32.ofInt 2)).toNatClampNeg)] (hp s) 0 0 _
        rw [← hv7]
        cases hf
        exact Ev.iret .int rfl rfl (by decide +kernel) (Nat.le_refl _) (Nat.le_refl _)
      · have hf := (if_neg b5).symm.trans hf
        by_cases b8 : p0 = 3
        · have hf := (if_pos b8).symm.trans hf
          refine Ev.tswitch (dflt := 156) (lo := 0) (hi := 12) (offs := #[67, 67, 76, 76, 76, 87, 87, 96, 116, 133, 138, 146, 151]) (len := 67) (tgt := 77) (by decide +kernel) (by rw [b8]; decide) (by decide) ?_
          obtain ⟨c9, hf⟩ := gd_some hf
          obtain ⟨v10, hv10, hf⟩ := lt_some hf
          refine Ev.blk (pc' := 87) [(.aload_n 0, 0, 0, 0), (.getfield 120, 0, 10, 45), (.iconst 3, 0, 0, 0), (.iload_n 1, 0, 0, 0), (.iadd, 0, 0, 0), (.iconst 2, 0, 0, 0), (.isub, 0, 0, 0), (.iaload, 0, 0, 0)] (by decide +kernel) ⟨kf_10_120, trivial⟩ rfl (And.intro (kc rfl rfl) (Exists.intro 101 (And.intro rfl (And.intro (kc rfl rfl) (And.intro (ib_ok c9) (?_))))))
          show Ev l d mi_X10_has 87 [some (.ref 65), some (.int p0)] [.int (s.1 101 (((Int32.ofInt 3) + p0) - (Int32.ofInt 2)).toNatClampNeg)] (hp s) 0 0 _
          rw [← hv10]
          cases hf
          exact Ev.iret .int rfl rfl (by decide +kernel) (Nat.le_refl _) (Nat.le_refl _)
        · have hf := (if_neg b8).symm.trans hf
          by_cases b11 : p0 = 4
          · have hf := (if_pos b11).symm.trans hf
            refine Ev.tswitch (dflt := 156) (lo := 0) (hi := 12) (offs := #[67, 67, 76, 76, 76, 87, 87, 96, 116, 133, 138, 146, 151]) (len := 67) (tgt := 77) (by decide +kernel) (by rw [b11]; decide) (by decide) ?_
            obtain ⟨c12, hf⟩ := gd_some hf
            obtain ⟨v13, hv13, hf⟩ := lt_some hf
            refine Ev.blk (pc' := 87) [(.aload_n 0, 0, 0, 0), (.getfield 120, 0, 10, 45), (.iconst 3, 0, 0, 0), (.iload_n 1, 0, 0, 0), (.iadd, 0, 0, 0), (.iconst 2, 0, 0, 0), (.isub, 0, 0, 0), (.iaload, 0, 0, 0)] (by decide +kernel) ⟨kf_10_120, trivial⟩ rfl (And.intro (kc rfl rfl) (Exists.intro 101 (And.intro rfl (And.intro (kc rfl rfl) (And.intro (ib_ok c12) (?_))))))
            show Ev l d mi_X10_has 87 [some (.ref 65), some (.int p0)] [.int (s.1 101 (((Int32.ofInt 3) + p0) - (Int32.ofInt 2)).toNatClampNeg)] (hp s) 0 0 _
            rw [← hv13]
            cases hf
            exact Ev.iret .int rfl rfl (by decide +kernel) (Nat.le_refl _) (Nat.le_refl _)
          · have hf := (if_neg b11).symm.trans hf
            by_cases b14 : p0 = 5
            · have hf := (if_pos b14).symm.trans hf
              refine Ev.tswitch (dflt := 156) (lo := 0) (hi := 12) (offs := #[67, 67, 76, 76, 76, 87, 87, 96, 116, 133, 138, 146, 151]) (len := 67) (tgt := 88) (by decide +kernel) (by rw [b14]; decide) (by decide) ?_
              obtain ⟨c15, hf⟩ := gd_some hf
              refine Ev.blk (pc' := 96) [(.aload_n 0, 0, 0, 0), (.getfield 154, 0, 10, 62), (.iload_n 1, 0, 0, 0), (.iconst 5, 0, 0, 0), (.isub, 0, 0, 0), (.iaload, 0, 0, 0)] (by decide +kernel) ⟨kf_10_154, trivial⟩ rfl (And.intro (kc rfl rfl) (Exists.intro 112 (And.intro rfl (And.intro (kc rfl rfl) (And.intro (ib_ok c15) (?_))))))
              show Ev l d mi_X10_has 96 [some (.ref 65), some (.int p0)] [.int (s.1 112 (p0 - (Int32.ofInt 5)).toNatClampNeg)] (hp s) 0 0 _
              cases hf
              exact Ev.iret .int rfl rfl (by decide +kernel) (Nat.le_refl _) (Nat.le_refl _)
            · have hf := (if_neg b14).symm.trans hf
              by_cases b16 : p0 = 6
              · have hf := (if_pos b16).symm.trans hf
                refine Ev.tswitch (dflt := 156) (lo := 0) (hi := 12) (offs := #[67, 67, 76, 76, 76, 87, 87, 96, 116, 133, 138, 146, 151]) (len := 67) (tgt := 88) (by decide +kernel) (by rw [b16]; decide) (by decide) ?_
                obtain ⟨c17, hf⟩ := gd_some hf
                refine Ev.blk (pc' := 96) [(.aload_n 0, 0, 0, 0), (.getfield 154, 0, 10, 62), (.iload_n 1, 0, 0, 0), (.iconst 5, 0, 0, 0), (.isub, 0, 0, 0), (.iaload, 0, 0, 0)] (by decide +kernel) ⟨kf_10_154, trivial⟩ rfl (And.intro (kc rfl rfl) (Exists.intro 112 (And.intro rfl (And.intro (kc rfl rfl) (And.intro (ib_ok c17) (?_))))))
                show Ev l d mi_X10_has 96 [some (.ref 65), some (.int p0)] [.int (s.1 112 (p0 - (Int32.ofInt 5)).toNatClampNeg)] (hp s) 0 0 _
                cases hf
                exact Ev.iret .int rfl rfl (by decide +kernel) (Nat.le_refl _) (Nat.le_refl _)
              · have hf := (if_neg b16).symm.trans hf
                by_cases b18 : p0 = 7
                · have hf := (if_pos b18).symm.trans hf
                  refine Ev.tswitch (dflt := 156) (lo := 0) (hi := 12) (offs := #[67, 67, 76, 76, 76, 87, 87, 96, 116, 133, 138, 146, 151]) (len := 67) (tgt := 97) (by decide +kernel) (by rw [b18]; decide) (by decide) ?_
                  refine Ev.blk (pc' := 101) [(.aload_n 0, 0, 0, 0), (.getfield 424, 0, 10, 58)] (by decide +kernel) ⟨kf_10_424, trivial⟩ rfl (And.intro (kc rfl rfl) (?_))
                  show Ev l d mi_X10_has 101 [some (.ref 65), some (.int p0)] [.int (s.1 65 58)] (hp s) 0 0 _
                  refine Ev.if_eq (off := 14) (tgt := 115) (by decide +kernel) (by decide) (fun b19 => ?_) (fun b19 => ?_)
                  · have hf := (if_pos b19).symm.trans hf
                    refine Ev.blk (pc' := 116) [(.iconst 0, 0, 0, 0)] (by decide +kernel) trivial rfl (?_)
                    show Ev l d mi_X10_has 116 [some (.ref 65), some (.int p0)] [.int (Int32.ofInt 0)] (hp s) 0 0 _
                    cases hf
                    exact Ev.iret .int rfl rfl (by decide +kernel) (Nat.le_refl _) (Nat.le_refl _)
                  · have hf := (if_neg b19).symm.trans hf
                    refine Ev.blk (pc' := 105) [(.aload_n 0, 0, 0, 0)] (by decide +kernel) trivial rfl (?_)
                    show Ev l d mi_X10_has 105 [some (.ref 65), some (.int p0)] [.ref 65] (hp s) 0 0 _
                    obtain ⟨q20, hq20, hf⟩ := bd_some hf
                    refine Ev.callV (o := 65) (M' := mi_X10_isOver) (d' := d - 1) (As := []) (rest := []) (r' := (some (.int q20.1), hp q20.2)) (e_X10_isOver (d := d - 1) (by omega) s _ hq20) (by omega) wm_X10_isOver wi_X10_isOver wv_X10_isOver km_10_584 (kc rfl rfl) (Nat.le_of_ble_eq_true rfl) rfl rfl rfl (Nat.le_of_ble_eq_true rfl) ⟨Nat.le_of_ble_eq_true rfl, Nat.le_of_ble_eq_true rfl⟩ (by decide +kernel) ?_
                    show Ev l d mi_X10_has 108 [some (.ref 65), some (.int p0)] [.int q20.1] (hp q20.2) 0 0 _
                    refine Ev.if_eq (off := 7) (tgt := 115) (by decide +kernel) (by decide) (fun b21 => ?_) (fun b21 => ?_)
                    · have hf := (if_pos b21).symm.trans hf
                      refine Ev.blk (pc' := 116) [(.iconst 0, 0, 0, 0)] (by decide +kernel) trivial rfl (?_)
                      show Ev l d mi_X10_has 116 [some (.ref 65), some (.int p0)] [.int (Int32.ofInt 0)] (hp q20.2) 0 0 _
                      cases hf
                      exact Ev.iret .int rfl rfl (by decide +kernel) (Nat.le_refl _) (Nat.le_refl _)
                    · have hf := (if_neg b21).symm.trans hf
                      refine Ev.blk (pc' := 112) [(.iconst 1, 0, 0, 0)] (by decide +kernel) trivial rfl (?_)
                      show Ev l d mi_X10_has 112 [some (.ref 65), some (.int p0)] [.int (Int32.ofInt 1)] (hp q20.2) 0 0 _
                      refine Ev.goto (off := 4) (tgt := 116) (by decide +kernel) (by decide) ?_
                      cases hf
                      exact Ev.iret .int rfl rfl (by decide +kernel) (Nat.le_refl _) (Nat.le_refl _)
                · have hf := (if_neg b18).symm.trans hf
                  by_cases b22 : p0 = 8
                  · have hf := (if_pos b22).symm.trans hf
                    refine Ev.tswitch (dflt := 156) (lo := 0) (hi := 12) (offs := #[67, 67, 76, 76, 76, 87, 87, 96, 116, 133, 138, 146, 151]) (len := 67) (tgt := 117) (by decide +kernel) (by rw [b22]; decide) (by decide) ?_
                    refine Ev.blk (pc' := 118) [(.aload_n 0, 0, 0, 0)] (by decide +kernel) trivial rfl (?_)
                    show Ev l d mi_X10_has 118 [some (.ref 65), some (.int p0)] [.ref 65] (hp s) 0 0 _
                    obtain ⟨q23, hq23, hf⟩ := bd_some hf
                    refine Ev.callV (o := 65) (M' := mi_X10_manMany) (d' := d - 1) (As := []) (rest := []) (r' := (some (.int q23.1), hp q23.2)) (e_X10_manMany (d := d - 1) (by omega) s _ hq23) (by omega) wm_X10_manMany wi_X10_manMany wv_X10_manMany km_10_433 (kc rfl rfl) (Nat.le_of_ble_eq_true rfl) rfl rfl rfl (Nat.le_of_ble_eq_true rfl) ⟨Nat.le_of_ble_eq_true rfl, Nat.le_of_ble_eq_true rfl⟩ (by decide +kernel) ?_
                    show Ev l d mi_X10_has 121 [some (.ref 65), some (.int p0)] [.int q23.1] (hp q23.2) 0 0 _
                    refine Ev.blk (pc' := 123) [(.aload_n 0, 0, 0, 0), (.iconst 0, 0, 0, 0)] (by decide +kernel) trivial rfl (?_)
                    show Ev l d mi_X10_has 123 [some (.ref 65), some (.int p0)] [.int (Int32.ofInt 0), .ref 65, .int q23.1] (hp q23.2) 0 0 _
                    obtain ⟨q24, hq24, hf⟩ := bd_some hf
                    refine Ev.callV (o := 65) (M' := mi_X10_menOf) (d' := d - 1) (As := [.int (Int32.ofInt 0)]) (rest := [.int q23.1]) (r' := (some (.int q24.1), hp q24.2)) (e_X10_menOf (d := d - 1) (by omega) (Int32.ofInt 0) q23.2 _ hq24) (by omega) wm_X10_menOf wi_X10_menOf wv_X10_menOf km_10_587 (kc rfl rfl) (Nat.le_of_ble_eq_true rfl) rfl rfl rfl (Nat.le_of_ble_eq_true rfl) ⟨Nat.le_of_ble_eq_true rfl, Nat.le_of_ble_eq_true rfl⟩ (by decide +kernel) ?_
                    show Ev l d mi_X10_has 126 [some (.ref 65), some (.int p0)] [.int q24.1, .int q23.1] (hp q24.2) 0 0 _
                    refine Ev.blk (pc' := 129) [(.isub, 0, 0, 0), (.aload_n 0, 0, 0, 0), (.iconst 1, 0, 0, 0)] (by decide +kernel) trivial rfl (?_)
                    show Ev l d mi_X10_has 129 [some (.ref 65), some (.int p0)] [.int (Int32.ofInt 1), .ref 65, .int (q23.1 - q24.1)] (hp q24.2) 0 0 _
                    obtain ⟨q25, hq25, hf⟩ := bd_some hf
                    refine Ev.callV (o := 65) (M' := mi_X10_menOf) (d' := d - 1) (As := [.int (Int32.ofInt 1)]) (rest := [.int (q23.1 - q24.1)]) (r' := (some (.int q25.1), hp q25.2)) (e_X10_menOf (d := d - 1) (by omega) (Int32.ofInt 1) q24.2 _ hq25) (by omega) wm_X10_menOf wi_X10_menOf wv_X10_menOf km_10_587 (kc rfl rfl) (Nat.le_of_ble_eq_true rfl) rfl rfl rfl (Nat.le_of_ble_eq_true rfl) ⟨Nat.le_of_ble_eq_true rfl, Nat.le_of_ble_eq_true rfl⟩ (by decide +kernel) ?_
                    show Ev l d mi_X10_has 132 [some (.ref 65), some (.int p0)] [.int q25.1, .int (q23.1 - q24.1)] (hp q25.2) 0 0 _
                    refine Ev.blk (pc' := 133) [(.isub, 0, 0, 0)] (by decide +kernel) trivial rfl (?_)
                    show Ev l d mi_X10_has 133 [some (.ref 65), some (.int p0)] [.int ((q23.1 - q24.1) - q25.1)] (hp q25.2) 0 0 _
                    cases hf
                    exact Ev.iret .int rfl rfl (by decide +kernel) (Nat.le_refl _) (Nat.le_refl _)
                  · have hf := (if_neg b22).symm.trans hf
                    by_cases b26 : p0 = 9
                    · have hf := (if_pos b26).symm.trans hf
                      refine Ev.tswitch (dflt := 156) (lo := 0) (hi := 12) (offs := #[67, 67, 76, 76, 76, 87, 87, 96, 116, 133, 138, 146, 151]) (len := 67) (tgt := 134) (by decide +kernel) (by rw [b26]; decide) (by decide) ?_
                      refine Ev.blk (pc' := 135) [(.aload_n 0, 0, 0, 0)] (by decide +kernel) trivial rfl (?_)
                      show Ev l d mi_X10_has 135 [some (.ref 65), some (.int p0)] [.ref 65] (hp s) 0 0 _
                      obtain ⟨q27, hq27, hf⟩ := bd_some hf
                      refine Ev.callV (o := 65) (M' := mi_X10_bearAll) (d' := d - 1) (As := []) (rest := []) (r' := (some (.int q27.1), hp q27.2)) (e_X10_bearAll (d := d - 1) (by omega) s _ hq27) (by omega) wm_X10_bearAll wi_X10_bearAll wv_X10_bearAll km_10_590 (kc rfl rfl) (Nat.le_of_ble_eq_true rfl) rfl rfl rfl (Nat.le_of_ble_eq_true rfl) ⟨Nat.le_of_ble_eq_true rfl, Nat.le_of_ble_eq_true rfl⟩ (by decide +kernel) ?_
                      show Ev l d mi_X10_has 138 [some (.ref 65), some (.int p0)] [.int q27.1] (hp q27.2) 0 0 _
                      cases hf
                      exact Ev.iret .int rfl rfl (by decide +kernel) (Nat.le_refl _) (Nat.le_refl _)
                    · have hf := (if_neg b26).symm.trans hf
                      by_cases b28 : p0 = 10
                      · have hf := (if_pos b28).symm.trans hf
                        refine Ev.tswitch (dflt := 156) (lo := 0) (hi := 12) (offs := #[67, 67, 76, 76, 76, 87, 87, 96, 116, 133, 138, 146, 151]) (len := 67) (tgt := 139) (by decide +kernel) (by rw [b28]; decide) (by decide) ?_
                        obtain ⟨c29, hf⟩ := gd_some hf
                        refine Ev.blk (pc' := 146) [(.aload_n 0, 0, 0, 0), (.getfield 154, 0, 10, 62), (.bipush 24, 0, 0, 0), (.iaload, 0, 0, 0)] (by decide +kernel) ⟨kf_10_154, trivial⟩ rfl (And.intro (kc rfl rfl) (Exists.intro 112 (And.intro rfl (And.intro (kc rfl rfl) (And.intro (ib_ok c29) (?_))))))
                        show Ev l d mi_X10_has 146 [some (.ref 65), some (.int p0)] [.int (s.1 112 ((Int8.ofInt 24).toInt32).toNatClampNeg)] (hp s) 0 0 _
                        cases hf
                        exact Ev.iret .int rfl rfl (by decide +kernel) (Nat.le_refl _) (Nat.le_refl _)
                      · have hf := (if_neg b28).symm.trans hf
                        by_cases b30 : p0 = 11
                        · have hf := (if_pos b30).symm.trans hf
                          refine Ev.tswitch (dflt := 156) (lo := 0) (hi := 12) (offs := #[67, 67, 76, 76, 76, 87, 87, 96, 116, 133, 138, 146, 151]) (len := 67) (tgt := 147) (by decide +kernel) (by rw [b30]; decide) (by decide) ?_
                          refine Ev.blk (pc' := 151) [(.aload_n 0, 0, 0, 0), (.getfield 430, 0, 10, 80)] (by decide +kernel) ⟨kf_10_430, trivial⟩ rfl (And.intro (kc rfl rfl) (?_))
                          show Ev l d mi_X10_has 151 [some (.ref 65), some (.int p0)] [.int (s.1 65 80)] (hp s) 0 0 _
                          cases hf
                          exact Ev.iret .int rfl rfl (by decide +kernel) (Nat.le_refl _) (Nat.le_refl _)
                        · have hf := (if_neg b30).symm.trans hf
                          by_cases b31 : p0 = 12
                          · have hf := (if_pos b31).symm.trans hf
                            refine Ev.tswitch (dflt := 156) (lo := 0) (hi := 12) (offs := #[67, 67, 76, 76, 76, 87, 87, 96, 116, 133, 138, 146, 151]) (len := 67) (tgt := 152) (by decide +kernel) (by rw [b31]; decide) (by decide) ?_
                            refine Ev.blk (pc' := 156) [(.aload_n 0, 0, 0, 0), (.getfield 427, 0, 10, 84)] (by decide +kernel) ⟨kf_10_427, trivial⟩ rfl (And.intro (kc rfl rfl) (?_))
                            show Ev l d mi_X10_has 156 [some (.ref 65), some (.int p0)] [.int (s.1 65 84)] (hp s) 0 0 _
                            cases hf
                            exact Ev.iret .int rfl rfl (by decide +kernel) (Nat.le_refl _) (Nat.le_refl _)
                          · have hf := (if_neg b31).symm.trans hf
                            refine Ev.tswitch (dflt := 156) (lo := 0) (hi := 12) (offs := #[67, 67, 76, 76, 76, 87, 87, 96, 116, 133, 138, 146, 151]) (len := 67) (tgt := 157) (by decide +kernel) (by have e0 := sw_ne b1 (c := (0)) (by decide); have e1 := sw_ne b3 (c := (1)) (by decide); have e2 := sw_ne b5 (c := (2)) (by decide); have e3 := sw_ne b8 (c := (3)) (by decide); have e4 := sw_ne b11 (c := (4)) (by decide); have e5 := sw_ne b14 (c := (5)) (by decide); have e6 := sw_ne b16 (c := (6)) (by decide); have e7 := sw_ne b18 (c := (7)) (by decide); have e8 := sw_ne b22 (c := (8)) (by decide); have e9 := sw_ne b26 (c := (9)) (by decide); have e10 := sw_ne b28 (c := (10)) (by decide); have e11 := sw_ne b30 (c := (11)) (by decide); have e12 := sw_ne b31 (c := (12)) (by decide); rw [if_pos (by omega)]; decide) (by decide) ?_
                            refine Ev.blk (pc' := 158) [(.iconst (-1), 0, 0, 0)] (by decide +kernel) trivial rfl (?_)
                            show Ev l d mi_X10_has 158 [some (.ref 65), some (.int p0)] [.int (Int32.ofInt (-1))] (hp s) 0 0 _
                            cases hf
                            exact Ev.iret .int rfl rfl (by decide +kernel) (Nat.le_refl _) (Nat.le_refl _)
def f_X10_letter_L69 (k90 : Int32 → Int64 → Int32 → ST → Option (Int32 × ST)) : Nat → Int32 → Int64 → Int32 → Int64 → ST → Option (Int32 × ST)
  | 0, _, _, _, _, _ => none
  | n + 1, x3, x4, x6, x7, s => (if (lg_cmp x7 (Int64.ofNat ((0 : Fin 2) : Nat))) ≤ 0 then k90 x3 x4 x6 s else (f_X10_letter_L69 k90 n) x3 x4 (x6 + Int32.ofInt 1) (x7 / (Int64.ofInt 27)) s)
set_option maxHeartbeats 2000000 in
set_option maxRecDepth 20000 in
theorem e_X10_letter_L69 {l : Launch} {d : Nat} (hd : 2 ≤ d) (k90 : Int32 → Int64 → Int32 → ST → Option (Int32 × ST)) (hk90 : ∀ (x3 : Int32) (x4 : Int64) (x6 : Int32) (s : ST) (r : Int32 × ST), k90 x3 x4 x6 s = some r → Ev l d mi_X10_letter 90 [none, none, none, some (.int x3), some (.long x4), none, some (.int x6), none, none] [] (hp s) 0 0 (some (.int r.1), hp r.2)) : ∀ (n : Nat) (x3 : Int32) (x4 : Int64) (x6 : Int32) (x7 : Int64) (s : ST) (r : Int32 × ST), f_X10_letter_L69 k90 n x3 x4 x6 x7 s = some r → Ev l d mi_X10_letter 69 [none, none, none, some (.int x3), some (.long x4), none, some (.int x6), some (.long x7), none] [] (hp s) 0 0 (some (.int r.1), hp r.2) := by
  intro n
  induction n with
  | zero =>
    intro x3 x4 x6 x7 s r hf
    cases hf
  | succ n ih =>
    intro x3 x4 x6 x7 s r hf
    unfold f_X10_letter_L69 at hf
    refine Ev.blk (pc' := 73) [(.lload 7, 0, 0, 0), (.lconst 0, 0, 0, 0), (.lcmp, 0, 0, 0)] (by decide +kernel) trivial rfl (?_)
    show Ev l d mi_X10_letter 73 [none, none, none, some (.int x3), some (.long x4), none, some (.int x6), some (.long x7), none] [.int (lg_cmp x7 (Int64.ofNat ((0 : Fin 2) : Nat)))] (hp s) 0 0 _
    refine Ev.if_le (off := 17) (tgt := 90) (by decide +kernel) (by decide) (fun b11 => ?_) (fun b11 => ?_)
    · have hf := (if_pos b11).symm.trans hf
      exact Ev.wk (hk90 x3 x4 x6 s _ hf) (And.intro (Or.inr rfl) (And.intro (Or.inr rfl) (And.intro (Or.inr rfl) (And.intro (Or.inr rfl) (And.intro (Or.inr rfl) (And.intro (Or.inr rfl) (And.intro (Or.inr rfl) (And.intro (Or.inl rfl) (And.intro (Or.inr rfl) (trivial))))))))))
    · have hf := (if_neg b11).symm.trans hf
      refine Ev.blk (pc' := 87) [(.iinc 6 1, 0, 0, 0), (.lload 7, 0, 0, 0), (.ldc2_w 332, 27, 0, 0), (.ldiv, 0, 0, 0), (.lstore 7, 0, 0, 0)] (by decide +kernel) ⟨kl_10_332, trivial⟩ rfl (And.intro (Nat.le_of_ble_eq_true rfl) (And.intro (by decide) (And.intro (Nat.le_of_ble_eq_true rfl) (?_))))
      show Ev l d mi_X10_letter 87 [none, none, none, some (.int x3), some (.long x4), none, some (.int (x6 + Int32.ofInt 1)), some (.long (x7 / (Int64.ofInt 27))), none] [] (hp s) 0 0 _
      refine Ev.goto (off := -18) (tgt := 69) (by decide +kernel) (by decide) ?_
      exact ih x3 x4 (x6 + Int32.ofInt 1) (x7 / (Int64.ofInt 27)) s _ hf
def f_X10_letter_L104 (k124 : Int64 → ST → Option (Int32 × ST)) : Nat → Int32 → Int64 → Int32 → ST → Option (Int32 × ST)
  | 0, _, _, _, _ => none
  | n + 1, x3, x4, x7, s => (if x7 ≤ x3 then k124 x4 s else (f_X10_letter_L104 k124 n) x3 (x4 / (Int64.ofInt 27)) (x7 + Int32.ofInt (-1)) s)
set_option maxHeartbeats 2000000 in
set_option maxRecDepth 20000 in
theorem e_X10_letter_L104 {l : Launch} {d : Nat} (hd : 2 ≤ d) (k124 : Int64 → ST → Option (Int32 × ST)) (hk124 : ∀ (x4 : Int64) (s : ST) (r : Int32 × ST), k124 x4 s = some r → Ev l d mi_X10_letter 124 [none, none, none, none, some (.long x4), none, none, none, none] [] (hp s) 0 0 (some (.int r.1), hp r.2)) : ∀ (n : Nat) (x3 : Int32) (x4 : Int64) (x7 : Int32) (s : ST) (r : Int32 × ST), f_X10_letter_L104 k124 n x3 x4 x7 s = some r → Ev l d mi_X10_letter 104 [none, none, none, some (.int x3), some (.long x4), none, none, some (.int x7), none] [] (hp s) 0 0 (some (.int r.1), hp r.2) := by
  intro n
  induction n with
  | zero =>
    intro x3 x4 x7 s r hf
    cases hf
  | succ n ih =>
    intro x3 x4 x7 s r hf
    unfold f_X10_letter_L104 at hf
    refine Ev.blk (pc' := 107) [(.iload 7, 0, 0, 0), (.iload_n 3, 0, 0, 0)] (by decide +kernel) trivial rfl (?_)
    show Ev l d mi_X10_letter 107 [none, none, none, some (.int x3), some (.long x4), none, none, some (.int x7), none] [.int x3, .int x7] (hp s) 0 0 _
    refine Ev.icmp_le (off := 17) (tgt := 124) (by decide +kernel) (by decide) (fun b13 => ?_) (fun b13 => ?_)
    · have hf := (if_pos b13).symm.trans hf
      exact Ev.wk (hk124 x4 s _ hf) (And.intro (Or.inr rfl) (And.intro (Or.inr rfl) (And.intro (Or.inr rfl) (And.intro (Or.inl rfl) (And.intro (Or.inr rfl) (And.intro (Or.inr rfl) (And.intro (Or.inr rfl) (And.intro (Or.inl rfl) (And.intro (Or.inr rfl) (trivial))))))))))
    · have hf := (if_neg b13).symm.trans hf
      refine Ev.blk (pc' := 121) [(.lload 4, 0, 0, 0), (.ldc2_w 332, 27, 0, 0), (.ldiv, 0, 0, 0), (.lstore 4, 0, 0, 0), (.iinc 7 (-1), 0, 0, 0)] (by decide +kernel) ⟨kl_10_332, trivial⟩ rfl (And.intro (by decide) (And.intro (Nat.le_of_ble_eq_true rfl) (And.intro (Nat.le_of_ble_eq_true rfl) (?_))))
      show Ev l d mi_X10_letter 121 [none, none, none, some (.int x3), some (.long (x4 / (Int64.ofInt 27))), none, none, some (.int (x7 + Int32.ofInt (-1))), none] [] (hp s) 0 0 _
      refine Ev.goto (off := -17) (tgt := 104) (by decide +kernel) (by decide) ?_
      exact ih x3 (x4 / (Int64.ofInt 27)) (x7 + Int32.ofInt (-1)) s _ hf
def f_X10_letter_j124 (x4 : Int64) (s : ST) : Option (Int32 × ST) := some ((x4 - x4 / (Int64.ofInt 27) * (Int64.ofInt 27)).toInt32, s)
set_option maxHeartbeats 2000000 in
set_option maxRecDepth 20000 in
theorem e_X10_letter_j124 {l : Launch} {d : Nat} (hd : 2 ≤ d) (x4 : Int64) (s : ST) (r : Int32 × ST) (hf : f_X10_letter_j124 x4 s = some r) : Ev l d mi_X10_letter 124 [none, none, none, none, some (.long x4), none, none, none, none] [] (hp s) 0 0 (some (.int r.1), hp r.2) := by
  unfold f_X10_letter_j124 at hf
  refine Ev.blk (pc' := 131) [(.lload 4, 0, 0, 0), (.ldc2_w 332, 27, 0, 0), (.lrem, 0, 0, 0), (.l2i, 0, 0, 0)] (by decide +kernel) ⟨kl_10_332, trivial⟩ rfl (And.intro (by decide) (?_))
  show Ev l d mi_X10_letter 131 [none, none, none, none, some (.long x4), none, none, none, none] [.int (x4 - x4 / (Int64.ofInt 27) * (Int64.ofInt 27)).toInt32] (hp s) 0 0 _
  cases hf
  exact Ev.iret .int rfl rfl (by decide +kernel) (Nat.le_refl _) (Nat.le_refl _)
def f_X10_letter_j90 (x3 : Int32) (x4 : Int64) (x6 : Int32) (s : ST) : Option (Int32 × ST) := (if x3 < x6 then (f_X10_letter_L104 f_X10_letter_j124 fuel) x3 x4 (x6 - (Int32.ofInt 1)) s else some ((Int32.ofInt 0), s))
set_option maxHeartbeats 2000000 in
set_option maxRecDepth 20000 in
theorem e_X10_letter_j90 {l : Launch} {d : Nat} (hd : 2 ≤ d) (x3 : Int32) (x4 : Int64) (x6 : Int32) (s : ST) (r : Int32 × ST) (hf : f_X10_letter_j90 x3 x4 x6 s = some r) : Ev l d mi_X10_letter 90 [none, none, none, some (.int x3), some (.long x4), none, some (.int x6), none, none] [] (hp s) 0 0 (some (.int r.1), hp r.2) := by
  unfold f_X10_letter_j90 at hf
  refine Ev.blk (pc' := 93) [(.iload_n 3, 0, 0, 0), (.iload 6, 0, 0, 0)] (by decide +kernel) trivial rfl (?_)
  show Ev l d mi_X10_letter 93 [none, none, none, some (.int x3), some (.long x4), none, some (.int x6), none, none] [.int x6, .int x3] (hp s) 0 0 _
  refine Ev.icmp_lt (off := 5) (tgt := 98) (by decide +kernel) (by decide) (fun b12 => ?_) (fun b12 => ?_)
  · have hf := (if_pos b12).symm.trans hf
    refine Ev.blk (pc' := 104) [(.iload 6, 0, 0, 0), (.iconst 1, 0, 0, 0), (.isub, 0, 0, 0), (.istore 7, 0, 0, 0)] (by decide +kernel) trivial rfl (And.intro (Nat.le_of_ble_eq_true rfl) (?_))
    show Ev l d mi_X10_letter 104 [none, none, none, some (.int x3), some (.long x4), none, some (.int x6), some (.int (x6 - (Int32.ofInt 1))), none] [] (hp s) 0 0 _
    exact Ev.wk ((e_X10_letter_L104 hd f_X10_letter_j124 (e_X10_letter_j124 hd) fuel) x3 x4 (x6 - (Int32.ofInt 1)) s _ hf) (And.intro (Or.inr rfl) (And.intro (Or.inr rfl) (And.intro (Or.inr rfl) (And.intro (Or.inr rfl) (And.intro (Or.inr rfl) (And.intro (Or.inr rfl) (And.intro (Or.inl rfl) (And.intro (Or.inr rfl) (And.intro (Or.inr rfl) (trivial))))))))))
  · have hf := (if_neg b12).symm.trans hf
    refine Ev.blk (pc' := 97) [(.iconst 0, 0, 0, 0)] (by decide +kernel) trivial rfl (?_)
    show Ev l d mi_X10_letter 97 [none, none, none, some (.int x3), some (.long x4), none, some (.int x6), none, none] [.int (Int32.ofInt 0)] (hp s) 0 0 _
    cases hf
    exact Ev.iret .int rfl rfl (by decide +kernel) (Nat.le_refl _) (Nat.le_refl _)
def f_X10_letter (p0 : Int32) (p1 : Int32) (p2 : Int32) (s : ST) : Option (Int32 × ST) := (f_X10_isIn ((p0).toInt64) (Int64.ofNat ((0 : Fin 2) : Nat)) (Int64.ofInt 2) s).bind (fun q1 => (if q1.1 = 0 then some ((Int32.ofInt (-1)), q1.2) else gd (ib ((Int32.ofInt 3) + p0) 6) (lt (((q1.2.1 101 ((Int32.ofInt 3) + p0).toNatClampNeg) - (Int32.ofInt 1)).toInt64) (fun v4 => (f_X10_isIn ((p1).toInt64) (Int64.ofNat ((0 : Fin 2) : Nat)) v4 q1.2).bind (fun q5 => (if q5.1 = 0 then some ((Int32.ofInt (-1)), q5.2) else (f_X10_isIn ((p2).toInt64) (Int64.ofNat ((0 : Fin 2) : Nat)) (Int64.ofInt 5) q5.2).bind (fun q7 => (if q7.1 = 0 then some ((Int32.ofInt (-1)), q7.2) else gd (ib ((((Int8.ofInt 24).toInt32) + (((Int8.ofInt 8).toInt32) * p0)) + p1) 48) (lt (q7.2.2.1 102 ((((Int8.ofInt 24).toInt32) + (((Int8.ofInt 8).toInt32) * p0)) + p1).toNatClampNeg) (fun v10 => (f_X10_letter_L69 f_X10_letter_j90 fuel) p2 v10 (Int32.ofInt 0) v10 q7.2))))))))))
set_option maxHeartbeats 2000000 in
set_option maxRecDepth 20000 in
theorem e_X10_letter {l : Launch} {d : Nat} (hd : 2 ≤ d) (p0 : Int32) (p1 : Int32) (p2 : Int32) (s : ST) (r : Int32 × ST) (hf : f_X10_letter p0 p1 p2 s = some r) : Cl l d mi_X10_letter [.ref 65, .int p0, .int p1, .int p2] (hp s) (some (.int r.1), hp r.2) := by
  refine Ev.entry (by decide +kernel) rfl rfl ?_
  show Ev l d mi_X10_letter 0 [some (.ref 65), some (.int p0), some (.int p1), some (.int p2), none, none, none, none, none] [] (hp s) 0 0 _
  unfold f_X10_letter at hf
  refine Ev.blk (pc' := 6) [(.iload_n 1, 0, 0, 0), (.i2l, 0, 0, 0), (.lconst 0, 0, 0, 0), (.ldc2_w 593, 2, 0, 0)] (by decide +kernel) ⟨kl_10_593, trivial⟩ rfl (?_)
  show Ev l d mi_X10_letter 6 [some (.ref 65), some (.int p0), some (.int p1), some (.int p2), none, none, none, none, none] [.long (Int64.ofInt 2), .long (Int64.ofNat ((0 : Fin 2) : Nat)), .long (p0).toInt64] (hp s) 0 0 _
  obtain ⟨q1, hq1, hf⟩ := bd_some hf
  refine Ev.callS (M' := mi_X10_isIn) (d' := d - 1) (As := [.long (p0).toInt64, .long (Int64.ofNat ((0 : Fin 2) : Nat)), .long (Int64.ofInt 2)]) (rest := []) (r' := (some (.int q1.1), hp q1.2)) (e_X10_isIn (d := d - 1) (by omega) ((p0).toInt64) (Int64.ofNat ((0 : Fin 2) : Nat)) (Int64.ofInt 2) s _ hq1) (by omega) wm_X10_isIn wt_X10_isIn km_10_321 rfl rfl rfl (Nat.le_of_ble_eq_true rfl) ⟨Nat.le_of_ble_eq_true rfl, Nat.le_of_ble_eq_true rfl⟩ (by decide +kernel) ?_
  show Ev l d mi_X10_letter 9 [some (.ref 65), some (.int p0), some (.int p1), some (.int p2), none, none, none, none, none] [.int q1.1] (hp q1.2) 0 0 _
  refine Ev.if_eq (off := 35) (tgt := 44) (by decide +kernel) (by decide) (fun b2 => ?_) (fun b2 => ?_)
  · have hf := (if_pos b2).symm.trans hf
    refine Ev.blk (pc' := 45) [(.iconst (-1), 0, 0, 0)] (by decide +kernel) trivial rfl (?_)
    show Ev l d mi_X10_letter 45 [some (.ref 65), some (.int p0), some (.int p1), some (.int p2), none, none, none, none, none] [.int (Int32.ofInt (-1))] (hp q1.2) 0 0 _
    cases hf
    exact Ev.iret .int rfl rfl (by decide +kernel) (Nat.le_refl _) (Nat.le_refl _)
  · have hf := (if_neg b2).symm.trans hf
    obtain ⟨c3, hf⟩ := gd_some hf
    obtain ⟨v4, hv4, hf⟩ := lt_some hf
    refine Ev.blk (pc' := 26) [(.iload_n 2, 0, 0, 0), (.i2l, 0, 0, 0), (.lconst 0, 0, 0, 0), (.aload_n 0, 0, 0, 0), (.getfield 120, 0, 10, 45), (.iconst 3, 0, 0, 0), (.iload_n 1, 0, 0, 0), (.iadd, 0, 0, 0), (.iaload, 0, 0, 0), (.iconst 1, 0, 0, 0), (.isub, 0, 0, 0), (.i2l, 0, 0, 0)] (by decide +kernel) ⟨kf_10_120, trivial⟩ rfl (And.intro (kc rfl rfl) (Exists.intro 101 (And.intro rfl (And.intro (kc rfl rfl) (And.intro (ib_ok c3) (?_))))))
    show Ev l d mi_X10_letter 26 [some (.ref 65), some (.int p0), some (.int p1), some (.int p2), none, none, none, none, none] [.long ((q1.2.1 101 ((Int32.ofInt 3) + p0).toNatClampNeg) - (Int32.ofInt 1)).toInt64, .long (Int64.ofNat ((0 : Fin 2) : Nat)), .long (p1).toInt64] (hp q1.2) 0 0 _
    rw [← hv4]
    obtain ⟨q5, hq5, hf⟩ := bd_some hf
    refine Ev.callS (M' := mi_X10_isIn) (d' := d - 1) (As := [.long (p1).toInt64, .long (Int64.ofNat ((0 : Fin 2) : Nat)), .long v4]) (rest := []) (r' := (some (.int q5.1), hp q5.2)) (e_X10_isIn (d := d - 1) (by omega) ((p1).toInt64) (Int64.ofNat ((0 : Fin 2) : Nat)) v4 q1.2 _ hq5) (by omega) wm_X10_isIn wt_X10_isIn km_10_321 rfl rfl rfl (Nat.le_of_ble_eq_true rfl) ⟨Nat.le_of_ble_eq_true rfl, Nat.le_of_ble_eq_true rfl⟩ (by decide +kernel) ?_
    show Ev l d mi_X10_letter 29 [some (.ref 65), some (.int p0), some (.int p1), some (.int p2), none, none, none, none, none] [.int q5.1] (hp q5.2) 0 0 _
    refine Ev.if_eq (off := 15) (tgt := 44) (by decide +kernel) (by decide) (fun b6 => ?_) (fun b6 => ?_)
    · have hf := (if_pos b6).symm.trans hf
      refine Ev.blk (pc' := 45) [(.iconst (-1), 0, 0, 0)] (by decide +kernel) trivial rfl (?_)
      show Ev l d mi_X10_letter 45 [some (.ref 65), some (.int p0), some (.int p1), some (.int p2), none, none, none, none, none] [.int (Int32.ofInt (-1))] (hp q5.2) 0 0 _
      cases hf
      exact Ev.iret .int rfl rfl (by decide +kernel) (Nat.le_refl _) (Nat.le_refl _)
    · have hf := (if_neg b6).symm.trans hf
      refine Ev.blk (pc' := 38) [(.iload_n 3, 0, 0, 0), (.i2l, 0, 0, 0), (.lconst 0, 0, 0, 0), (.ldc2_w 595, 5, 0, 0)] (by decide +kernel) ⟨kl_10_595, trivial⟩ rfl (?_)
      show Ev l d mi_X10_letter 38 [some (.ref 65), some (.int p0), some (.int p1), some (.int p2), none, none, none, none, none] [.long (Int64.ofInt 5), .long (Int64.ofNat ((0 : Fin 2) : Nat)), .long (p2).toInt64] (hp q5.2) 0 0 _
      obtain ⟨q7, hq7, hf⟩ := bd_some hf
      refine Ev.callS (M' := mi_X10_isIn) (d' := d - 1) (As := [.long (p2).toInt64, .long (Int64.ofNat ((0 : Fin 2) : Nat)), .long (Int64.ofInt 5)]) (rest := []) (r' := (some (.int q7.1), hp q7.2)) (e_X10_isIn (d := d - 1) (by omega) ((p2).toInt64) (Int64.ofNat ((0 : Fin 2) : Nat)) (Int64.ofInt 5) q5.2 _ hq7) (by omega) wm_X10_isIn wt_X10_isIn km_10_321 rfl rfl rfl (Nat.le_of_ble_eq_true rfl) ⟨Nat.le_of_ble_eq_true rfl, Nat.le_of_ble_eq_true rfl⟩ (by decide +kernel) ?_
      show Ev l d mi_X10_letter 41 [some (.ref 65), some (.int p0), some (.int p1), some (.int p2), none, none, none, none, none] [.int q7.1] (hp q7.2) 0 0 _
      refine Ev.if_ne (off := 5) (tgt := 46) (by decide +kernel) (by decide) (fun b8 => ?_) (fun b8 => ?_)
      · have hf := (if_neg b8).symm.trans hf
        obtain ⟨c9, hf⟩ := gd_some hf
        obtain ⟨v10, hv10, hf⟩ := lt_some hf
        refine Ev.blk (pc' := 69) [(.aload_n 0, 0, 0, 0), (.getfield 123, 0, 10, 46), (.bipush 24, 0, 0, 0), (.bipush 8, 0, 0, 0), (.iload_n 1, 0, 0, 0), (.imul, 0, 0, 0), (.iadd, 0, 0, 0), (.iload_n 2, 0, 0, 0), (.iadd, 0, 0, 0), (.laload, 0, 0, 0), (.lstore 4, 0, 0, 0), (.iconst 0, 0, 0, 0), (.istore 6, 0, 0, 0), (.lload 4, 0, 0, 0), (.lstore 7, 0, 0, 0)] (by decide +kernel) ⟨kf_10_123, trivial⟩ rfl (And.intro (kc rfl rfl) (Exists.intro 102 (And.intro rfl (And.intro (kc rfl rfl) (And.intro (ib_ok c9) (And.intro (Nat.le_of_ble_eq_true rfl) (And.intro (Nat.le_of_ble_eq_true rfl) (And.intro (Nat.le_of_ble_eq_true rfl) (?_)))))))))
        show Ev l d mi_X10_letter 69 [some (.ref 65), some (.int p0), some (.int p1), some (.int p2), some (.long (q7.2.2.1 102 ((((Int8.ofInt 24).toInt32) + (((Int8.ofInt 8).toInt32) * p0)) + p1).toNatClampNeg)), none, some (.int (Int32.ofInt 0)), some (.long (q7.2.2.1 102 ((((Int8.ofInt 24).toInt32) + (((Int8.ofInt 8).toInt32) * p0)) + p1).toNatClampNeg)), none] [] (hp q7.2) 0 0 _
        rw [← hv10]
        exact Ev.wk ((e_X10_letter_L69 hd f_X10_letter_j90 (e_X10_letter_j90 hd) fuel) p2 v10 (Int32.ofInt 0) v10 q7.2 _ hf) (And.intro (Or.inl rfl) (And.intro (Or.inl rfl) (And.intro (Or.inl rfl) (And.intro (Or.inr rfl) (And.intro (Or.inr rfl) (And.intro (Or.inr rfl) (And.intro (Or.inr rfl) (And.intro (Or.inr rfl) (And.intro (Or.inr rfl) (trivial))))))))))
      · have hf := (if_pos b8).symm.trans hf
        refine Ev.blk (pc' := 45) [(.iconst (-1), 0, 0, 0)] (by decide +kernel) trivial rfl (?_)
        show Ev l d mi_X10_letter 45 [some (.ref 65), some (.int p0), some (.int p1), some (.int p2), none, none, none, none, none] [.int (Int32.ofInt (-1))] (hp q7.2) 0 0 _
        cases hf
        exact Ev.iret .int rfl rfl (by decide +kernel) (Nat.le_refl _) (Nat.le_refl _)
def f_X10_kind (p0 : Int32) (p1 : Int32) (s : ST) : Option (Int32 × ST) := gd (ib (Int32.ofInt 3) 6) (lt (((s.1 101 (Int32.ofInt 3).toNatClampNeg) - (Int32.ofInt 1)).toInt64) (fun v2 => (f_X10_isIn ((p0).toInt64) (Int64.ofNat ((0 : Fin 2) : Nat)) v2 s).bind (fun q3 => (if q3.1 = 0 then some ((Int32.ofInt (-1)), q3.2) else (f_X10_isIn ((p1).toInt64) (Int64.ofNat ((0 : Fin 2) : Nat)) (Int64.ofInt 3) q3.2).bind (fun q5 => (if q5.1 = 0 then some ((Int32.ofInt (-1)), q5.2) else gd (ib ((((Int8.ofInt 20).toInt32) + ((Int32.ofInt 4) * p0)) + p1) 40) (lt (q5.2.1 104 ((((Int8.ofInt 20).toInt32) + ((Int32.ofInt 4) * p0)) + p1).toNatClampNeg) (fun v8 => some (v8, q5.2)))))))))
set_option maxHeartbeats 2000000 in
set_option maxRecDepth 20000 in
theorem e_X10_kind {l : Launch} {d : Nat} (hd : 2 ≤ d) (p0 : Int32) (p1 : Int32) (s : ST) (r : Int32 × ST) (hf : f_X10_kind p0 p1 s = some r) : Cl l d mi_X10_kind [.ref 65, .int p0, .int p1] (hp s) (some (.int r.1), hp r.2) := by
  refine Ev.entry (by decide +kernel) rfl rfl ?_
  show Ev l d mi_X10_kind 0 [some (.ref 65), some (.int p0), some (.int p1)] [] (hp s) 0 0 _
  unfold f_X10_kind at hf
  obtain ⟨c1, hf⟩ := gd_some hf
  obtain ⟨v2, hv2, hf⟩ := lt_some hf
  refine Ev.blk (pc' := 12) [(.iload_n 1, 0, 0, 0), (.i2l, 0, 0, 0), (.lconst 0, 0, 0, 0), (.aload_n 0, 0, 0, 0), (.getfield 120, 0, 10, 45), (.iconst 3, 0, 0, 0), (.iaload, 0, 0, 0), (.iconst 1, 0, 0, 0), (.isub, 0, 0, 0), (.i2l, 0, 0, 0)] (by decide +kernel) ⟨kf_10_120, trivial⟩ rfl (And.intro (kc rfl rfl) (Exists.intro 101 (And.intro rfl (And.intro (kc rfl rfl) (And.intro (ib_ok c1) (?_))))))
  show Ev l d mi_X10_kind 12 [some (.ref 65), some (.int p0), some (.int p1)] [.long ((s.1 101 (Int32.ofInt 3).toNatClampNeg) - (Int32.ofInt 1)).toInt64, .long (Int64.ofNat ((0 : Fin 2) : Nat)), .long (p0).toInt64] (hp s) 0 0 _
  rw [← hv2]
  obtain ⟨q3, hq3, hf⟩ := bd_some hf
  refine Ev.callS (M' := mi_X10_isIn) (d' := d - 1) (As := [.long (p0).toInt64, .long (Int64.ofNat ((0 : Fin 2) : Nat)), .long v2]) (rest := []) (r' := (some (.int q3.1), hp q3.2)) (e_X10_isIn (d := d - 1) (by omega) ((p0).toInt64) (Int64.ofNat ((0 : Fin 2) : Nat)) v2 s _ hq3) (by omega) wm_X10_isIn wt_X10_isIn km_10_321 rfl rfl rfl (Nat.le_of_ble_eq_true rfl) ⟨Nat.le_of_ble_eq_true rfl, Nat.le_of_ble_eq_true rfl⟩ (by decide +kernel) ?_
  show Ev l d mi_X10_kind 15 [some (.ref 65), some (.int p0), some (.int p1)] [.int q3.1] (hp q3.2) 0 0 _
  refine Ev.if_eq (off := 31) (tgt := 46) (by decide +kernel) (by decide) (fun b4 => ?_) (fun b4 => ?_)
  · have hf := (if_pos b4).symm.trans hf
    refine Ev.blk (pc' := 47) [(.iconst (-1), 0, 0, 0)] (by decide +kernel) trivial rfl (?_)
    show Ev l d mi_X10_kind 47 [some (.ref 65), some (.int p0), some (.int p1)] [.int (Int32.ofInt (-1))] (hp q3.2) 0 0 _
    cases hf
    exact Ev.iret .int rfl rfl (by decide +kernel) (Nat.le_refl _) (Nat.le_refl _)
  · have hf := (if_neg b4).symm.trans hf
    refine Ev.blk (pc' := 24) [(.iload_n 2, 0, 0, 0), (.i2l, 0, 0, 0), (.lconst 0, 0, 0, 0), (.ldc2_w 597, 3, 0, 0)] (by decide +kernel) ⟨kl_10_597, trivial⟩ rfl (?_)
    show Ev l d mi_X10_kind 24 [some (.ref 65), some (.int p0), some (.int p1)] [.long (Int64.ofInt 3), .long (Int64.ofNat ((0 : Fin 2) : Nat)), .long (p1).toInt64] (hp q3.2) 0 0 _
    obtain ⟨q5, hq5, hf⟩ := bd_some hf
    refine Ev.callS (M' := mi_X10_isIn) (d' := d - 1) (As := [.long (p1).toInt64, .long (Int64.ofNat ((0 : Fin 2) : Nat)), .long (Int64.ofInt 3)]) (rest := []) (r' := (some (.int q5.1), hp q5.2)) (e_X10_isIn (d := d - 1) (by omega) ((p1).toInt64) (Int64.ofNat ((0 : Fin 2) : Nat)) (Int64.ofInt 3) q3.2 _ hq5) (by omega) wm_X10_isIn wt_X10_isIn km_10_321 rfl rfl rfl (Nat.le_of_ble_eq_true rfl) ⟨Nat.le_of_ble_eq_true rfl, Nat.le_of_ble_eq_true rfl⟩ (by decide +kernel) ?_
    show Ev l d mi_X10_kind 27 [some (.ref 65), some (.int p0), some (.int p1)] [.int q5.1] (hp q5.2) 0 0 _
    refine Ev.if_eq (off := 19) (tgt := 46) (by decide +kernel) (by decide) (fun b6 => ?_) (fun b6 => ?_)
    · have hf := (if_pos b6).symm.trans hf
      refine Ev.blk (pc' := 47) [(.iconst (-1), 0, 0, 0)] (by decide +kernel) trivial rfl (?_)
      show Ev l d mi_X10_kind 47 [some (.ref 65), some (.int p0), some (.int p1)] [.int (Int32.ofInt (-1))] (hp q5.2) 0 0 _
      cases hf
      exact Ev.iret .int rfl rfl (by decide +kernel) (Nat.le_refl _) (Nat.le_refl _)
    · have hf := (if_neg b6).symm.trans hf
      obtain ⟨c7, hf⟩ := gd_some hf
      obtain ⟨v8, hv8, hf⟩ := lt_some hf
      refine Ev.blk (pc' := 43) [(.aload_n 0, 0, 0, 0), (.getfield 130, 0, 10, 48), (.bipush 20, 0, 0, 0), (.iconst 4, 0, 0, 0), (.iload_n 1, 0, 0, 0), (.imul, 0, 0, 0), (.iadd, 0, 0, 0), (.iload_n 2, 0, 0, 0), (.iadd, 0, 0, 0), (.iaload, 0, 0, 0)] (by decide +kernel) ⟨kf_10_130, trivial⟩ rfl (And.intro (kc rfl rfl) (Exists.intro 104 (And.intro rfl (And.intro (kc rfl rfl) (And.intro (ib_ok c7) (?_))))))
      show Ev l d mi_X10_kind 43 [some (.ref 65), some (.int p0), some (.int p1)] [.int (q5.2.1 104 ((((Int8.ofInt 20).toInt32) + ((Int32.ofInt 4) * p0)) + p1).toNatClampNeg)] (hp q5.2) 0 0 _
      rw [← hv8]
      refine Ev.goto (off := 4) (tgt := 47) (by decide +kernel) (by decide) ?_
      cases hf
      exact Ev.iret .int rfl rfl (by decide +kernel) (Nat.le_refl _) (Nat.le_refl _)
def f_X10_man (p0 : Int32) (p1 : Int32) (s : ST) : Option (Int32 × ST) := (f_X10_isMan p0 s).bind (fun q1 => (if q1.1 = 0 then some ((Int32.ofInt (-1)), q1.2) else (if p1 = 0 then (f_X10_columnOf p0 q1.2).bind (fun q4 => some (q4.1, q4.2)) else (if p1 = 1 then (f_X10_rowOf p0 q1.2).bind (fun q6 => some (q6.1, q6.2)) else (if p1 = 2 then (f_X10_kindOf p0 q1.2).bind (fun q8 => some (q8.1, q8.2)) else (if p1 = 3 then (f_X10_sideOf p0 q1.2).bind (fun q10 => some (q10.1, q10.2)) else (if p1 = 4 then (f_X10_isTaken p0 q1.2).bind (fun q12 => (if q12.1 = 0 then (f_X10_movesOf p0 q12.2).bind (fun q14 => some (q14.1, q14.2)) else some ((Int32.ofInt 0), q12.2))) else (some ((Int32.ofInt (-1)), q1.2)))))))))
set_option maxHeartbeats 2000000 in
set_option maxRecDepth 20000 in
theorem e_X10_man {l : Launch} {d : Nat} (hd : 6 ≤ d) (p0 : Int32) (p1 : Int32) (s : ST) (r : Int32 × ST) (hf : f_X10_man p0 p1 s = some r) : Cl l d mi_X10_man [.ref 65, .int p0, .int p1] (hp s) (some (.int r.1), hp r.2) := by
  refine Ev.entry (by decide +kernel) rfl rfl ?_
  show Ev l d mi_X10_man 0 [some (.ref 65), some (.int p0), some (.int p1)] [] (hp s) 0 0 _
  unfold f_X10_man at hf
  refine Ev.blk (pc' := 2) [(.aload_n 0, 0, 0, 0), (.iload_n 1, 0, 0, 0)] (by decide +kernel) trivial rfl (?_)
  show Ev l d mi_X10_man 2 [some (.ref 65), some (.int p0), some (.int p1)] [.int p0, .ref 65] (hp s) 0 0 _
  obtain ⟨q1, hq1, hf⟩ := bd_some hf
  refine Ev.callV (o := 65) (M' := mi_X10_isMan) (d' := d - 1) (As := [.int p0]) (rest := []) (r' := (some (.int q1.1), hp q1.2)) (e_X10_isMan (d := d - 1) (by omega) p0 s _ hq1) (by omega) wm_X10_isMan wi_X10_isMan wv_X10_isMan km_10_599 (kc rfl rfl) (Nat.le_of_ble_eq_true rfl) rfl rfl rfl (Nat.le_of_ble_eq_true rfl) ⟨Nat.le_of_ble_eq_true rfl, Nat.le_of_ble_eq_true rfl⟩ (by decide +kernel) ?_
  show Ev l d mi_X10_man 5 [some (.ref 65), some (.int p0), some (.int p1)] [.int q1.1] (hp q1.2) 0 0 _
  refine Ev.if_ne (off := 5) (tgt := 10) (by decide +kernel) (by decide) (fun b2 => ?_) (fun b2 => ?_)
  · have hf := (if_neg b2).symm.trans hf
    refine Ev.blk (pc' := 11) [(.iload_n 2, 0, 0, 0)] (by decide +kernel) trivial rfl (?_)
    show Ev l d mi_X10_man 11 [some (.ref 65), some (.int p0), some (.int p1)] [.int p1] (hp q1.2) 0 0 _
    by_cases b3 : p1 = 0
    · have hf := (if_pos b3).symm.trans hf
      refine Ev.tswitch (dflt := 75) (lo := 0) (hi := 4) (offs := #[33, 39, 45, 51, 57]) (len := 33) (tgt := 44) (by decide +kernel) (by rw [b3]; decide) (by decide) ?_
      refine Ev.blk (pc' := 46) [(.aload_n 0, 0, 0, 0), (.iload_n 1, 0, 0, 0)] (by decide +kernel) trivial rfl (?_)
      show Ev l d mi_X10_man 46 [some (.ref 65), some (.int p0), some (.int p1)] [.int p0, .ref 65] (hp q1.2) 0 0 _
      obtain ⟨q4, hq4, hf⟩ := bd_some hf
      refine Ev.callV (o := 65) (M' := mi_X10_columnOf) (d' := d - 1) (As := [.int p0]) (rest := []) (r' := (some (.int q4.1), hp q4.2)) (e_X10_columnOf (d := d - 1) (by omega) p0 q1.2 _ hq4) (by omega) wm_X10_columnOf wi_X10_columnOf wv_X10_columnOf km_10_439 (kc rfl rfl) (Nat.le_of_ble_eq_true rfl) rfl rfl rfl (Nat.le_of_ble_eq_true rfl) ⟨Nat.le_of_ble_eq_true rfl, Nat.le_of_ble_eq_true rfl⟩ (by decide +kernel) ?_
      show Ev l d mi_X10_man 49 [some (.ref 65), some (.int p0), some (.int p1)] [.int q4.1] (hp q4.2) 0 0 _
      cases hf
      exact Ev.iret .int rfl rfl (by decide +kernel) (Nat.le_refl _) (Nat.le_refl _)
    · have hf := (if_neg b3).symm.trans hf
      by_cases b5 : p1 = 1
      · have hf := (if_pos b5).symm.trans hf
        refine Ev.tswitch (dflt := 75) (lo := 0) (hi := 4) (offs := #[33, 39, 45, 51, 57]) (len := 33) (tgt := 50) (by decide +kernel) (by rw [b5]; decide) (by decide) ?_
        refine Ev.blk (pc' := 52) [(.aload_n 0, 0, 0, 0), (.iload_n 1, 0, 0, 0)] (by decide +kernel) trivial rfl (?_)
        show Ev l d mi_X10_man 52 [some (.ref 65), some (.int p0), some (.int p1)] [.int p0, .ref 65] (hp q1.2) 0 0 _
        obtain ⟨q6, hq6, hf⟩ := bd_some hf
        refine Ev.callV (o := 65) (M' := mi_X10_rowOf) (d' := d - 1) (As := [.int p0]) (rest := []) (r' := (some (.int q6.1), hp q6.2)) (e_X10_rowOf (d := d - 1) (by omega) p0 q1.2 _ hq6) (by omega) wm_X10_rowOf wi_X10_rowOf wv_X10_rowOf km_10_446 (kc rfl rfl) (Nat.le_of_ble_eq_true rfl) rfl rfl rfl (Nat.le_of_ble_eq_true rfl) ⟨Nat.le_of_ble_eq_true rfl, Nat.le_of_ble_eq_true rfl⟩ (by decide +kernel) ?_
        show Ev l d mi_X10_man 55 [some (.ref 65), some (.int p0), some (.int p1)] [.int q6.1] (hp q6.2) 0 0 _
        cases hf
        exact Ev.iret .int rfl rfl (by decide +kernel) (Nat.le_refl _) (Nat.le_refl _)
      · have hf := (if_neg b5).symm.trans hf
        by_cases b7 : p1 = 2
        · have hf := (if_pos b7).symm.trans hf
          refine Ev.tswitch (dflt := 75) (lo := 0) (hi := 4) (offs := #[33, 39, 45, 51, 57]) (len := 33) (tgt := 56) (by decide +kernel) (by rw [b7]; decide) (by decide) ?_
          refine Ev.blk (pc' := 58) [(.aload_n 0, 0, 0, 0), (.iload_n 1, 0, 0, 0)] (by decide +kernel) trivial rfl (?_)
          show Ev l d mi_X10_man 58 [some (.ref 65), some (.int p0), some (.int p1)] [.int p0, .ref 65] (hp q1.2) 0 0 _
          obtain ⟨q8, hq8, hf⟩ := bd_some hf
          refine Ev.callV (o := 65) (M' := mi_X10_kindOf) (d' := d - 1) (As := [.int p0]) (rest := []) (r' := (some (.int q8.1), hp q8.2)) (e_X10_kindOf (d := d - 1) (by omega) p0 q1.2 _ hq8) (by omega) wm_X10_kindOf wi_X10_kindOf wv_X10_kindOf km_10_443 (kc rfl rfl) (Nat.le_of_ble_eq_true rfl) rfl rfl rfl (Nat.le_of_ble_eq_true rfl) ⟨Nat.le_of_ble_eq_true rfl, Nat.le_of_ble_eq_true rfl⟩ (by decide +kernel) ?_
          show Ev l d mi_X10_man 61 [some (.ref 65), some (.int p0), some (.int p1)] [.int q8.1] (hp q8.2) 0 0 _
          cases hf
          exact Ev.iret .int rfl rfl (by decide +kernel) (Nat.le_refl _) (Nat.le_refl _)
        · have hf := (if_neg b7).symm.trans hf
          by_cases b9 : p1 = 3
          · have hf := (if_pos b9).symm.trans hf
            refine Ev.tswitch (dflt := 75) (lo := 0) (hi := 4) (offs := #[33, 39, 45, 51, 57]) (len := 33) (tgt := 62) (by decide +kernel) (by rw [b9]; decide) (by decide) ?_
            refine Ev.blk (pc' := 64) [(.aload_n 0, 0, 0, 0), (.iload_n 1, 0, 0, 0)] (by decide +kernel) trivial rfl (?_)
            show Ev l d mi_X10_man 64 [some (.ref 65), some (.int p0), some (.int p1)] [.int p0, .ref 65] (hp q1.2) 0 0 _
            obtain ⟨q10, hq10, hf⟩ := bd_some hf
            refine Ev.callV (o := 65) (M' := mi_X10_sideOf) (d' := d - 1) (As := [.int p0]) (rest := []) (r' := (some (.int q10.1), hp q10.2)) (e_X10_sideOf (d := d - 1) (by omega) p0 q1.2 _ hq10) (by omega) wm_X10_sideOf wi_X10_sideOf wv_X10_sideOf km_10_468 (kc rfl rfl) (Nat.le_of_ble_eq_true rfl) rfl rfl rfl (Nat.le_of_ble_eq_true rfl) ⟨Nat.le_of_ble_eq_true rfl, Nat.le_of_ble_eq_true rfl⟩ (by decide +kernel) ?_
            show Ev l d mi_X10_man 67 [some (.ref 65), some (.int p0), some (.int p1)] [.int q10.1] (hp q10.2) 0 0 _
            cases hf
            exact Ev.iret .int rfl rfl (by decide +kernel) (Nat.le_refl _) (Nat.le_refl _)
          · have hf := (if_neg b9).symm.trans hf
            by_cases b11 : p1 = 4
            · have hf := (if_pos b11).symm.trans hf
              refine Ev.tswitch (dflt := 75) (lo := 0) (hi := 4) (offs := #[33, 39, 45, 51, 57]) (len := 33) (tgt := 68) (by decide +kernel) (by rw [b11]; decide) (by decide) ?_
              refine Ev.blk (pc' := 70) [(.aload_n 0, 0, 0, 0), (.iload_n 1, 0, 0, 0)] (by decide +kernel) trivial rfl (?_)
              show Ev l d mi_X10_man 70 [some (.ref 65), some (.int p0), some (.int p1)] [.int p0, .ref 65] (hp q1.2) 0 0 _
              obtain ⟨q12, hq12, hf⟩ := bd_some hf
              refine Ev.callV (o := 65) (M' := mi_X10_isTaken) (d' := d - 1) (As := [.int p0]) (rest := []) (r' := (some (.int q12.1), hp q12.2)) (e_X10_isTaken (d := d - 1) (by omega) p0 q1.2 _ hq12) (by omega) wm_X10_isTaken wi_X10_isTaken wv_X10_isTaken km_10_458 (kc rfl rfl) (Nat.le_of_ble_eq_true rfl) rfl rfl rfl (Nat.le_of_ble_eq_true rfl) ⟨Nat.le_of_ble_eq_true rfl, Nat.le_of_ble_eq_true rfl⟩ (by decide +kernel) ?_
              show Ev l d mi_X10_man 73 [some (.ref 65), some (.int p0), some (.int p1)] [.int q12.1] (hp q12.2) 0 0 _
              refine Ev.if_eq (off := 7) (tgt := 80) (by decide +kernel) (by decide) (fun b13 => ?_) (fun b13 => ?_)
              · have hf := (if_pos b13).symm.trans hf
                refine Ev.blk (pc' := 82) [(.aload_n 0, 0, 0, 0), (.iload_n 1, 0, 0, 0)] (by decide +kernel) trivial rfl (?_)
                show Ev l d mi_X10_man 82 [some (.ref 65), some (.int p0), some (.int p1)] [.int p0, .ref 65] (hp q12.2) 0 0 _
                obtain ⟨q14, hq14, hf⟩ := bd_some hf
                refine Ev.callV (o := 65) (M' := mi_X10_movesOf) (d' := d - 1) (As := [.int p0]) (rest := []) (r' := (some (.int q14.1), hp q14.2)) (e_X10_movesOf (d := d - 1) (by omega) p0 q12.2 _ hq14) (by omega) wm_X10_movesOf wi_X10_movesOf wv_X10_movesOf km_10_478 (kc rfl rfl) (Nat.le_of_ble_eq_true rfl) rfl rfl rfl (Nat.le_of_ble_eq_true rfl) ⟨Nat.le_of_ble_eq_true rfl, Nat.le_of_ble_eq_true rfl⟩ (by decide +kernel) ?_
                show Ev l d mi_X10_man 85 [some (.ref 65), some (.int p0), some (.int p1)] [.int q14.1] (hp q14.2) 0 0 _
                cases hf
                exact Ev.iret .int rfl rfl (by decide +kernel) (Nat.le_refl _) (Nat.le_refl _)
              · have hf := (if_neg b13).symm.trans hf
                refine Ev.blk (pc' := 77) [(.iconst 0, 0, 0, 0)] (by decide +kernel) trivial rfl (?_)
                show Ev l d mi_X10_man 77 [some (.ref 65), some (.int p0), some (.int p1)] [.int (Int32.ofInt 0)] (hp q12.2) 0 0 _
                refine Ev.goto (off := 8) (tgt := 85) (by decide +kernel) (by decide) ?_
                cases hf
                exact Ev.iret .int rfl rfl (by decide +kernel) (Nat.le_refl _) (Nat.le_refl _)
            · have hf := (if_neg b11).symm.trans hf
              refine Ev.tswitch (dflt := 75) (lo := 0) (hi := 4) (offs := #[33, 39, 45, 51, 57]) (len := 33) (tgt := 86) (by decide +kernel) (by have e0 := sw_ne b3 (c := (0)) (by decide); have e1 := sw_ne b5 (c := (1)) (by decide); have e2 := sw_ne b7 (c := (2)) (by decide); have e3 := sw_ne b9 (c := (3)) (by decide); have e4 := sw_ne b11 (c := (4)) (by decide); rw [if_pos (by omega)]; decide) (by decide) ?_
              refine Ev.blk (pc' := 87) [(.iconst (-1), 0, 0, 0)] (by decide +kernel) trivial rfl (?_)
              show Ev l d mi_X10_man 87 [some (.ref 65), some (.int p0), some (.int p1)] [.int (Int32.ofInt (-1))] (hp q1.2) 0 0 _
              cases hf
              exact Ev.iret .int rfl rfl (by decide +kernel) (Nat.le_refl _) (Nat.le_refl _)
  · have hf := (if_pos b2).symm.trans hf
    refine Ev.blk (pc' := 9) [(.iconst (-1), 0, 0, 0)] (by decide +kernel) trivial rfl (?_)
    show Ev l d mi_X10_man 9 [some (.ref 65), some (.int p0), some (.int p1)] [.int (Int32.ofInt (-1))] (hp q1.2) 0 0 _
    cases hf
    exact Ev.iret .int rfl rfl (by decide +kernel) (Nat.le_refl _) (Nat.le_refl _)
def f_X10_field (p0 : Int32) (p1 : Int32) (s : ST) : Option (Int32 × ST) := (f_X10_isField p0 s).bind (fun q1 => (if q1.1 = 0 then some ((Int32.ofInt (-1)), q1.2) else (f_X10_isIn ((p1).toInt64) (Int64.ofNat ((0 : Fin 2) : Nat)) (Int64.ofNat ((1 : Fin 2) : Nat)) q1.2).bind (fun q3 => (if q3.1 = 0 then (if p1 = (Int32.ofInt 2) then gd (ib (((Int8.ofInt 18).toInt32) + p0) 225) (some ((q3.2.1 112 (((Int8.ofInt 18).toInt32) + p0).toNatClampNeg), q3.2)) else some ((Int32.ofInt (-1)), q3.2)) else gd (ib ((((Int8.ofInt 18).toInt32) + ((Int32.ofInt 3) * p0)) + p1) 36) (lt (q3.2.1 107 ((((Int8.ofInt 18).toInt32) + ((Int32.ofInt 3) * p0)) + p1).toNatClampNeg) (fun v8 => some (v8, q3.2)))))))
set_option maxHeartbeats 2000000 in
set_option maxRecDepth 20000 in
theorem e_X10_field {l : Launch} {d : Nat} (hd : 3 ≤ d) (p0 : Int32) (p1 : Int32) (s : ST) (r : Int32 × ST) (hf : f_X10_field p0 p1 s = some r) : Cl l d mi_X10_field [.ref 65, .int p0, .int p1] (hp s) (some (.int r.1), hp r.2) := by
  refine Ev.entry (by decide +kernel) rfl rfl ?_
  show Ev l d mi_X10_field 0 [some (.ref 65), some (.int p0), some (.int p1)] [] (hp s) 0 0 _
  unfold f_X10_field at hf
  refine Ev.blk (pc' := 2) [(.aload_n 0, 0, 0, 0), (.iload_n 1, 0, 0, 0)] (by decide +kernel) trivial rfl (?_)
  show Ev l d mi_X10_field 2 [some (.ref 65), some (.int p0), some (.int p1)] [.int p0, .ref 65] (hp s) 0 0 _
  obtain ⟨q1, hq1, hf⟩ := bd_some hf
  refine Ev.callV (o := 65) (M' := mi_X10_isField) (d' := d - 1) (As := [.int p0]) (rest := []) (r' := (some (.int q1.1), hp q1.2)) (e_X10_isField (d := d - 1) (by omega) p0 s _ hq1) (by omega) wm_X10_isField wi_X10_isField wv_X10_isField km_10_602 (kc rfl rfl) (Nat.le_of_ble_eq_true rfl) rfl rfl rfl (Nat.le_of_ble_eq_true rfl) ⟨Nat.le_of_ble_eq_true rfl, Nat.le_of_ble_eq_true rfl⟩ (by decide +kernel) ?_
  show Ev l d mi_X10_field 5 [some (.ref 65), some (.int p0), some (.int p1)] [.int q1.1] (hp q1.2) 0 0 _
  refine Ev.if_ne (off := 5) (tgt := 10) (by decide +kernel) (by decide) (fun b2 => ?_) (fun b2 => ?_)
  · have hf := (if_neg b2).symm.trans hf
    refine Ev.blk (pc' := 14) [(.iload_n 2, 0, 0, 0), (.i2l, 0, 0, 0), (.lconst 0, 0, 0, 0), (.lconst 1, 0, 0, 0)] (by decide +kernel) trivial rfl (?_)
    show Ev l d mi_X10_field 14 [some (.ref 65), some (.int p0), some (.int p1)] [.long (Int64.ofNat ((1 : Fin 2) : Nat)), .long (Int64.ofNat ((0 : Fin 2) : Nat)), .long (p1).toInt64] (hp q1.2) 0 0 _
    obtain ⟨q3, hq3, hf⟩ := bd_some hf
    refine Ev.callS (M' := mi_X10_isIn) (d' := d - 1) (As := [.long (p1).toInt64, .long (Int64.ofNat ((0 : Fin 2) : Nat)), .long (Int64.ofNat ((1 : Fin 2) : Nat))]) (rest := []) (r' := (some (.int q3.1), hp q3.2)) (e_X10_isIn (d := d - 1) (by omega) ((p1).toInt64) (Int64.ofNat ((0 : Fin 2) : Nat)) (Int64.ofNat ((1 : Fin 2) : Nat)) q1.2 _ hq3) (by omega) wm_X10_isIn wt_X10_isIn km_10_321 rfl rfl rfl (Nat.le_of_ble_eq_true rfl) ⟨Nat.le_of_ble_eq_true rfl, Nat.le_of_ble_eq_true rfl⟩ (by decide +kernel) ?_
    show Ev l d mi_X10_field 17 [some (.ref 65), some (.int p0), some (.int p1)] [.int q3.1] (hp q3.2) 0 0 _
    refine Ev.if_eq (off := 19) (tgt := 36) (by decide +kernel) (by decide) (fun b4 => ?_) (fun b4 => ?_)
    · have hf := (if_pos b4).symm.trans hf
      refine Ev.blk (pc' := 38) [(.iload_n 2, 0, 0, 0), (.iconst 2, 0, 0, 0)] (by decide +kernel) trivial rfl (?_)
      show Ev l d mi_X10_field 38 [some (.ref 65), some (.int p0), some (.int p1)] [.int (Int32.ofInt 2), .int p1] (hp q3.2) 0 0 _
      refine Ev.icmp_ne (off := 15) (tgt := 53) (by decide +kernel) (by decide) (fun b5 => ?_) (fun b5 => ?_)
      · have hf := (if_neg b5).symm.trans hf
        refine Ev.blk (pc' := 54) [(.iconst (-1), 0, 0, 0)] (by decide +kernel) trivial rfl (?_)
        show Ev l d mi_X10_field 54 [some (.ref 65), some (.int p0), some (.int p1)] [.int (Int32.ofInt (-1))] (hp q3.2) 0 0 _
        cases hf
        exact Ev.iret .int rfl rfl (by decide +kernel) (Nat.le_refl _) (Nat.le_refl _)
      · have hf := (if_pos b5).symm.trans hf
        obtain ⟨c6, hf⟩ := gd_some hf
        refine Ev.blk (pc' := 50) [(.aload_n 0, 0, 0, 0), (.getfield 154, 0, 10, 62), (.bipush 18, 0, 0, 0), (.iload_n 1, 0, 0, 0), (.iadd, 0, 0, 0), (.iaload, 0, 0, 0)] (by decide +kernel) ⟨kf_10_154, trivial⟩ rfl (And.intro (kc rfl rfl) (Exists.intro 112 (And.intro rfl (And.intro (kc rfl rfl) (And.intro (ib_ok c6) (?_))))))
        show Ev l d mi_X10_field 50 [some (.ref 65), some (.int p0), some (.int p1)] [.int (q3.2.1 112 (((Int8.ofInt 18).toInt32) + p0).toNatClampNeg)] (hp q3.2) 0 0 _
        refine Ev.goto (off := 4) (tgt := 54) (by decide +kernel) (by decide) ?_
        cases hf
        exact Ev.iret .int rfl rfl (by decide +kernel) (Nat.le_refl _) (Nat.le_refl _)
    · have hf := (if_neg b4).symm.trans hf
      obtain ⟨c7, hf⟩ := gd_some hf
      obtain ⟨v8, hv8, hf⟩ := lt_some hf
      refine Ev.blk (pc' := 33) [(.aload_n 0, 0, 0, 0), (.getfield 139, 0, 10, 51), (.bipush 18, 0, 0, 0), (.iconst 3, 0, 0, 0), (.iload_n 1, 0, 0, 0), (.imul, 0, 0, 0), (.iadd, 0, 0, 0), (.iload_n 2, 0, 0, 0), (.iadd, 0, 0, 0), (.iaload, 0, 0, 0)] (by decide +kernel) ⟨kf_10_139, trivial⟩ rfl (And.intro (kc rfl rfl) (Exists.intro 107 (And.intro rfl (And.intro (kc rfl rfl) (And.intro (ib_ok c7) (?_))))))
      show Ev l d mi_X10_field 33 [some (.ref 65), some (.int p0), some (.int p1)] [.int (q3.2.1 107 ((((Int8.ofInt 18).toInt32) + ((Int32.ofInt 3) * p0)) + p1).toNatClampNeg)] (hp q3.2) 0 0 _
      rw [← hv8]
      refine Ev.goto (off := 21) (tgt := 54) (by decide +kernel) (by decide) ?_
      cases hf
      exact Ev.iret .int rfl rfl (by decide +kernel) (Nat.le_refl _) (Nat.le_refl _)
  · have hf := (if_pos b2).symm.trans hf
    refine Ev.blk (pc' := 9) [(.iconst (-1), 0, 0, 0)] (by decide +kernel) trivial rfl (?_)
    show Ev l d mi_X10_field 9 [some (.ref 65), some (.int p0), some (.int p1)] [.int (Int32.ofInt (-1))] (hp q1.2) 0 0 _
    cases hf
    exact Ev.iret .int rfl rfl (by decide +kernel) (Nat.le_refl _) (Nat.le_refl _)
def f_X10_at (p0 : Int32) (p1 : Int32) (s : ST) : Option (Int32 × ST) := (if (s.1 65 58) = 0 then some ((Int32.ofInt (-1)), s) else gd (ib (Int32.ofInt 4) 8) (lt (((s.1 103 (Int32.ofInt 4).toNatClampNeg) - (Int32.ofInt 1)).toInt64) (fun v3 => (f_X10_isIn ((p0).toInt64) (Int64.ofNat ((0 : Fin 2) : Nat)) v3 s).bind (fun q4 => (if q4.1 = 0 then some ((Int32.ofInt (-1)), q4.2) else gd (ib (Int32.ofInt 5) 8) (lt (((q4.2.1 103 (Int32.ofInt 5).toNatClampNeg) - (Int32.ofInt 1)).toInt64) (fun v7 => (f_X10_isIn ((p1).toInt64) (Int64.ofNat ((0 : Fin 2) : Nat)) v7 q4.2).bind (fun q8 => (if q8.1 = 0 then some ((Int32.ofInt (-1)), q8.2) else (f_X10_manAt p0 p1 q8.2).bind (fun q10 => some (q10.1, q10.2)))))))))))
set_option maxHeartbeats 2000000 in
set_option maxRecDepth 20000 in
theorem e_X10_at {l : Launch} {d : Nat} (hd : 3 ≤ d) (p0 : Int32) (p1 : Int32) (s : ST) (r : Int32 × ST) (hf : f_X10_at p0 p1 s = some r) : Cl l d mi_X10_at [.ref 65, .int p0, .int p1] (hp s) (some (.int r.1), hp r.2) := by
  refine Ev.entry (by decide +kernel) rfl rfl ?_
  show Ev l d mi_X10_at 0 [some (.ref 65), some (.int p0), some (.int p1)] [] (hp s) 0 0 _
  unfold f_X10_at at hf
  refine Ev.blk (pc' := 4) [(.aload_n 0, 0, 0, 0), (.getfield 424, 0, 10, 58)] (by decide +kernel) ⟨kf_10_424, trivial⟩ rfl (And.intro (kc rfl rfl) (?_))
  show Ev l d mi_X10_at 4 [some (.ref 65), some (.int p0), some (.int p1)] [.int (s.1 65 58)] (hp s) 0 0 _
  refine Ev.if_eq (off := 48) (tgt := 52) (by decide +kernel) (by decide) (fun b1 => ?_) (fun b1 => ?_)
  · have hf := (if_pos b1).symm.trans hf
    refine Ev.blk (pc' := 53) [(.iconst (-1), 0, 0, 0)] (by decide +kernel) trivial rfl (?_)
    show Ev l d mi_X10_at 53 [some (.ref 65), some (.int p0), some (.int p1)] [.int (Int32.ofInt (-1))] (hp s) 0 0 _
    cases hf
    exact Ev.iret .int rfl rfl (by decide +kernel) (Nat.le_refl _) (Nat.le_refl _)
  · have hf := (if_neg b1).symm.trans hf
    obtain ⟨c2, hf⟩ := gd_some hf
    obtain ⟨v3, hv3, hf⟩ := lt_some hf
    refine Ev.blk (pc' := 19) [(.iload_n 1, 0, 0, 0), (.i2l, 0, 0, 0), (.lconst 0, 0, 0, 0), (.aload_n 0, 0, 0, 0), (.getfield 127, 0, 10, 47), (.iconst 4, 0, 0, 0), (.iaload, 0, 0, 0), (.iconst 1, 0, 0, 0), (.isub, 0, 0, 0), (.i2l, 0, 0, 0)] (by decide +kernel) ⟨kf_10_127, trivial⟩ rfl (And.intro (kc rfl rfl) (Exists.intro 103 (And.intro rfl (And.intro (kc rfl rfl) (And.intro (ib_ok c2) (?_))))))
    show Ev l d mi_X10_at 19 [some (.ref 65), some (.int p0), some (.int p1)] [.long ((s.1 103 (Int32.ofInt 4).toNatClampNeg) - (Int32.ofInt 1)).toInt64, .long (Int64.ofNat ((0 : Fin 2) : Nat)), .long (p0).toInt64] (hp s) 0 0 _
    rw [← hv3]
    obtain ⟨q4, hq4, hf⟩ := bd_some hf
    refine Ev.callS (M' := mi_X10_isIn) (d' := d - 1) (As := [.long (p0).toInt64, .long (Int64.ofNat ((0 : Fin 2) : Nat)), .long v3]) (rest := []) (r' := (some (.int q4.1), hp q4.2)) (e_X10_isIn (d := d - 1) (by omega) ((p0).toInt64) (Int64.ofNat ((0 : Fin 2) : Nat)) v3 s _ hq4) (by omega) wm_X10_isIn wt_X10_isIn km_10_321 rfl rfl rfl (Nat.le_of_ble_eq_true rfl) ⟨Nat.le_of_ble_eq_true rfl, Nat.le_of_ble_eq_true rfl⟩ (by decide +kernel) ?_
    show Ev l d mi_X10_at 22 [some (.ref 65), some (.int p0), some (.int p1)] [.int q4.1] (hp q4.2) 0 0 _
    refine Ev.if_eq (off := 30) (tgt := 52) (by decide +kernel) (by decide) (fun b5 => ?_) (fun b5 => ?_)
    · have hf := (if_pos b5).symm.trans hf
      refine Ev.blk (pc' := 53) [(.iconst (-1), 0, 0, 0)] (by decide +kernel) trivial rfl (?_)
      show Ev l d mi_X10_at 53 [some (.ref 65), some (.int p0), some (.int p1)] [.int (Int32.ofInt (-1))] (hp q4.2) 0 0 _
      cases hf
      exact Ev.iret .int rfl rfl (by decide +kernel) (Nat.le_refl _) (Nat.le_refl _)
    · have hf := (if_neg b5).symm.trans hf
      obtain ⟨c6, hf⟩ := gd_some hf
      obtain ⟨v7, hv7, hf⟩ := lt_some hf
      refine Ev.blk (pc' := 37) [(.iload_n 2, 0, 0, 0), (.i2l, 0, 0, 0), (.lconst 0, 0, 0, 0), (.aload_n 0, 0, 0, 0), (.getfield 127, 0, 10, 47), (.iconst 5, 0, 0, 0), (.iaload, 0, 0, 0), (.iconst 1, 0, 0, 0), (.isub, 0, 0, 0), (.i2l, 0, 0, 0)] (by decide +kernel) ⟨kf_10_127, trivial⟩ rfl (And.intro (kc rfl rfl) (Exists.intro 103 (And.intro rfl (And.intro (kc rfl rfl) (And.intro (ib_ok c6) (?_))))))
      show Ev l d mi_X10_at 37 [some (.ref 65), some (.int p0), some (.int p1)] [.long ((q4.2.1 103 (Int32.ofInt 5).toNatClampNeg) - (Int32.ofInt 1)).toInt64, .long (Int64.ofNat ((0 : Fin 2) : Nat)), .long (p1).toInt64] (hp q4.2) 0 0 _
      rw [← hv7]
      obtain ⟨q8, hq8, hf⟩ := bd_some hf
      refine Ev.callS (M' := mi_X10_isIn) (d' := d - 1) (As := [.long (p1).toInt64, .long (Int64.ofNat ((0 : Fin 2) : Nat)), .long v7]) (rest := []) (r' := (some (.int q8.1), hp q8.2)) (e_X10_isIn (d := d - 1) (by omega) ((p1).toInt64) (Int64.ofNat ((0 : Fin 2) : Nat)) v7 q4.2 _ hq8) (by omega) wm_X10_isIn wt_X10_isIn km_10_321 rfl rfl rfl (Nat.le_of_ble_eq_true rfl) ⟨Nat.le_of_ble_eq_true rfl, Nat.le_of_ble_eq_true rfl⟩ (by decide +kernel) ?_
      show Ev l d mi_X10_at 40 [some (.ref 65), some (.int p0), some (.int p1)] [.int q8.1] (hp q8.2) 0 0 _
      refine Ev.if_eq (off := 12) (tgt := 52) (by decide +kernel) (by decide) (fun b9 => ?_) (fun b9 => ?_)
      · have hf := (if_pos b9).symm.trans hf
        refine Ev.blk (pc' := 53) [(.iconst (-1), 0, 0, 0)] (by decide +kernel) trivial rfl (?_)
        show Ev l d mi_X10_at 53 [some (.ref 65), some (.int p0), some (.int p1)] [.int (Int32.ofInt (-1))] (hp q8.2) 0 0 _
        cases hf
        exact Ev.iret .int rfl rfl (by decide +kernel) (Nat.le_refl _) (Nat.le_refl _)
      · have hf := (if_neg b9).symm.trans hf
        refine Ev.blk (pc' := 46) [(.aload_n 0, 0, 0, 0), (.iload_n 1, 0, 0, 0), (.iload_n 2, 0, 0, 0)] (by decide +kernel) trivial rfl (?_)
        show Ev l d mi_X10_at 46 [some (.ref 65), some (.int p0), some (.int p1)] [.int p1, .int p0, .ref 65] (hp q8.2) 0 0 _
        obtain ⟨q10, hq10, hf⟩ := bd_some hf
        refine Ev.callV (o := 65) (M' := mi_X10_manAt) (d' := d - 1) (As := [.int p0, .int p1]) (rest := []) (r' := (some (.int q10.1), hp q10.2)) (e_X10_manAt (d := d - 1) (by omega) p0 p1 q8.2 _ hq10) (by omega) wm_X10_manAt wi_X10_manAt wv_X10_manAt km_10_455 (kc rfl rfl) (Nat.le_of_ble_eq_true rfl) rfl rfl rfl (Nat.le_of_ble_eq_true rfl) ⟨Nat.le_of_ble_eq_true rfl, Nat.le_of_ble_eq_true rfl⟩ (by decide +kernel) ?_
        show Ev l d mi_X10_at 49 [some (.ref 65), some (.int p0), some (.int p1)] [.int q10.1] (hp q10.2) 0 0 _
        refine Ev.goto (off := 4) (tgt := 53) (by decide +kernel) (by decide) ?_
        cases hf
        exact Ev.iret .int rfl rfl (by decide +kernel) (Nat.le_refl _) (Nat.le_refl _)
def f_X10_option_j94 (x2 : Int32) (x3 : Int32) (x4 : Int32) (x5 : Int32) (y0 : Int32) (s : ST) : Option (Int32 × ST) := (f_X10_undoes (Int32.ofInt 4) s).bind (fun q15 => (if x2 = 0 then some ((q15.1 65 69), q15) else (if x2 = 1 then some (x3, q15) else (if x2 = 2 then some (x4, q15) else (if x2 = 3 then (if x5 = (Int32.ofInt (-1)) then some (((Int16.ofInt 255).toInt32), q15) else some (x5, q15)) else (some (y0, q15)))))))
set_option maxHeartbeats 2000000 in
set_option maxRecDepth 20000 in
theorem e_X10_option_j94 {l : Launch} {d : Nat} (hd : 6 ≤ d) (x2 : Int32) (x3 : Int32) (x4 : Int32) (x5 : Int32) (y0 : Int32) (s : ST) (r : Int32 × ST) (hf : f_X10_option_j94 x2 x3 x4 x5 y0 s = some r) : Ev l d mi_X10_option 94 [some (.ref 65), none, some (.int x2), some (.int x3), some (.int x4), some (.int x5), none] [.int y0] (hp s) 0 0 (some (.int r.1), hp r.2) := by
  unfold f_X10_option_j94 at hf
  refine Ev.blk (pc' := 98) [(.istore 6, 0, 0, 0), (.aload_n 0, 0, 0, 0), (.iconst 4, 0, 0, 0)] (by decide +kernel) trivial rfl (And.intro (Nat.le_of_ble_eq_true rfl) (?_))
  show Ev l d mi_X10_option 98 [some (.ref 65), none, some (.int x2), some (.int x3), some (.int x4), some (.int x5), some (.int y0)] [.int (Int32.ofInt 4), .ref 65] (hp s) 0 0 _
  obtain ⟨q15, hq15, hf⟩ := bd_some hf
  refine Ev.callV (o := 65) (M' := mi_X10_undoes) (d' := d - 1) (As := [.int (Int32.ofInt 4)]) (rest := []) (r' := (none, hp q15)) (e_X10_undoes (d := d - 1) (by omega) (Int32.ofInt 4) s _ hq15) (by omega) wm_X10_undoes wi_X10_undoes wv_X10_undoes km_10_503 (kc rfl rfl) (Nat.le_of_ble_eq_true rfl) rfl rfl rfl (Nat.le_of_ble_eq_true rfl) ⟨Nat.le_of_ble_eq_true rfl, Nat.le_of_ble_eq_true rfl⟩ (by decide +kernel) ?_
  show Ev l d mi_X10_option 101 [some (.ref 65), none, some (.int x2), some (.int x3), some (.int x4), some (.int x5), some (.int y0)] [] (hp q15) 0 0 _
  refine Ev.blk (pc' := 102) [(.iload_n 2, 0, 0, 0)] (by decide +kernel) trivial rfl (?_)
  show Ev l d mi_X10_option 102 [some (.ref 65), none, some (.int x2), some (.int x3), some (.int x4), some (.int x5), some (.int y0)] [.int x2] (hp q15) 0 0 _
  by_cases b16 : x2 = 0
  · have hf := (if_pos b16).symm.trans hf
    refine Ev.tswitch (dflt := 55) (lo := 0) (hi := 3) (offs := #[30, 35, 37, 40]) (len := 30) (tgt := 132) (by decide +kernel) (by rw [b16]; decide) (by decide) ?_
    refine Ev.blk (pc' := 136) [(.aload_n 0, 0, 0, 0), (.getfield 521, 0, 10, 69)] (by decide +kernel) ⟨kf_10_521, trivial⟩ rfl (And.intro (kc rfl rfl) (?_))
    show Ev l d mi_X10_option 136 [some (.ref 65), none, some (.int x2), some (.int x3), some (.int x4), some (.int x5), some (.int y0)] [.int (q15.1 65 69)] (hp q15) 0 0 _
    cases hf
    exact Ev.iret .int rfl rfl (by decide +kernel) (Nat.le_refl _) (Nat.le_refl _)
  · have hf := (if_neg b16).symm.trans hf
    by_cases b17 : x2 = 1
    · have hf := (if_pos b17).symm.trans hf
      refine Ev.tswitch (dflt := 55) (lo := 0) (hi := 3) (offs := #[30, 35, 37, 40]) (len := 30) (tgt := 137) (by decide +kernel) (by rw [b17]; decide) (by decide) ?_
      refine Ev.blk (pc' := 138) [(.iload_n 3, 0, 0, 0)] (by decide +kernel) trivial rfl (?_)
      show Ev l d mi_X10_option 138 [some (.ref 65), none, some (.int x2), some (.int x3), some (.int x4), some (.int x5), some (.int y0)] [.int x3] (hp q15) 0 0 _
      cases hf
      exact Ev.iret .int rfl rfl (by decide +kernel) (Nat.le_refl _) (Nat.le_refl _)
    · have hf := (if_neg b17).symm.trans hf
      by_cases b18 : x2 = 2
      · have hf := (if_pos b18).symm.trans hf
        refine Ev.tswitch (dflt := 55) (lo := 0) (hi := 3) (offs := #[30, 35, 37, 40]) (len := 30) (tgt := 139) (by decide +kernel) (by rw [b18]; decide) (by decide) ?_
        refine Ev.blk (pc' := 141) [(.iload 4, 0, 0, 0)] (by decide +kernel) trivial rfl (?_)
        show Ev l d mi_X10_option 141 [some (.ref 65), none, some (.int x2), some (.int x3), some (.int x4), some (.int x5), some (.int y0)] [.int x4] (hp q15) 0 0 _
        cases hf
        exact Ev.iret .int rfl rfl (by decide +kernel) (Nat.le_refl _) (Nat.le_refl _)
      · have hf := (if_neg b18).symm.trans hf
        by_cases b19 : x2 = 3
        · have hf := (if_pos b19).symm.trans hf
          refine Ev.tswitch (dflt := 55) (lo := 0) (hi := 3) (offs := #[30, 35, 37, 40]) (len := 30) (tgt := 142) (by decide +kernel) (by rw [b19]; decide) (by decide) ?_
          refine Ev.blk (pc' := 145) [(.iload 5, 0, 0, 0), (.iconst (-1), 0, 0, 0)] (by decide +kernel) trivial rfl (?_)
          show Ev l d mi_X10_option 145 [some (.ref 65), none, some (.int x2), some (.int x3), some (.int x4), some (.int x5), some (.int y0)] [.int (Int32.ofInt (-1)), .int x5] (hp q15) 0 0 _
          refine Ev.icmp_ne (off := 9) (tgt := 154) (by decide +kernel) (by decide) (fun b20 => ?_) (fun b20 => ?_)
          · have hf := (if_neg b20).symm.trans hf
            refine Ev.blk (pc' := 156) [(.iload 5, 0, 0, 0)] (by decide +kernel) trivial rfl (?_)
            show Ev l d mi_X10_option 156 [some (.ref 65), none, some (.int x2), some (.int x3), some (.int x4), some (.int x5), some (.int y0)] [.int x5] (hp q15) 0 0 _
            cases hf
            exact Ev.iret .int rfl rfl (by decide +kernel) (Nat.le_refl _) (Nat.le_refl _)
          · have hf := (if_pos b20).symm.trans hf
            refine Ev.blk (pc' := 151) [(.sipush 255, 0, 0, 0)] (by decide +kernel) trivial rfl (?_)
            show Ev l d mi_X10_option 151 [some (.ref 65), none, some (.int x2), some (.int x3), some (.int x4), some (.int x5), some (.int y0)] [.int ((Int16.ofInt 255).toInt32)] (hp q15) 0 0 _
            refine Ev.goto (off := 5) (tgt := 156) (by decide +kernel) (by decide) ?_
            cases hf
            exact Ev.iret .int rfl rfl (by decide +kernel) (Nat.le_refl _) (Nat.le_refl _)
        · have hf := (if_neg b19).symm.trans hf
          refine Ev.tswitch (dflt := 55) (lo := 0) (hi := 3) (offs := #[30, 35, 37, 40]) (len := 30) (tgt := 157) (by decide +kernel) (by have e0 := sw_ne b16 (c := (0)) (by decide); have e1 := sw_ne b17 (c := (1)) (by decide); have e2 := sw_ne b18 (c := (2)) (by decide); have e3 := sw_ne b19 (c := (3)) (by decide); rw [if_pos (by omega)]; decide) (by decide) ?_
          refine Ev.blk (pc' := 159) [(.iload 6, 0, 0, 0)] (by decide +kernel) trivial rfl (?_)
          show Ev l d mi_X10_option 159 [some (.ref 65), none, some (.int x2), some (.int x3), some (.int x4), some (.int x5), some (.int y0)] [.int y0] (hp q15) 0 0 _
          cases hf
          exact Ev.iret .int rfl rfl (by decide +kernel) (Nat.le_refl _) (Nat.le_refl _)
def f_X10_option (p0 : Int32) (p1 : Int32) (s : ST) : Option (Int32 × ST) := (f_X10_isIn ((p1).toInt64) (Int64.ofNat ((0 : Fin 2) : Nat)) (Int64.ofInt 4) s).bind (fun q1 => (if q1.1 = 0 then some ((Int32.ofInt (-1)), q1.2) else (f_X10_chooses p0 q1.2).bind (fun q3 => (if (q3.1 65 68) = (Int32.ofInt (-1)) then some ((Int32.ofInt (-1)), q3) else gd (ib (Int32.ofInt 4) 8) (gd (nz (q3.1 103 (Int32.ofInt 4).toNatClampNeg)) (gd (ib (Int32.ofInt 4) 8) (gd (nz (q3.1 103 (Int32.ofInt 4).toNatClampNeg)) (lt ((q3.1 65 70) - (q3.1 65 70) / (q3.1 103 (Int32.ofInt 4).toNatClampNeg) * (q3.1 103 (Int32.ofInt 4).toNatClampNeg)) (fun v9 => (f_X10_manAt v9 ((q3.1 65 70) / (q3.1 103 (Int32.ofInt 4).toNatClampNeg)) q3).bind (fun q10 => (f_X10_does (Int32.ofInt 4) (q10.2.1 65 69) (q10.2.1 65 70) q10.2).bind (fun q11 => gd (ib (Int32.ofInt 1) 225) ((f_X10_isCheck (q11.1 112 (Int32.ofInt 1).toNatClampNeg) q11).bind (fun q13 => (if q13.1 = 0 then f_X10_option_j94 p1 v9 ((q3.1 65 70) / (q3.1 103 (Int32.ofInt 4).toNatClampNeg)) q10.1 (Int32.ofInt 0) q13.2 else f_X10_option_j94 p1 v9 ((q3.1 65 70) / (q3.1 103 (Int32.ofInt 4).toNatClampNeg)) q10.1 (Int32.ofInt 1) q13.2))))))))))))))
set_option maxHeartbeats 2000000 in
set_option maxRecDepth 20000 in
theorem e_X10_option {l : Launch} {d : Nat} (hd : 6 ≤ d) (p0 : Int32) (p1 : Int32) (s : ST) (r : Int32 × ST) (hf : f_X10_option p0 p1 s = some r) : Cl l d mi_X10_option [.ref 65, .int p0, .int p1] (hp s) (some (.int r.1), hp r.2) := by
  refine Ev.entry (by decide +kernel) rfl rfl ?_
  show Ev l d mi_X10_option 0 [some (.ref 65), some (.int p0), some (.int p1), none, none, none, none] [] (hp s) 0 0 _
  unfold f_X10_option at hf
  refine Ev.blk (pc' := 6) [(.iload_n 2, 0, 0, 0), (.i2l, 0, 0, 0), (.lconst 0, 0, 0, 0), (.ldc2_w 605, 4, 0, 0)] (by decide +kernel) ⟨kl_10_605, trivial⟩ rfl (?_)
  show Ev l d mi_X10_option 6 [some (.ref 65), some (.int p0), some (.int p1), none, none, none, none] [.long (Int64.ofInt 4), .long (Int64.ofNat ((0 : Fin 2) : Nat)), .long (p1).toInt64] (hp s) 0 0 _
  obtain ⟨q1, hq1, hf⟩ := bd_some hf
  refine Ev.callS (M' := mi_X10_isIn) (d' := d - 1) (As := [.long (p1).toInt64, .long (Int64.ofNat ((0 : Fin 2) : Nat)), .long (Int64.ofInt 4)]) (rest := []) (r' := (some (.int q1.1), hp q1.2)) (e_X10_isIn (d := d - 1) (by omega) ((p1).toInt64) (Int64.ofNat ((0 : Fin 2) : Nat)) (Int64.ofInt 4) s _ hq1) (by omega) wm_X10_isIn wt_X10_isIn km_10_321 rfl rfl rfl (Nat.le_of_ble_eq_true rfl) ⟨Nat.le_of_ble_eq_true rfl, Nat.le_of_ble_eq_true rfl⟩ (by decide +kernel) ?_
  show Ev l d mi_X10_option 9 [some (.ref 65), some (.int p0), some (.int p1), none, none, none, none] [.int q1.1] (hp q1.2) 0 0 _
  refine Ev.if_ne (off := 5) (tgt := 14) (by decide +kernel) (by decide) (fun b2 => ?_) (fun b2 => ?_)
  · have hf := (if_neg b2).symm.trans hf
    refine Ev.blk (pc' := 16) [(.aload_n 0, 0, 0, 0), (.iload_n 1, 0, 0, 0)] (by decide +kernel) trivial rfl (?_)
    show Ev l d mi_X10_option 16 [some (.ref 65), some (.int p0), some (.int p1), none, none, none, none] [.int p0, .ref 65] (hp q1.2) 0 0 _
    obtain ⟨q3, hq3, hf⟩ := bd_some hf
    refine Ev.callV (o := 65) (M' := mi_X10_chooses) (d' := d - 1) (As := [.int p0]) (rest := []) (r' := (none, hp q3)) (e_X10_chooses (d := d - 1) (by omega) p0 q1.2 _ hq3) (by omega) wm_X10_chooses wi_X10_chooses wv_X10_chooses km_10_607 (kc rfl rfl) (Nat.le_of_ble_eq_true rfl) rfl rfl rfl (Nat.le_of_ble_eq_true rfl) ⟨Nat.le_of_ble_eq_true rfl, Nat.le_of_ble_eq_true rfl⟩ (by decide +kernel) ?_
    show Ev l d mi_X10_option 19 [some (.ref 65), some (.int p0), some (.int p1), none, none, none, none] [] (hp q3) 0 0 _
    refine Ev.blk (pc' := 24) [(.aload_n 0, 0, 0, 0), (.getfield 515, 0, 10, 68), (.iconst (-1), 0, 0, 0)] (by decide +kernel) ⟨kf_10_515, trivial⟩ rfl (And.intro (kc rfl rfl) (?_))
    show Ev l d mi_X10_option 24 [some (.ref 65), some (.int p0), some (.int p1), none, none, none, none] [.int (Int32.ofInt (-1)), .int (q3.1 65 68)] (hp q3) 0 0 _
    refine Ev.icmp_ne (off := 5) (tgt := 29) (by decide +kernel) (by decide) (fun b4 => ?_) (fun b4 => ?_)
    · have hf := (if_neg b4).symm.trans hf
      obtain ⟨c5, hf⟩ := gd_some hf
      obtain ⟨c6, hf⟩ := gd_some hf
      obtain ⟨c7, hf⟩ := gd_some hf
      obtain ⟨c8, hf⟩ := gd_some hf
      obtain ⟨v9, hv9, hf⟩ := lt_some hf
      refine Ev.blk (pc' := 58) [(.aload_n 0, 0, 0, 0), (.getfield 524, 0, 10, 70), (.aload_n 0, 0, 0, 0), (.getfield 127, 0, 10, 47), (.iconst 4, 0, 0, 0), (.iaload, 0, 0, 0), (.irem, 0, 0, 0), (.istore_n 3, 0, 0, 0), (.aload_n 0, 0, 0, 0), (.getfield 524, 0, 10, 70), (.aload_n 0, 0, 0, 0), (.getfield 127, 0, 10, 47), (.iconst 4, 0, 0, 0), (.iaload, 0, 0, 0), (.idiv, 0, 0, 0), (.istore 4, 0, 0, 0), (.aload_n 0, 0, 0, 0), (.iload_n 3, 0, 0, 0), (.iload 4, 0, 0, 0)] (by decide +kernel) ⟨kf_10_524, ⟨kf_10_127, ⟨kf_10_524, ⟨kf_10_127, trivial⟩⟩⟩⟩ rfl (And.intro (kc rfl rfl) (And.intro (kc rfl rfl) (Exists.intro 103 (And.intro rfl (And.intro (kc rfl rfl) (And.intro (ib_ok c5) (And.intro (nz_ok c6) (And.intro (Nat.le_of_ble_eq_true rfl) (And.intro (kc rfl rfl) (And.intro (kc rfl rfl) (Exists.intro 103 (And.intro rfl (And.intro (kc rfl rfl) (And.intro (ib_ok c7) (And.intro (nz_ok c8) (And.intro (Nat.le_of_ble_eq_true rfl) (?_)))))))))))))))))
      show Ev l d mi_X10_option 58 [some (.ref 65), some (.int p0), some (.int p1), some (.int ((q3.1 65 70) - (q3.1 65 70) / (q3.1 103 (Int32.ofInt 4).toNatClampNeg) * (q3.1 103 (Int32.ofInt 4).toNatClampNeg))), some (.int ((q3.1 65 70) / (q3.1 103 (Int32.ofInt 4).toNatClampNeg))), none, none] [.int ((q3.1 65 70) / (q3.1 103 (Int32.ofInt 4).toNatClampNeg)), .int ((q3.1 65 70) - (q3.1 65 70) / (q3.1 103 (Int32.ofInt 4).toNatClampNeg) * (q3.1 103 (Int32.ofInt 4).toNatClampNeg)), .ref 65] (hp q3) 0 0 _
      rw [← hv9]
      obtain ⟨q10, hq10, hf⟩ := bd_some hf
      refine Ev.callV (o := 65) (M' := mi_X10_manAt) (d' := d - 1) (As := [.int v9, .int ((q3.1 65 70) / (q3.1 103 (Int32.ofInt 4).toNatClampNeg))]) (rest := []) (r' := (some (.int q10.1), hp q10.2)) (e_X10_manAt (d := d - 1) (by omega) v9 ((q3.1 65 70) / (q3.1 103 (Int32.ofInt 4).toNatClampNeg)) q3 _ hq10) (by omega) wm_X10_manAt wi_X10_manAt wv_X10_manAt km_10_455 (kc rfl rfl) (Nat.le_of_ble_eq_true rfl) rfl rfl rfl (Nat.le_of_ble_eq_true rfl) ⟨Nat.le_of_ble_eq_true rfl, Nat.le_of_ble_eq_true rfl⟩ (by decide +kernel) ?_
      show Ev l d mi_X10_option 61 [some (.ref 65), some (.int p0), some (.int p1), some (.int v9), some (.int ((q3.1 65 70) / (q3.1 103 (Int32.ofInt 4).toNatClampNeg))), none, none] [.int q10.1] (hp q10.2) 0 0 _
      refine Ev.blk (pc' := 73) [(.istore 5, 0, 0, 0), (.aload_n 0, 0, 0, 0), (.iconst 4, 0, 0, 0), (.aload_n 0, 0, 0, 0), (.getfield 521, 0, 10, 69), (.aload_n 0, 0, 0, 0), (.getfield 524, 0, 10, 70)] (by decide +kernel) ⟨kf_10_521, ⟨kf_10_524, trivial⟩⟩ rfl (And.intro (Nat.le_of_ble_eq_true rfl) (And.intro (kc rfl rfl) (And.intro (kc rfl rfl) (?_))))
      show Ev l d mi_X10_option 73 [some (.ref 65), some (.int p0), some (.int p1), some (.int v9), some (.int ((q3.1 65 70) / (q3.1 103 (Int32.ofInt 4).toNatClampNeg))), some (.int q10.1), none] [.int (q10.2.1 65 70), .int (q10.2.1 65 69), .int (Int32.ofInt 4), .ref 65] (hp q10.2) 0 0 _
      obtain ⟨q11, hq11, hf⟩ := bd_some hf
      refine Ev.callV (o := 65) (M' := mi_X10_does) (d' := d - 1) (As := [.int (Int32.ofInt 4), .int (q10.2.1 65 69), .int (q10.2.1 65 70)]) (rest := []) (r' := (none, hp q11)) (e_X10_does (d := d - 1) (by omega) (Int32.ofInt 4) (q10.2.1 65 69) (q10.2.1 65 70) q10.2 _ hq11) (by omega) wm_X10_does wi_X10_does wv_X10_does km_10_496 (kc rfl rfl) (Nat.le_of_ble_eq_true rfl) rfl rfl rfl (Nat.le_of_ble_eq_true rfl) ⟨Nat.le_of_ble_eq_true rfl, Nat.le_of_ble_eq_true rfl⟩ (by decide +kernel) ?_
      show Ev l d mi_X10_option 76 [some (.ref 65), some (.int p0), some (.int p1), some (.int v9), some (.int ((q3.1 65 70) / (q3.1 103 (Int32.ofInt 4).toNatClampNeg))), some (.int q10.1), none] [] (hp q11) 0 0 _
      obtain ⟨c12, hf⟩ := gd_some hf
      refine Ev.blk (pc' := 83) [(.aload_n 0, 0, 0, 0), (.aload_n 0, 0, 0, 0), (.getfield 154, 0, 10, 62), (.iconst 1, 0, 0, 0), (.iaload, 0, 0, 0)] (by decide +kernel) ⟨kf_10_154, trivial⟩ rfl (And.intro (kc rfl rfl) (Exists.intro 112 (And.intro rfl (And.intro (kc rfl rfl) (And.intro (ib_ok c12) (?_))))))
      show Ev l d mi_X10_option 83 [some (.ref 65), some (.int p0), some (.int p1), some (.int v9), some (.int ((q3.1 65 70) / (q3.1 103 (Int32.ofInt 4).toNatClampNeg))), some (.int q10.1), none] [.int (q11.1 112 (Int32.ofInt 1).toNatClampNeg), .ref 65] (hp q11) 0 0 _
      obtain ⟨q13, hq13, hf⟩ := bd_some hf
      refine Ev.callV (o := 65) (M' := mi_X10_isCheck) (d' := d - 1) (As := [.int (q11.1 112 (Int32.ofInt 1).toNatClampNeg)]) (rest := []) (r' := (some (.int q13.1), hp q13.2)) (e_X10_isCheck (d := d - 1) (by omega) (q11.1 112 (Int32.ofInt 1).toNatClampNeg) q11 _ hq13) (by omega) wm_X10_isCheck wi_X10_isCheck wv_X10_isCheck km_10_553 (kc rfl rfl) (Nat.le_of_ble_eq_true rfl) rfl rfl rfl (Nat.le_of_ble_eq_true rfl) ⟨Nat.le_of_ble_eq_true rfl, Nat.le_of_ble_eq_true rfl⟩ (by decide +kernel) ?_
      show Ev l d mi_X10_option 86 [some (.ref 65), some (.int p0), some (.int p1), some (.int v9), some (.int ((q3.1 65 70) / (q3.1 103 (Int32.ofInt 4).toNatClampNeg))), some (.int q10.1), none] [.int q13.1] (hp q13.2) 0 0 _
      refine Ev.if_eq (off := 7) (tgt := 93) (by decide +kernel) (by decide) (fun b14 => ?_) (fun b14 => ?_)
      · have hf := (if_pos b14).symm.trans hf
        refine Ev.blk (pc' := 94) [(.iconst 0, 0, 0, 0)] (by decide +kernel) trivial rfl (?_)
        show Ev l d mi_X10_option 94 [some (.ref 65), some (.int p0), some (.int p1), some (.int v9), some (.int ((q3.1 65 70) / (q3.1 103 (Int32.ofInt 4).toNatClampNeg))), some (.int q10.1), none] [.int (Int32.ofInt 0)] (hp q13.2) 0 0 _
        exact Ev.wk ((e_X10_option_j94 hd) p1 v9 ((q3.1 65 70) / (q3.1 103 (Int32.ofInt 4).toNatClampNeg)) q10.1 (Int32.ofInt 0) q13.2 _ hf) (And.intro (Or.inr rfl) (And.intro (Or.inl rfl) (And.intro (Or.inr rfl) (And.intro (Or.inr rfl) (And.intro (Or.inr rfl) (And.intro (Or.inr rfl) (And.intro (Or.inr rfl) (trivial))))))))
      · have hf := (if_neg b14).symm.trans hf
        refine Ev.blk (pc' := 90) [(.iconst 1, 0, 0, 0)] (by decide +kernel) trivial rfl (?_)
        show Ev l d mi_X10_option 90 [some (.ref 65), some (.int p0), some (.int p1), some (.int v9), some (.int ((q3.1 65 70) / (q3.1 103 (Int32.ofInt 4).toNatClampNeg))), some (.int q10.1), none] [.int (Int32.ofInt 1)] (hp q13.2) 0 0 _
        refine Ev.goto (off := 4) (tgt := 94) (by decide +kernel) (by decide) ?_
        exact Ev.wk ((e_X10_option_j94 hd) p1 v9 ((q3.1 65 70) / (q3.1 103 (Int32.ofInt 4).toNatClampNeg)) q10.1 (Int32.ofInt 1) q13.2 _ hf) (And.intro (Or.inr rfl) (And.intro (Or.inl rfl) (And.intro (Or.inr rfl) (And.intro (Or.inr rfl) (And.intro (Or.inr rfl) (And.intro (Or.inr rfl) (And.intro (Or.inr rfl) (trivial))))))))
    · have hf := (if_pos b4).symm.trans hf
      refine Ev.blk (pc' := 28) [(.iconst (-1), 0, 0, 0)] (by decide +kernel) trivial rfl (?_)
      show Ev l d mi_X10_option 28 [some (.ref 65), some (.int p0), some (.int p1), none, none, none, none] [.int (Int32.ofInt (-1))] (hp q3) 0 0 _
      cases hf
      exact Ev.iret .int rfl rfl (by decide +kernel) (Nat.le_refl _) (Nat.le_refl _)
  · have hf := (if_pos b2).symm.trans hf
    refine Ev.blk (pc' := 13) [(.iconst (-1), 0, 0, 0)] (by decide +kernel) trivial rfl (?_)
    show Ev l d mi_X10_option 13 [some (.ref 65), some (.int p0), some (.int p1), none, none, none, none] [.int (Int32.ofInt (-1))] (hp q1.2) 0 0 _
    cases hf
    exact Ev.iret .int rfl rfl (by decide +kernel) (Nat.le_refl _) (Nat.le_refl _)
def f_X10_kept (p0 : Int32) (p1 : Int32) (s : ST) : Option (Int32 × ST) := gd (ib ((Int8.ofInt 24).toInt32) 225) (lt (((s.1 112 ((Int8.ofInt 24).toInt32).toNatClampNeg) - (Int32.ofInt 1)).toInt64) (fun v2 => (f_X10_isIn ((p0).toInt64) (Int64.ofNat ((0 : Fin 2) : Nat)) v2 s).bind (fun q3 => (if q3.1 = 0 then some ((Int32.ofInt (-1)), q3.2) else (f_X10_isIn ((p1).toInt64) (Int64.ofNat ((0 : Fin 2) : Nat)) (Int64.ofInt 4) q3.2).bind (fun q5 => (if q5.1 = 0 then some ((Int32.ofInt (-1)), q5.2) else gd (ib ((((Int8.ofInt 25).toInt32) + ((Int32.ofInt 5) * p0)) + p1) 225) (lt (q5.2.1 112 ((((Int8.ofInt 25).toInt32) + ((Int32.ofInt 5) * p0)) + p1).toNatClampNeg) (fun v8 => some (v8, q5.2)))))))))
set_option maxHeartbeats 2000000 in
set_option maxRecDepth 20000 in
theorem e_X10_kept {l : Launch} {d : Nat} (hd : 2 ≤ d) (p0 : Int32) (p1 : Int32) (s : ST) (r : Int32 × ST) (hf : f_X10_kept p0 p1 s = some r) : Cl l d mi_X10_kept [.ref 65, .int p0, .int p1] (hp s) (some (.int r.1), hp r.2) := by
  refine Ev.entry (by decide +kernel) rfl rfl ?_
  show Ev l d mi_X10_kept 0 [some (.ref 65), some (.int p0), some (.int p1)] [] (hp s) 0 0 _
  unfold f_X10_kept at hf
  obtain ⟨c1, hf⟩ := gd_some hf
  obtain ⟨v2, hv2, hf⟩ := lt_some hf
  refine Ev.blk (pc' := 13) [(.iload_n 1, 0, 0, 0), (.i2l, 0, 0, 0), (.lconst 0, 0, 0, 0), (.aload_n 0, 0, 0, 0), (.getfield 154, 0, 10, 62), (.bipush 24, 0, 0, 0), (.iaload, 0, 0, 0), (.iconst 1, 0, 0, 0), (.isub, 0, 0, 0), (.i2l, 0, 0, 0)] (by decide +kernel) ⟨kf_10_154, trivial⟩ rfl (And.intro (kc rfl rfl) (Exists.intro 112 (And.intro rfl (And.intro (kc rfl rfl) (And.intro (ib_ok c1) (?_))))))
  show Ev l d mi_X10_kept 13 [some (.ref 65), some (.int p0), some (.int p1)] [.long ((s.1 112 ((Int8.ofInt 24).toInt32).toNatClampNeg) - (Int32.ofInt 1)).toInt64, .long (Int64.ofNat ((0 : Fin 2) : Nat)), .long (p0).toInt64] (hp s) 0 0 _
  rw [← hv2]
  obtain ⟨q3, hq3, hf⟩ := bd_some hf
  refine Ev.callS (M' := mi_X10_isIn) (d' := d - 1) (As := [.long (p0).toInt64, .long (Int64.ofNat ((0 : Fin 2) : Nat)), .long v2]) (rest := []) (r' := (some (.int q3.1), hp q3.2)) (e_X10_isIn (d := d - 1) (by omega) ((p0).toInt64) (Int64.ofNat ((0 : Fin 2) : Nat)) v2 s _ hq3) (by omega) wm_X10_isIn wt_X10_isIn km_10_321 rfl rfl rfl (Nat.le_of_ble_eq_true rfl) ⟨Nat.le_of_ble_eq_true rfl, Nat.le_of_ble_eq_true rfl⟩ (by decide +kernel) ?_
  show Ev l d mi_X10_kept 16 [some (.ref 65), some (.int p0), some (.int p1)] [.int q3.1] (hp q3.2) 0 0 _
  refine Ev.if_eq (off := 31) (tgt := 47) (by decide +kernel) (by decide) (fun b4 => ?_) (fun b4 => ?_)
  · have hf := (if_pos b4).symm.trans hf
    refine Ev.blk (pc' := 48) [(.iconst (-1), 0, 0, 0)] (by decide +kernel) trivial rfl (?_)
    show Ev l d mi_X10_kept 48 [some (.ref 65), some (.int p0), some (.int p1)] [.int (Int32.ofInt (-1))] (hp q3.2) 0 0 _
    cases hf
    exact Ev.iret .int rfl rfl (by decide +kernel) (Nat.le_refl _) (Nat.le_refl _)
  · have hf := (if_neg b4).symm.trans hf
    refine Ev.blk (pc' := 25) [(.iload_n 2, 0, 0, 0), (.i2l, 0, 0, 0), (.lconst 0, 0, 0, 0), (.ldc2_w 605, 4, 0, 0)] (by decide +kernel) ⟨kl_10_605, trivial⟩ rfl (?_)
    show Ev l d mi_X10_kept 25 [some (.ref 65), some (.int p0), some (.int p1)] [.long (Int64.ofInt 4), .long (Int64.ofNat ((0 : Fin 2) : Nat)), .long (p1).toInt64] (hp q3.2) 0 0 _
    obtain ⟨q5, hq5, hf⟩ := bd_some hf
    refine Ev.callS (M' := mi_X10_isIn) (d' := d - 1) (As := [.long (p1).toInt64, .long (Int64.ofNat ((0 : Fin 2) : Nat)), .long (Int64.ofInt 4)]) (rest := []) (r' := (some (.int q5.1), hp q5.2)) (e_X10_isIn (d := d - 1) (by omega) ((p1).toInt64) (Int64.ofNat ((0 : Fin 2) : Nat)) (Int64.ofInt 4) q3.2 _ hq5) (by omega) wm_X10_isIn wt_X10_isIn km_10_321 rfl rfl rfl (Nat.le_of_ble_eq_true rfl) ⟨Nat.le_of_ble_eq_true rfl, Nat.le_of_ble_eq_true rfl⟩ (by decide +kernel) ?_
    show Ev l d mi_X10_kept 28 [some (.ref 65), some (.int p0), some (.int p1)] [.int q5.1] (hp q5.2) 0 0 _
    refine Ev.if_eq (off := 19) (tgt := 47) (by decide +kernel) (by decide) (fun b6 => ?_) (fun b6 => ?_)
    · have hf := (if_pos b6).symm.trans hf
      refine Ev.blk (pc' := 48) [(.iconst (-1), 0, 0, 0)] (by decide +kernel) trivial rfl (?_)
      show Ev l d mi_X10_kept 48 [some (.ref 65), some (.int p0), some (.int p1)] [.int (Int32.ofInt (-1))] (hp q5.2) 0 0 _
      cases hf
      exact Ev.iret .int rfl rfl (by decide +kernel) (Nat.le_refl _) (Nat.le_refl _)
    · have hf := (if_neg b6).symm.trans hf
      obtain ⟨c7, hf⟩ := gd_some hf
      obtain ⟨v8, hv8, hf⟩ := lt_some hf
      refine Ev.blk (pc' := 44) [(.aload_n 0, 0, 0, 0), (.getfield 154, 0, 10, 62), (.bipush 25, 0, 0, 0), (.iconst 5, 0, 0, 0), (.iload_n 1, 0, 0, 0), (.imul, 0, 0, 0), (.iadd, 0, 0, 0), (.iload_n 2, 0, 0, 0), (.iadd, 0, 0, 0), (.iaload, 0, 0, 0)] (by decide +kernel) ⟨kf_10_154, trivial⟩ rfl (And.intro (kc rfl rfl) (Exists.intro 112 (And.intro rfl (And.intro (kc rfl rfl) (And.intro (ib_ok c7) (?_))))))
      show Ev l d mi_X10_kept 44 [some (.ref 65), some (.int p0), some (.int p1)] [.int (q5.2.1 112 ((((Int8.ofInt 25).toInt32) + ((Int32.ofInt 5) * p0)) + p1).toNatClampNeg)] (hp q5.2) 0 0 _
      rw [← hv8]
      refine Ev.goto (off := 4) (tgt := 48) (by decide +kernel) (by decide) ?_
      cases hf
      exact Ev.iret .int rfl rfl (by decide +kernel) (Nat.le_refl _) (Nat.le_refl _)
def f_X10_balance (p0 : Int32) (s : ST) : Option (Int64 × ST) := (if (s.1 65 58) = 0 then some ((Int64.ofInt (-1000000000000000)), s) else (f_X10_isIn ((p0).toInt64) (Int64.ofNat ((0 : Fin 2) : Nat)) (Int64.ofNat ((1 : Fin 2) : Nat)) s).bind (fun q2 => (if q2.1 = 0 then some ((Int64.ofInt (-1000000000000000)), q2.2) else (f_X10_balanceOf p0 q2.2).bind (fun q4 => some ((q4.1).toInt64, q4.2)))))
set_option maxHeartbeats 2000000 in
set_option maxRecDepth 20000 in
theorem e_X10_balance {l : Launch} {d : Nat} (hd : 4 ≤ d) (p0 : Int32) (s : ST) (r : Int64 × ST) (hf : f_X10_balance p0 s = some r) : Cl l d mi_X10_balance [.ref 65, .int p0] (hp s) (some (.long r.1), hp r.2) := by
  refine Ev.entry (by decide +kernel) rfl rfl ?_
  show Ev l d mi_X10_balance 0 [some (.ref 65), some (.int p0)] [] (hp s) 0 0 _
  unfold f_X10_balance at hf
  refine Ev.blk (pc' := 4) [(.aload_n 0, 0, 0, 0), (.getfield 424, 0, 10, 58)] (by decide +kernel) ⟨kf_10_424, trivial⟩ rfl (And.intro (kc rfl rfl) (?_))
  show Ev l d mi_X10_balance 4 [some (.ref 65), some (.int p0)] [.int (s.1 65 58)] (hp s) 0 0 _
  refine Ev.if_eq (off := 22) (tgt := 26) (by decide +kernel) (by decide) (fun b1 => ?_) (fun b1 => ?_)
  · have hf := (if_pos b1).symm.trans hf
    refine Ev.blk (pc' := 29) [(.ldc2_w 610, (-1000000000000000), 0, 0)] (by decide +kernel) ⟨kl_10_610, trivial⟩ rfl (?_)
    show Ev l d mi_X10_balance 29 [some (.ref 65), some (.int p0)] [.long (Int64.ofInt (-1000000000000000))] (hp s) 0 0 _
    cases hf
    exact Ev.lret rfl (by decide +kernel) (Nat.le_refl _) (Nat.le_refl _)
  · have hf := (if_neg b1).symm.trans hf
    refine Ev.blk (pc' := 11) [(.iload_n 1, 0, 0, 0), (.i2l, 0, 0, 0), (.lconst 0, 0, 0, 0), (.lconst 1, 0, 0, 0)] (by decide +kernel) trivial rfl (?_)
    show Ev l d mi_X10_balance 11 [some (.ref 65), some (.int p0)] [.long (Int64.ofNat ((1 : Fin 2) : Nat)), .long (Int64.ofNat ((0 : Fin 2) : Nat)), .long (p0).toInt64] (hp s) 0 0 _
    obtain ⟨q2, hq2, hf⟩ := bd_some hf
    refine Ev.callS (M' := mi_X10_isIn) (d' := d - 1) (As := [.long (p0).toInt64, .long (Int64.ofNat ((0 : Fin 2) : Nat)), .long (Int64.ofNat ((1 : Fin 2) : Nat))]) (rest := []) (r' := (some (.int q2.1), hp q2.2)) (e_X10_isIn (d := d - 1) (by omega) ((p0).toInt64) (Int64.ofNat ((0 : Fin 2) : Nat)) (Int64.ofNat ((1 : Fin 2) : Nat)) s _ hq2) (by omega) wm_X10_isIn wt_X10_isIn km_10_321 rfl rfl rfl (Nat.le_of_ble_eq_true rfl) ⟨Nat.le_of_ble_eq_true rfl, Nat.le_of_ble_eq_true rfl⟩ (by decide +kernel) ?_
    show Ev l d mi_X10_balance 14 [some (.ref 65), some (.int p0)] [.int q2.1] (hp q2.2) 0 0 _
    refine Ev.if_eq (off := 12) (tgt := 26) (by decide +kernel) (by decide) (fun b3 => ?_) (fun b3 => ?_)
    · have hf := (if_pos b3).symm.trans hf
      refine Ev.blk (pc' := 29) [(.ldc2_w 610, (-1000000000000000), 0, 0)] (by decide +kernel) ⟨kl_10_610, trivial⟩ rfl (?_)
      show Ev l d mi_X10_balance 29 [some (.ref 65), some (.int p0)] [.long (Int64.ofInt (-1000000000000000))] (hp q2.2) 0 0 _
      cases hf
      exact Ev.lret rfl (by decide +kernel) (Nat.le_refl _) (Nat.le_refl _)
    · have hf := (if_neg b3).symm.trans hf
      refine Ev.blk (pc' := 19) [(.aload_n 0, 0, 0, 0), (.iload_n 1, 0, 0, 0)] (by decide +kernel) trivial rfl (?_)
      show Ev l d mi_X10_balance 19 [some (.ref 65), some (.int p0)] [.int p0, .ref 65] (hp q2.2) 0 0 _
      obtain ⟨q4, hq4, hf⟩ := bd_some hf
      refine Ev.callV (o := 65) (M' := mi_X10_balanceOf) (d' := d - 1) (As := [.int p0]) (rest := []) (r' := (some (.int q4.1), hp q4.2)) (e_X10_balanceOf (d := d - 1) (by omega) p0 q2.2 _ hq4) (by omega) wm_X10_balanceOf wi_X10_balanceOf wv_X10_balanceOf km_10_493 (kc rfl rfl) (Nat.le_of_ble_eq_true rfl) rfl rfl rfl (Nat.le_of_ble_eq_true rfl) ⟨Nat.le_of_ble_eq_true rfl, Nat.le_of_ble_eq_true rfl⟩ (by decide +kernel) ?_
      show Ev l d mi_X10_balance 22 [some (.ref 65), some (.int p0)] [.int q4.1] (hp q4.2) 0 0 _
      refine Ev.blk (pc' := 23) [(.i2l, 0, 0, 0)] (by decide +kernel) trivial rfl (?_)
      show Ev l d mi_X10_balance 23 [some (.ref 65), some (.int p0)] [.long (q4.1).toInt64] (hp q4.2) 0 0 _
      refine Ev.goto (off := 6) (tgt := 29) (by decide +kernel) (by decide) ?_
      cases hf
      exact Ev.lret rfl (by decide +kernel) (Nat.le_refl _) (Nat.le_refl _)
def f_X10_value (p0 : Int32) (s : ST) : Option (Int64 × ST) := (if (s.1 65 58) = 0 then some ((Int64.ofInt (-1000000000000000)), s) else (f_X10_isIn ((p0).toInt64) (Int64.ofNat ((0 : Fin 2) : Nat)) (Int64.ofInt 3) s).bind (fun q2 => (if q2.1 = 0 then some ((Int64.ofInt (-1000000000000000)), q2.2) else (f_X10_valueBy p0 q2.2).bind (fun q4 => some ((q4.1).toInt64, q4.2)))))
set_option maxHeartbeats 2000000 in
set_option maxRecDepth 20000 in
theorem e_X10_value {l : Launch} {d : Nat} (hd : 9 ≤ d) (p0 : Int32) (s : ST) (r : Int64 × ST) (hf : f_X10_value p0 s = some r) : Cl l d mi_X10_value [.ref 65, .int p0] (hp s) (some (.long r.1), hp r.2) := by
  refine Ev.entry (by decide +kernel) rfl rfl ?_
  show Ev l d mi_X10_value 0 [some (.ref 65), some (.int p0)] [] (hp s) 0 0 _
  unfold f_X10_value at hf
  refine Ev.blk (pc' := 4) [(.aload_n 0, 0, 0, 0), (.getfield 424, 0, 10, 58)] (by decide +kernel) ⟨kf_10_424, trivial⟩ rfl (And.intro (kc rfl rfl) (?_))
  show Ev l d mi_X10_value 4 [some (.ref 65), some (.int p0)] [.int (s.1 65 58)] (hp s) 0 0 _
  refine Ev.if_eq (off := 24) (tgt := 28) (by decide +kernel) (by decide) (fun b1 => ?_) (fun b1 => ?_)
  · have hf := (if_pos b1).symm.trans hf
    refine Ev.blk (pc' := 31) [(.ldc2_w 610, (-1000000000000000), 0, 0)] (by decide +kernel) ⟨kl_10_610, trivial⟩ rfl (?_)
    show Ev l d mi_X10_value 31 [some (.ref 65), some (.int p0)] [.long (Int64.ofInt (-1000000000000000))] (hp s) 0 0 _
    cases hf
    exact Ev.lret rfl (by decide +kernel) (Nat.le_refl _) (Nat.le_refl _)
  · have hf := (if_neg b1).symm.trans hf
    refine Ev.blk (pc' := 13) [(.iload_n 1, 0, 0, 0), (.i2l, 0, 0, 0), (.lconst 0, 0, 0, 0), (.ldc2_w 597, 3, 0, 0)] (by decide +kernel) ⟨kl_10_597, trivial⟩ rfl (?_)
    show Ev l d mi_X10_value 13 [some (.ref 65), some (.int p0)] [.long (Int64.ofInt 3), .long (Int64.ofNat ((0 : Fin 2) : Nat)), .long (p0).toInt64] (hp s) 0 0 _
    obtain ⟨q2, hq2, hf⟩ := bd_some hf
    refine Ev.callS (M' := mi_X10_isIn) (d' := d - 1) (As := [.long (p0).toInt64, .long (Int64.ofNat ((0 : Fin 2) : Nat)), .long (Int64.ofInt 3)]) (rest := []) (r' := (some (.int q2.1), hp q2.2)) (e_X10_isIn (d := d - 1) (by omega) ((p0).toInt64) (Int64.ofNat ((0 : Fin 2) : Nat)) (Int64.ofInt 3) s _ hq2) (by omega) wm_X10_isIn wt_X10_isIn km_10_321 rfl rfl rfl (Nat.le_of_ble_eq_true rfl) ⟨Nat.le_of_ble_eq_true rfl, Nat.le_of_ble_eq_true rfl⟩ (by decide +kernel) ?_
    show Ev l d mi_X10_value 16 [some (.ref 65), some (.int p0)] [.int q2.1] (hp q2.2) 0 0 _
    refine Ev.if_eq (off := 12) (tgt := 28) (by decide +kernel) (by decide) (fun b3 => ?_) (fun b3 => ?_)
    · have hf := (if_pos b3).symm.trans hf
      refine Ev.blk (pc' := 31) [(.ldc2_w 610, (-1000000000000000), 0, 0)] (by decide +kernel) ⟨kl_10_610, trivial⟩ rfl (?_)
      show Ev l d mi_X10_value 31 [some (.ref 65), some (.int p0)] [.long (Int64.ofInt (-1000000000000000))] (hp q2.2) 0 0 _
      cases hf
      exact Ev.lret rfl (by decide +kernel) (Nat.le_refl _) (Nat.le_refl _)
    · have hf := (if_neg b3).symm.trans hf
      refine Ev.blk (pc' := 21) [(.aload_n 0, 0, 0, 0), (.iload_n 1, 0, 0, 0)] (by decide +kernel) trivial rfl (?_)
      show Ev l d mi_X10_value 21 [some (.ref 65), some (.int p0)] [.int p0, .ref 65] (hp q2.2) 0 0 _
      obtain ⟨q4, hq4, hf⟩ := bd_some hf
      refine Ev.callV (o := 65) (M' := mi_X10_valueBy) (d' := d - 1) (As := [.int p0]) (rest := []) (r' := (some (.int q4.1), hp q4.2)) (e_X10_valueBy (d := d - 1) (by omega) p0 q2.2 _ hq4) (by omega) wm_X10_valueBy wi_X10_valueBy wv_X10_valueBy km_10_518 (kc rfl rfl) (Nat.le_of_ble_eq_true rfl) rfl rfl rfl (Nat.le_of_ble_eq_true rfl) ⟨Nat.le_of_ble_eq_true rfl, Nat.le_of_ble_eq_true rfl⟩ (by decide +kernel) ?_
      show Ev l d mi_X10_value 24 [some (.ref 65), some (.int p0)] [.int q4.1] (hp q4.2) 0 0 _
      refine Ev.blk (pc' := 25) [(.i2l, 0, 0, 0)] (by decide +kernel) trivial rfl (?_)
      show Ev l d mi_X10_value 25 [some (.ref 65), some (.int p0)] [.long (q4.1).toInt64] (hp q4.2) 0 0 _
      refine Ev.goto (off := 6) (tgt := 31) (by decide +kernel) (by decide) ?_
      cases hf
      exact Ev.lret rfl (by decide +kernel) (Nat.le_refl _) (Nat.le_refl _)
def f_X10_best (p0 : Int32) (s : ST) : Option (Int32 × ST) := (if (s.1 65 58) = 0 then some ((Int32.ofInt (-1)), s) else (f_X10_isIn ((p0).toInt64) (Int64.ofNat ((1 : Fin 2) : Nat)) (Int64.ofInt 3) s).bind (fun q2 => (if q2.1 = 0 then some ((Int32.ofInt (-1)), q2.2) else (f_X10_choosesBest p0 q2.2).bind (fun q4 => some ((q4.1 65 68), q4)))))
set_option maxHeartbeats 2000000 in
set_option maxRecDepth 20000 in
theorem e_X10_best {l : Launch} {d : Nat} (hd : 10 ≤ d) (p0 : Int32) (s : ST) (r : Int32 × ST) (hf : f_X10_best p0 s = some r) : Cl l d mi_X10_best [.ref 65, .int p0] (hp s) (some (.int r.1), hp r.2) := by
  refine Ev.entry (by decide +kernel) rfl rfl ?_
  show Ev l d mi_X10_best 0 [some (.ref 65), some (.int p0)] [] (hp s) 0 0 _
  unfold f_X10_best at hf
  refine Ev.blk (pc' := 4) [(.aload_n 0, 0, 0, 0), (.getfield 424, 0, 10, 58)] (by decide +kernel) ⟨kf_10_424, trivial⟩ rfl (And.intro (kc rfl rfl) (?_))
  show Ev l d mi_X10_best 4 [some (.ref 65), some (.int p0)] [.int (s.1 65 58)] (hp s) 0 0 _
  refine Ev.if_eq (off := 15) (tgt := 19) (by decide +kernel) (by decide) (fun b1 => ?_) (fun b1 => ?_)
  · have hf := (if_pos b1).symm.trans hf
    refine Ev.blk (pc' := 20) [(.iconst (-1), 0, 0, 0)] (by decide +kernel) trivial rfl (?_)
    show Ev l d mi_X10_best 20 [some (.ref 65), some (.int p0)] [.int (Int32.ofInt (-1))] (hp s) 0 0 _
    cases hf
    exact Ev.iret .int rfl rfl (by decide +kernel) (Nat.le_refl _) (Nat.le_refl _)
  · have hf := (if_neg b1).symm.trans hf
    refine Ev.blk (pc' := 13) [(.iload_n 1, 0, 0, 0), (.i2l, 0, 0, 0), (.lconst 1, 0, 0, 0), (.ldc2_w 597, 3, 0, 0)] (by decide +kernel) ⟨kl_10_597, trivial⟩ rfl (?_)
    show Ev l d mi_X10_best 13 [some (.ref 65), some (.int p0)] [.long (Int64.ofInt 3), .long (Int64.ofNat ((1 : Fin 2) : Nat)), .long (p0).toInt64] (hp s) 0 0 _
    obtain ⟨q2, hq2, hf⟩ := bd_some hf
    refine Ev.callS (M' := mi_X10_isIn) (d' := d - 1) (As := [.long (p0).toInt64, .long (Int64.ofNat ((1 : Fin 2) : Nat)), .long (Int64.ofInt 3)]) (rest := []) (r' := (some (.int q2.1), hp q2.2)) (e_X10_isIn (d := d - 1) (by omega) ((p0).toInt64) (Int64.ofNat ((1 : Fin 2) : Nat)) (Int64.ofInt 3) s _ hq2) (by omega) wm_X10_isIn wt_X10_isIn km_10_321 rfl rfl rfl (Nat.le_of_ble_eq_true rfl) ⟨Nat.le_of_ble_eq_true rfl, Nat.le_of_ble_eq_true rfl⟩ (by decide +kernel) ?_
    show Ev l d mi_X10_best 16 [some (.ref 65), some (.int p0)] [.int q2.1] (hp q2.2) 0 0 _
    refine Ev.if_ne (off := 5) (tgt := 21) (by decide +kernel) (by decide) (fun b3 => ?_) (fun b3 => ?_)
    · have hf := (if_neg b3).symm.trans hf
      refine Ev.blk (pc' := 23) [(.aload_n 0, 0, 0, 0), (.iload_n 1, 0, 0, 0)] (by decide +kernel) trivial rfl (?_)
      show Ev l d mi_X10_best 23 [some (.ref 65), some (.int p0)] [.int p0, .ref 65] (hp q2.2) 0 0 _
      obtain ⟨q4, hq4, hf⟩ := bd_some hf
      refine Ev.callV (o := 65) (M' := mi_X10_choosesBest) (d' := d - 1) (As := [.int p0]) (rest := []) (r' := (none, hp q4)) (e_X10_choosesBest (d := d - 1) (by omega) p0 q2.2 _ hq4) (by omega) wm_X10_choosesBest wi_X10_choosesBest wv_X10_choosesBest km_10_572 (kc rfl rfl) (Nat.le_of_ble_eq_true rfl) rfl rfl rfl (Nat.le_of_ble_eq_true rfl) ⟨Nat.le_of_ble_eq_true rfl, Nat.le_of_ble_eq_true rfl⟩ (by decide +kernel) ?_
      show Ev l d mi_X10_best 26 [some (.ref 65), some (.int p0)] [] (hp q4) 0 0 _
      refine Ev.blk (pc' := 30) [(.aload_n 0, 0, 0, 0), (.getfield 515, 0, 10, 68)] (by decide +kernel) ⟨kf_10_515, trivial⟩ rfl (And.intro (kc rfl rfl) (?_))
      show Ev l d mi_X10_best 30 [some (.ref 65), some (.int p0)] [.int (q4.1 65 68)] (hp q4) 0 0 _
      cases hf
      exact Ev.iret .int rfl rfl (by decide +kernel) (Nat.le_refl _) (Nat.le_refl _)
    · have hf := (if_pos b3).symm.trans hf
      refine Ev.blk (pc' := 20) [(.iconst (-1), 0, 0, 0)] (by decide +kernel) trivial rfl (?_)
      show Ev l d mi_X10_best 20 [some (.ref 65), some (.int p0)] [.int (Int32.ofInt (-1))] (hp q2.2) 0 0 _
      cases hf
      exact Ev.iret .int rfl rfl (by decide +kernel) (Nat.le_refl _) (Nat.le_refl _)
def f_X10_takesCrown (s : ST) : Option (Int32 × ST) := gd (ib (Int32.ofInt 1) 225) ((f_X10_isCheck ((Int32.ofInt 1) - (s.1 112 (Int32.ofInt 1).toNatClampNeg)) s).bind (fun q2 => gd (nb q2.1) (some (q2.1, q2.2))))
set_option maxHeartbeats 2000000 in
set_option maxRecDepth 20000 in
theorem e_X10_takesCrown {l : Launch} {d : Nat} (hd : 6 ≤ d) (s : ST) (r : Int32 × ST) (hf : f_X10_takesCrown s = some r) : Cl l d mi_X10_takesCrown [.ref 65] (hp s) (some (.int r.1), hp r.2) := by
  refine Ev.entry (by decide +kernel) rfl rfl ?_
  show Ev l d mi_X10_takesCrown 0 [some (.ref 65)] [] (hp s) 0 0 _
  unfold f_X10_takesCrown at hf
  obtain ⟨c1, hf⟩ := gd_some hf
  refine Ev.blk (pc' := 9) [(.aload_n 0, 0, 0, 0), (.iconst 1, 0, 0, 0), (.aload_n 0, 0, 0, 0), (.getfield 154, 0, 10, 62), (.iconst 1, 0, 0, 0), (.iaload, 0, 0, 0), (.isub, 0, 0, 0)] (by decide +kernel) ⟨kf_10_154, trivial⟩ rfl (And.intro (kc rfl rfl) (Exists.intro 112 (And.intro rfl (And.intro (kc rfl rfl) (And.intro (ib_ok c1) (?_))))))
  show Ev l d mi_X10_takesCrown 9 [some (.ref 65)] [.int ((Int32.ofInt 1) - (s.1 112 (Int32.ofInt 1).toNatClampNeg)), .ref 65] (hp s) 0 0 _
  obtain ⟨q2, hq2, hf⟩ := bd_some hf
  refine Ev.callV (o := 65) (M' := mi_X10_isCheck) (d' := d - 1) (As := [.int ((Int32.ofInt 1) - (s.1 112 (Int32.ofInt 1).toNatClampNeg))]) (rest := []) (r' := (some (.int q2.1), hp q2.2)) (e_X10_isCheck (d := d - 1) (by omega) ((Int32.ofInt 1) - (s.1 112 (Int32.ofInt 1).toNatClampNeg)) s _ hq2) (by omega) wm_X10_isCheck wi_X10_isCheck wv_X10_isCheck km_10_553 (kc rfl rfl) (Nat.le_of_ble_eq_true rfl) rfl rfl rfl (Nat.le_of_ble_eq_true rfl) ⟨Nat.le_of_ble_eq_true rfl, Nat.le_of_ble_eq_true rfl⟩ (by decide +kernel) ?_
  show Ev l d mi_X10_takesCrown 12 [some (.ref 65)] [.int q2.1] (hp q2.2) 0 0 _
  obtain ⟨c3, hf⟩ := gd_some hf
  cases hf
  exact Ev.iret .boolean rfl (nb_ok c3) (by decide +kernel) (Nat.le_refl _) (Nat.le_refl _)
