/-! THE REFERENCE: functions and proofs, by program (wip/gen_model.py): X10_qIsOn X10_qGoesOn X10_qAsksWord X10_qOpens X10_qWordHere X10_qWordOf X10_qPartTold X10_qSums X10_harmTold X10_statementTold X10_stands X10_board X10_fault X10_manMany X10_fieldMany X10_isMan X10_isField X10_columnOf X10_rowOf X10_isTaken X10_kindOf X10_sideOf X10_worthOf -/
def f_X10_qIsOn (p0 : Int32) (s : ST) : Option (Int32 × ST) := (if (s.1 65 113) ≤ 0 then some ((Int32.ofInt 0), s) else gd (ib ((s.1 65 113) - (Int32.ofInt 1)) 1700) ((if (s.1 147 ((s.1 65 113) - (Int32.ofInt 1)).toNatClampNeg) = p0 then some ((Int32.ofInt 1), s) else some ((Int32.ofInt 0), s))))
set_option maxHeartbeats 2000000 in
set_option maxRecDepth 20000 in
theorem e_X10_qIsOn {l : Launch} {d : Nat} (hd : 1 ≤ d) (p0 : Int32) (s : ST) (r : Int32 × ST) (hf : f_X10_qIsOn p0 s = some r) : Cl l d mi_X10_qIsOn [.ref 65, .int p0] (hp s) (some (.int r.1), hp r.2) := by
  refine Ev.entry (by decide +kernel) rfl rfl ?_
  show Ev l d mi_X10_qIsOn 0 [some (.ref 65), some (.int p0)] [] (hp s) 0 0 _
  unfold f_X10_qIsOn at hf
  refine Ev.blk (pc' := 4) [(.aload_n 0, 0, 0, 0), (.getfield 382, 0, 10, 113)] (by decide +kernel) ⟨kf_10_382, trivial⟩ rfl (And.intro (kc rfl rfl) (?_))
  show Ev l d mi_X10_qIsOn 4 [some (.ref 65), some (.int p0)] [.int (s.1 65 113)] (hp s) 0 0 _
  refine Ev.if_le (off := 22) (tgt := 26) (by decide +kernel) (by decide) (fun b1 => ?_) (fun b1 => ?_)
  · have hf := (if_pos b1).symm.trans hf
    refine Ev.blk (pc' := 27) [(.iconst 0, 0, 0, 0)] (by decide +kernel) trivial rfl (?_)
    show Ev l d mi_X10_qIsOn 27 [some (.ref 65), some (.int p0)] [.int (Int32.ofInt 0)] (hp s) 0 0 _
    cases hf
    exact Ev.iret .boolean rfl rfl (by decide +kernel) (Nat.le_refl _) (Nat.le_refl _)
  · have hf := (if_neg b1).symm.trans hf
    obtain ⟨c2, hf⟩ := gd_some hf
    refine Ev.blk (pc' := 19) [(.aload_n 0, 0, 0, 0), (.getfield 266, 0, 10, 112), (.aload_n 0, 0, 0, 0), (.getfield 382, 0, 10, 113), (.iconst 1, 0, 0, 0), (.isub, 0, 0, 0), (.iaload, 0, 0, 0), (.iload_n 1, 0, 0, 0)] (by decide +kernel) ⟨kf_10_266, ⟨kf_10_382, trivial⟩⟩ rfl (And.intro (kc rfl rfl) (Exists.intro 147 (And.intro rfl (And.intro (kc rfl rfl) (And.intro (kc rfl rfl) (And.intro (ib_ok c2) (?_)))))))
    show Ev l d mi_X10_qIsOn 19 [some (.ref 65), some (.int p0)] [.int p0, .int (s.1 147 ((s.1 65 113) - (Int32.ofInt 1)).toNatClampNeg)] (hp s) 0 0 _
    refine Ev.icmp_ne (off := 7) (tgt := 26) (by decide +kernel) (by decide) (fun b3 => ?_) (fun b3 => ?_)
    · have hf := (if_neg b3).symm.trans hf
      refine Ev.blk (pc' := 27) [(.iconst 0, 0, 0, 0)] (by decide +kernel) trivial rfl (?_)
      show Ev l d mi_X10_qIsOn 27 [some (.ref 65), some (.int p0)] [.int (Int32.ofInt 0)] (hp s) 0 0 _
      cases hf
      exact Ev.iret .boolean rfl rfl (by decide +kernel) (Nat.le_refl _) (Nat.le_refl _)
    · have hf := (if_pos b3).symm.trans hf
      refine Ev.blk (pc' := 23) [(.iconst 1, 0, 0, 0)] (by decide +kernel) trivial rfl (?_)
      show Ev l d mi_X10_qIsOn 23 [some (.ref 65), some (.int p0)] [.int (Int32.ofInt 1)] (hp s) 0 0 _
      refine Ev.goto (off := 4) (tgt := 27) (by decide +kernel) (by decide) ?_
      cases hf
      exact Ev.iret .boolean rfl rfl (by decide +kernel) (Nat.le_refl _) (Nat.le_refl _)
def f_X10_qGoesOn_j115 (k0 : ST → Option (Int32 × ST)) (s : ST) : Option (Int32 × ST) := (f_X10_qEndsPart s).bind (fun q34 => k0 q34)
set_option maxHeartbeats 2000000 in
set_option maxRecDepth 20000 in
theorem e_X10_qGoesOn_j115 {l : Launch} {d : Nat} (hd : 4 ≤ d) (k0 : ST → Option (Int32 × ST)) (hk0 : ∀ (s : ST) (r : Int32 × ST), k0 s = some r → Ev l d mi_X10_qGoesOn 0 [some (.ref 65), none] [] (hp s) 0 0 (some (.int r.1), hp r.2)) (s : ST) (r : Int32 × ST) (hf : f_X10_qGoesOn_j115 k0 s = some r) : Ev l d mi_X10_qGoesOn 115 [some (.ref 65), none] [] (hp s) 0 0 (some (.int r.1), hp r.2) := by
  unfold f_X10_qGoesOn_j115 at hf
  refine Ev.blk (pc' := 116) [(.aload_n 0, 0, 0, 0)] (by decide +kernel) trivial rfl (?_)
  show Ev l d mi_X10_qGoesOn 116 [some (.ref 65), none] [.ref 65] (hp s) 0 0 _
  obtain ⟨q34, hq34, hf⟩ := bd_some hf
  refine Ev.callV (o := 65) (M' := mi_X10_qEndsPart) (d' := d - 1) (As := []) (rest := []) (r' := (none, hp q34)) (e_X10_qEndsPart (d := d - 1) (by omega) s _ hq34) (by omega) wm_X10_qEndsPart wi_X10_qEndsPart wv_X10_qEndsPart km_10_703 (kc rfl rfl) (Nat.le_of_ble_eq_true rfl) rfl rfl rfl (Nat.le_of_ble_eq_true rfl) ⟨Nat.le_of_ble_eq_true rfl, Nat.le_of_ble_eq_true rfl⟩ (by decide +kernel) ?_
  show Ev l d mi_X10_qGoesOn 119 [some (.ref 65), none] [] (hp q34) 0 0 _
  refine Ev.goto (off := -119) (tgt := 0) (by decide +kernel) (by decide) ?_
  exact hk0 q34 _ hf
def f_X10_qGoesOn_j112 (k0 : ST → Option (Int32 × ST)) (y1 : Int32) (s : ST) : Option (Int32 × ST) := (f_X10_qCode y1 s).bind (fun q33 => (f_X10_qGoesOn_j115 k0) q33)
set_option maxHeartbeats 2000000 in
set_option maxRecDepth 20000 in
theorem e_X10_qGoesOn_j112 {l : Launch} {d : Nat} (hd : 4 ≤ d) (k0 : ST → Option (Int32 × ST)) (hk0 : ∀ (s : ST) (r : Int32 × ST), k0 s = some r → Ev l d mi_X10_qGoesOn 0 [some (.ref 65), none] [] (hp s) 0 0 (some (.int r.1), hp r.2)) (y1 : Int32) (s : ST) (r : Int32 × ST) (hf : f_X10_qGoesOn_j112 k0 y1 s = some r) : Ev l d mi_X10_qGoesOn 112 [some (.ref 65), none] [.int y1, .ref 65] (hp s) 0 0 (some (.int r.1), hp r.2) := by
  unfold f_X10_qGoesOn_j112 at hf
  obtain ⟨q33, hq33, hf⟩ := bd_some hf
  refine Ev.callV (o := 65) (M' := mi_X10_qCode) (d' := d - 1) (As := [.int y1]) (rest := []) (r' := (none, hp q33)) (e_X10_qCode (d := d - 1) (by omega) y1 s _ hq33) (by omega) wm_X10_qCode wi_X10_qCode wv_X10_qCode km_10_679 (kc rfl rfl) (Nat.le_of_ble_eq_true rfl) rfl rfl rfl (Nat.le_of_ble_eq_true rfl) ⟨Nat.le_of_ble_eq_true rfl, Nat.le_of_ble_eq_true rfl⟩ (by decide +kernel) ?_
  show Ev l d mi_X10_qGoesOn 115 [some (.ref 65), none] [] (hp q33) 0 0 _
  exact (e_X10_qGoesOn_j115 hd k0 hk0) q33 _ hf
def f_X10_qGoesOn_j43 (k0 : ST → Option (Int32 × ST)) (s : ST) : Option (Int32 × ST) := lt (uI s 65 2 ((s.1 65 2) + (Int32.ofInt 1))) (fun s10 => (f_X10_qDropsToBracket s10).bind (fun q11 => gd (ib ((uI (uI q11 65 113 ((q11.1 65 113) - (Int32.ofInt 1))) 65 114 (((uI q11 65 113 ((q11.1 65 113) - (Int32.ofInt 1))).1 65 114) - (Int32.ofInt 1))).1 65 113) 1700) (lt (uI (uI q11 65 113 ((q11.1 65 113) - (Int32.ofInt 1))) 65 114 (((uI q11 65 113 ((q11.1 65 113) - (Int32.ofInt 1))).1 65 114) - (Int32.ofInt 1))) (fun s13 => (if (s13.1 147 (s13.1 65 113).toNatClampNeg) = ((Int8.ofInt 20).toInt32) then (f_X10_qGoesOn_j115 k0) s13 else gd (ib (s13.1 65 113) 1700) ((if (s13.1 147 (s13.1 65 113).toNatClampNeg) = ((Int8.ofInt 23).toInt32) then (f_X10_qGoesOn_j112 k0) (Int32.ofInt 5) s13 else (f_X10_qGoesOn_j112 k0) ((Int8.ofInt 6).toInt32) s13)))))))
set_option maxHeartbeats 2000000 in
set_option maxRecDepth 20000 in
theorem e_X10_qGoesOn_j43 {l : Launch} {d : Nat} (hd : 4 ≤ d) (k0 : ST → Option (Int32 × ST)) (hk0 : ∀ (s : ST) (r : Int32 × ST), k0 s = some r → Ev l d mi_X10_qGoesOn 0 [some (.ref 65), none] [] (hp s) 0 0 (some (.int r.1), hp r.2)) (s : ST) (r : Int32 × ST) (hf : f_X10_qGoesOn_j43 k0 s = some r) : Ev l d mi_X10_qGoesOn 43 [some (.ref 65), none] [] (hp s) 0 0 (some (.int r.1), hp r.2) := by
  unfold f_X10_qGoesOn_j43 at hf
  obtain ⟨s10, hs10, hf⟩ := lt_some hf
  refine Ev.blk (pc' := 54) [(.aload_n 0, 0, 0, 0), (.dup, 0, 0, 0), (.getfield 284, 0, 10, 2), (.iconst 1, 0, 0, 0), (.iadd, 0, 0, 0), (.putfield 284, 0, 10, 2), (.aload_n 0, 0, 0, 0)] (by decide +kernel) ⟨kf_10_284, ⟨⟨kf_10_284, Or.inl rfl⟩, trivial⟩⟩ rfl (And.intro rfl (And.intro (kc rfl rfl) (And.intro (kc rfl rfl) (?_))))
  show Ev l d mi_X10_qGoesOn 54 [some (.ref 65), none] [.ref 65] (hp (uI s 65 2 ((s.1 65 2) + (Int32.ofInt 1)))) 0 0 _
  rw [← hs10]
  obtain ⟨q11, hq11, hf⟩ := bd_some hf
  refine Ev.callV (o := 65) (M' := mi_X10_qDropsToBracket) (d' := d - 1) (As := []) (rest := []) (r' := (none, hp q11)) (e_X10_qDropsToBracket (d := d - 1) (by omega) s10 _ hq11) (by omega) wm_X10_qDropsToBracket wi_X10_qDropsToBracket wv_X10_qDropsToBracket km_10_709 (kc rfl rfl) (Nat.le_of_ble_eq_true rfl) rfl rfl rfl (Nat.le_of_ble_eq_true rfl) ⟨Nat.le_of_ble_eq_true rfl, Nat.le_of_ble_eq_true rfl⟩ (by decide +kernel) ?_
  show Ev l d mi_X10_qGoesOn 57 [some (.ref 65), none] [] (hp q11) 0 0 _
  obtain ⟨c12, hf⟩ := gd_some hf
  obtain ⟨s13, hs13, hf⟩ := lt_some hf
  refine Ev.blk (pc' := 88) [(.aload_n 0, 0, 0, 0), (.dup, 0, 0, 0), (.getfield 382, 0, 10, 113), (.iconst 1, 0, 0, 0), (.isub, 0, 0, 0), (.putfield 382, 0, 10, 113), (.aload_n 0, 0, 0, 0), (.dup, 0, 0, 0), (.getfield 385, 0, 10, 114), (.iconst 1, 0, 0, 0), (.isub, 0, 0, 0), (.putfield 385, 0, 10, 114), (.aload_n 0, 0, 0, 0), (.getfield 266, 0, 10, 112), (.aload_n 0, 0, 0, 0), (.getfield 382, 0, 10, 113), (.iaload, 0, 0, 0), (.bipush 20, 0, 0, 0)] (by decide +kernel) ⟨kf_10_382, ⟨⟨kf_10_382, Or.inl rfl⟩, ⟨kf_10_385, ⟨⟨kf_10_385, Or.inl rfl⟩, ⟨kf_10_266, ⟨kf_10_382, trivial⟩⟩⟩⟩⟩⟩ rfl (And.intro rfl (And.intro (kc rfl rfl) (And.intro (kc rfl rfl) (And.intro rfl (And.intro (kc rfl rfl) (And.intro (kc rfl rfl) (And.intro (kc rfl rfl) (Exists.intro 147 (And.intro rfl (And.intro (kc rfl rfl) (And.intro (kc rfl rfl) (And.intro (ib_ok c12) (?_)))))))))))))
  show Ev l d mi_X10_qGoesOn 88 [some (.ref 65), none] [.int ((Int8.ofInt 20).toInt32), .int ((uI (uI q11 65 113 ((q11.1 65 113) - (Int32.ofInt 1))) 65 114 (((uI q11 65 113 ((q11.1 65 113) - (Int32.ofInt 1))).1 65 114) - (Int32.ofInt 1))).1 147 ((uI (uI q11 65 113 ((q11.1 65 113) - (Int32.ofInt 1))) 65 114 (((uI q11 65 113 ((q11.1 65 113) - (Int32.ofInt 1))).1 65 114) - (Int32.ofInt 1))).1 65 113).toNatClampNeg)] (hp (uI (uI q11 65 113 ((q11.1 65 113) - (Int32.ofInt 1))) 65 114 (((uI q11 65 113 ((q11.1 65 113) - (Int32.ofInt 1))).1 65 114) - (Int32.ofInt 1)))) 0 0 _
  rw [← hs13]
  refine Ev.icmp_eq (off := 27) (tgt := 115) (by decide +kernel) (by decide) (fun b14 => ?_) (fun b14 => ?_)
  · have hf := (if_pos b14).symm.trans hf
    exact (e_X10_qGoesOn_j115 hd k0 hk0) s13 _ hf
  · have hf := (if_neg b14).symm.trans hf
    obtain ⟨c15, hf⟩ := gd_some hf
    refine Ev.blk (pc' := 103) [(.aload_n 0, 0, 0, 0), (.aload_n 0, 0, 0, 0), (.getfield 266, 0, 10, 112), (.aload_n 0, 0, 0, 0), (.getfield 382, 0, 10, 113), (.iaload, 0, 0, 0), (.bipush 23, 0, 0, 0)] (by decide +kernel) ⟨kf_10_266, ⟨kf_10_382, trivial⟩⟩ rfl (And.intro (kc rfl rfl) (Exists.intro 147 (And.intro rfl (And.intro (kc rfl rfl) (And.intro (kc rfl rfl) (And.intro (ib_ok c15) (?_)))))))
    show Ev l d mi_X10_qGoesOn 103 [some (.ref 65), none] [.int ((Int8.ofInt 23).toInt32), .int (s13.1 147 (s13.1 65 113).toNatClampNeg), .ref 65] (hp s13) 0 0 _
    refine Ev.icmp_ne (off := 7) (tgt := 110) (by decide +kernel) (by decide) (fun b16 => ?_) (fun b16 => ?_)
    · have hf := (if_neg b16).symm.trans hf
      refine Ev.blk (pc' := 112) [(.bipush 6, 0, 0, 0)] (by decide +kernel) trivial rfl (?_)
      show Ev l d mi_X10_qGoesOn 112 [some (.ref 65), none] [.int ((Int8.ofInt 6).toInt32), .ref 65] (hp s13) 0 0 _
      exact (e_X10_qGoesOn_j112 hd k0 hk0) ((Int8.ofInt 6).toInt32) s13 _ hf
    · have hf := (if_pos b16).symm.trans hf
      refine Ev.blk (pc' := 107) [(.iconst 5, 0, 0, 0)] (by decide +kernel) trivial rfl (?_)
      show Ev l d mi_X10_qGoesOn 107 [some (.ref 65), none] [.int (Int32.ofInt 5), .ref 65] (hp s13) 0 0 _
      refine Ev.goto (off := 5) (tgt := 112) (by decide +kernel) (by decide) ?_
      exact (e_X10_qGoesOn_j112 hd k0 hk0) (Int32.ofInt 5) s13 _ hf
def f_X10_qGoesOn_L0 (k122 : ST → Option (Int32 × ST)) : Nat → ST → Option (Int32 × ST)
  | 0, _ => none
  | n + 1, s => (if (s.1 65 5) = 0 then (f_X10_look s).bind (fun q2 => (if q2.1 = ((Int8.ofInt 41).toInt32) then (f_X10_qBracket q2.2).bind (fun q4 => (if q4.1 = ((Int8.ofInt 20).toInt32) then (f_X10_qGoesOn_j43 (f_X10_qGoesOn_L0 k122 n)) q4.2 else (f_X10_qBracket q4.2).bind (fun q6 => (if q6.1 = ((Int8.ofInt 23).toInt32) then (f_X10_qGoesOn_j43 (f_X10_qGoesOn_L0 k122 n)) q6.2 else (f_X10_qBracket q6.2).bind (fun q8 => (if q8.1 = ((Int8.ofInt 24).toInt32) then (f_X10_qGoesOn_j43 (f_X10_qGoesOn_L0 k122 n)) q8.2 else k122 q8.2)))))) else k122 q2.2)) else k122 s)
set_option maxHeartbeats 2000000 in
set_option maxRecDepth 20000 in
theorem e_X10_qGoesOn_L0 {l : Launch} {d : Nat} (hd : 4 ≤ d) (k122 : ST → Option (Int32 × ST)) (hk122 : ∀ (s : ST) (r : Int32 × ST), k122 s = some r → Ev l d mi_X10_qGoesOn 122 [some (.ref 65), none] [] (hp s) 0 0 (some (.int r.1), hp r.2)) : ∀ (n : Nat) (s : ST) (r : Int32 × ST), f_X10_qGoesOn_L0 k122 n s = some r → Ev l d mi_X10_qGoesOn 0 [some (.ref 65), none] [] (hp s) 0 0 (some (.int r.1), hp r.2) := by
  intro n
  induction n with
  | zero =>
    intro s r hf
    cases hf
  | succ n ih =>
    intro s r hf
    unfold f_X10_qGoesOn_L0 at hf
    refine Ev.blk (pc' := 4) [(.aload_n 0, 0, 0, 0), (.getfield 278, 0, 10, 5)] (by decide +kernel) ⟨kf_10_278, trivial⟩ rfl (And.intro (kc rfl rfl) (?_))
    show Ev l d mi_X10_qGoesOn 4 [some (.ref 65), none] [.int (s.1 65 5)] (hp s) 0 0 _
    refine Ev.if_ne (off := 118) (tgt := 122) (by decide +kernel) (by decide) (fun b1 => ?_) (fun b1 => ?_)
    · have hf := (if_neg b1).symm.trans hf
      exact hk122 s _ hf
    · have hf := (if_pos b1).symm.trans hf
      refine Ev.blk (pc' := 8) [(.aload_n 0, 0, 0, 0)] (by decide +kernel) trivial rfl (?_)
      show Ev l d mi_X10_qGoesOn 8 [some (.ref 65), none] [.ref 65] (hp s) 0 0 _
      obtain ⟨q2, hq2, hf⟩ := bd_some hf
      refine Ev.callV (o := 65) (M' := mi_X10_look) (d' := d - 1) (As := []) (rest := []) (r' := (some (.int q2.1), hp q2.2)) (e_X10_look (d := d - 1) (by omega) s _ hq2) (by omega) wm_X10_look wi_X10_look wv_X10_look km_10_290 (kc rfl rfl) (Nat.le_of_ble_eq_true rfl) rfl rfl rfl (Nat.le_of_ble_eq_true rfl) ⟨Nat.le_of_ble_eq_true rfl, Nat.le_of_ble_eq_true rfl⟩ (by decide +kernel) ?_
      show Ev l d mi_X10_qGoesOn 11 [some (.ref 65), none] [.int q2.1] (hp q2.2) 0 0 _
      refine Ev.blk (pc' := 13) [(.bipush 41, 0, 0, 0)] (by decide +kernel) trivial rfl (?_)
      show Ev l d mi_X10_qGoesOn 13 [some (.ref 65), none] [.int ((Int8.ofInt 41).toInt32), .int q2.1] (hp q2.2) 0 0 _
      refine Ev.icmp_ne (off := 109) (tgt := 122) (by decide +kernel) (by decide) (fun b3 => ?_) (fun b3 => ?_)
      · have hf := (if_neg b3).symm.trans hf
        exact hk122 q2.2 _ hf
      · have hf := (if_pos b3).symm.trans hf
        refine Ev.blk (pc' := 17) [(.aload_n 0, 0, 0, 0)] (by decide +kernel) trivial rfl (?_)
        show Ev l d mi_X10_qGoesOn 17 [some (.ref 65), none] [.ref 65] (hp q2.2) 0 0 _
        obtain ⟨q4, hq4, hf⟩ := bd_some hf
        refine Ev.callV (o := 65) (M' := mi_X10_qBracket) (d' := d - 1) (As := []) (rest := []) (r' := (some (.int q4.1), hp q4.2)) (e_X10_qBracket (d := d - 1) (by omega) q2.2 _ hq4) (by omega) wm_X10_qBracket wi_X10_qBracket wv_X10_qBracket km_10_706 (kc rfl rfl) (Nat.le_of_ble_eq_true rfl) rfl rfl rfl (Nat.le_of_ble_eq_true rfl) ⟨Nat.le_of_ble_eq_true rfl, Nat.le_of_ble_eq_true rfl⟩ (by decide +kernel) ?_
        show Ev l d mi_X10_qGoesOn 20 [some (.ref 65), none] [.int q4.1] (hp q4.2) 0 0 _
        refine Ev.blk (pc' := 22) [(.bipush 20, 0, 0, 0)] (by decide +kernel) trivial rfl (?_)
        show Ev l d mi_X10_qGoesOn 22 [some (.ref 65), none] [.int ((Int8.ofInt 20).toInt32), .int q4.1] (hp q4.2) 0 0 _
        refine Ev.icmp_eq (off := 21) (tgt := 43) (by decide +kernel) (by decide) (fun b5 => ?_) (fun b5 => ?_)
        · have hf := (if_pos b5).symm.trans hf
          exact (e_X10_qGoesOn_j43 hd (f_X10_qGoesOn_L0 k122 n) ih) q4.2 _ hf
        · have hf := (if_neg b5).symm.trans hf
          refine Ev.blk (pc' := 26) [(.aload_n 0, 0, 0, 0)] (by decide +kernel) trivial rfl (?_)
          show Ev l d mi_X10_qGoesOn 26 [some (.ref 65), none] [.ref 65] (hp q4.2) 0 0 _
          obtain ⟨q6, hq6, hf⟩ := bd_some hf
          refine Ev.callV (o := 65) (M' := mi_X10_qBracket) (d' := d - 1) (As := []) (rest := []) (r' := (some (.int q6.1), hp q6.2)) (e_X10_qBracket (d := d - 1) (by omega) q4.2 _ hq6) (by omega) wm_X10_qBracket wi_X10_qBracket wv_X10_qBracket km_10_706 (kc rfl rfl) (Nat.le_of_ble_eq_true rfl) rfl rfl rfl (Nat.le_of_ble_eq_true rfl) ⟨Nat.le_of_ble_eq_true rfl, Nat.le_of_ble_eq_true rfl⟩ (by decide +kernel) ?_
          show Ev l d mi_X10_qGoesOn 29 [some (.ref 65), none] [.int q6.1] (hp q6.2) 0 0 _
          refine Ev.blk (pc' := 31) [(.bipush 23, 0, 0, 0)] (by decide +kernel) trivial rfl (?_)
          show Ev l d mi_X10_qGoesOn 31 [some (.ref 65), none] [.int ((Int8.ofInt 23).toInt32), .int q6.1] (hp q6.2) 0 0 _
          refine Ev.icmp_eq (off := 12) (tgt := 43) (by decide +kernel) (by decide) (fun b7 => ?_) (fun b7 => ?_)
          · have hf := (if_pos b7).symm.trans hf
            exact (e_X10_qGoesOn_j43 hd (f_X10_qGoesOn_L0 k122 n) ih) q6.2 _ hf
          · have hf := (if_neg b7).symm.trans hf
            refine Ev.blk (pc' := 35) [(.aload_n 0, 0, 0, 0)] (by decide +kernel) trivial rfl (?_)
            show Ev l d mi_X10_qGoesOn 35 [some (.ref 65), none] [.ref 65] (hp q6.2) 0 0 _
            obtain ⟨q8, hq8, hf⟩ := bd_some hf
            refine Ev.callV (o := 65) (M' := mi_X10_qBracket) (d' := d - 1) (As := []) (rest := []) (r' := (some (.int q8.1), hp q8.2)) (e_X10_qBracket (d := d - 1) (by omega) q6.2 _ hq8) (by omega) wm_X10_qBracket wi_X10_qBracket wv_X10_qBracket km_10_706 (kc rfl rfl) (Nat.le_of_ble_eq_true rfl) rfl rfl rfl (Nat.le_of_ble_eq_true rfl) ⟨Nat.le_of_ble_eq_true rfl, Nat.le_of_ble_eq_true rfl⟩ (by decide +kernel) ?_
            show Ev l d mi_X10_qGoesOn 38 [some (.ref 65), none] [.int q8.1] (hp q8.2) 0 0 _
            refine Ev.blk (pc' := 40) [(.bipush 24, 0, 0, 0)] (by decide +kernel) trivial rfl (?_)
            show Ev l d mi_X10_qGoesOn 40 [some (.ref 65), none] [.int ((Int8.ofInt 24).toInt32), .int q8.1] (hp q8.2) 0 0 _
            refine Ev.icmp_ne (off := 82) (tgt := 122) (by decide +kernel) (by decide) (fun b9 => ?_) (fun b9 => ?_)
            · have hf := (if_neg b9).symm.trans hf
              exact hk122 q8.2 _ hf
            · have hf := (if_pos b9).symm.trans hf
              exact (e_X10_qGoesOn_j43 hd (f_X10_qGoesOn_L0 k122 n) ih) q8.2 _ hf
def f_X10_qGoesOn_j326 (s : ST) : Option (Int32 × ST) := (f_X10_asksSign ((Int8.ofInt 44).toInt32) s).bind (fun q39 => (if (q39.1 65 5) = 0 then (f_X10_qDropsToBracket q39).bind (fun q41 => gd (ib ((q41.1 65 113) - (Int32.ofInt 1)) 1700) (gd (ib ((q41.1 65 113) - (Int32.ofInt 1)) 1700) (lt (uI q41 147 ((q41.1 65 113) - (Int32.ofInt 1)).toNatClampNeg ((q41.1 147 ((q41.1 65 113) - (Int32.ofInt 1)).toNatClampNeg) + (Int32.ofInt 2))) (fun s44 => some ((Int32.ofInt 1), s44))))) else some ((Int32.ofInt 0), q39)))
set_option maxHeartbeats 2000000 in
set_option maxRecDepth 20000 in
theorem e_X10_qGoesOn_j326 {l : Launch} {d : Nat} (hd : 4 ≤ d) (s : ST) (r : Int32 × ST) (hf : f_X10_qGoesOn_j326 s = some r) : Ev l d mi_X10_qGoesOn 326 [some (.ref 65), none] [] (hp s) 0 0 (some (.int r.1), hp r.2) := by
  unfold f_X10_qGoesOn_j326 at hf
  refine Ev.blk (pc' := 329) [(.aload_n 0, 0, 0, 0), (.bipush 44, 0, 0, 0)] (by decide +kernel) trivial rfl (?_)
  show Ev l d mi_X10_qGoesOn 329 [some (.ref 65), none] [.int ((Int8.ofInt 44).toInt32), .ref 65] (hp s) 0 0 _
  obtain ⟨q39, hq39, hf⟩ := bd_some hf
  refine Ev.callV (o := 65) (M' := mi_X10_asksSign) (d' := d - 1) (As := [.int ((Int8.ofInt 44).toInt32)]) (rest := []) (r' := (none, hp q39)) (e_X10_asksSign (d := d - 1) (by omega) ((Int8.ofInt 44).toInt32) s _ hq39) (by omega) wm_X10_asksSign wi_X10_asksSign wv_X10_asksSign km_10_356 (kc rfl rfl) (Nat.le_of_ble_eq_true rfl) rfl rfl rfl (Nat.le_of_ble_eq_true rfl) ⟨Nat.le_of_ble_eq_true rfl, Nat.le_of_ble_eq_true rfl⟩ (by decide +kernel) ?_
  show Ev l d mi_X10_qGoesOn 332 [some (.ref 65), none] [] (hp q39) 0 0 _
  refine Ev.blk (pc' := 336) [(.aload_n 0, 0, 0, 0), (.getfield 278, 0, 10, 5)] (by decide +kernel) ⟨kf_10_278, trivial⟩ rfl (And.intro (kc rfl rfl) (?_))
  show Ev l d mi_X10_qGoesOn 336 [some (.ref 65), none] [.int (q39.1 65 5)] (hp q39) 0 0 _
  refine Ev.if_eq (off := 5) (tgt := 341) (by decide +kernel) (by decide) (fun b40 => ?_) (fun b40 => ?_)
  · have hf := (if_pos b40).symm.trans hf
    refine Ev.blk (pc' := 342) [(.aload_n 0, 0, 0, 0)] (by decide +kernel) trivial rfl (?_)
    show Ev l d mi_X10_qGoesOn 342 [some (.ref 65), none] [.ref 65] (hp q39) 0 0 _
    obtain ⟨q41, hq41, hf⟩ := bd_some hf
    refine Ev.callV (o := 65) (M' := mi_X10_qDropsToBracket) (d' := d - 1) (As := []) (rest := []) (r' := (none, hp q41)) (e_X10_qDropsToBracket (d := d - 1) (by omega) q39 _ hq41) (by omega) wm_X10_qDropsToBracket wi_X10_qDropsToBracket wv_X10_qDropsToBracket km_10_709 (kc rfl rfl) (Nat.le_of_ble_eq_true rfl) rfl rfl rfl (Nat.le_of_ble_eq_true rfl) ⟨Nat.le_of_ble_eq_true rfl, Nat.le_of_ble_eq_true rfl⟩ (by decide +kernel) ?_
    show Ev l d mi_X10_qGoesOn 345 [some (.ref 65), none] [] (hp q41) 0 0 _
    obtain ⟨c42, hf⟩ := gd_some hf
    obtain ⟨c43, hf⟩ := gd_some hf
    obtain ⟨s44, hs44, hf⟩ := lt_some hf
    refine Ev.blk (pc' := 361) [(.aload_n 0, 0, 0, 0), (.getfield 266, 0, 10, 112), (.aload_n 0, 0, 0, 0), (.getfield 382, 0, 10, 113), (.iconst 1, 0, 0, 0), (.isub, 0, 0, 0), (.dup2, 0, 0, 0), (.iaload, 0, 0, 0), (.iconst 2, 0, 0, 0), (.iadd, 0, 0, 0), (.iastore, 0, 0, 0), (.iconst 1, 0, 0, 0)] (by decide +kernel) ⟨kf_10_266, ⟨kf_10_382, trivial⟩⟩ rfl (And.intro (kc rfl rfl) (Exists.intro 147 (And.intro rfl (And.intro (kc rfl rfl) (And.intro (And.intro rfl rfl) (And.intro (kc rfl rfl) (And.intro (ib_ok c42) (And.intro (kc rfl rfl) (And.intro (ib_ok c43) (?_))))))))))
    show Ev l d mi_X10_qGoesOn 361 [some (.ref 65), none] [.int (Int32.ofInt 1)] (hp (uI q41 147 ((q41.1 65 113) - (Int32.ofInt 1)).toNatClampNeg ((q41.1 147 ((q41.1 65 113) - (Int32.ofInt 1)).toNatClampNeg) + (Int32.ofInt 2)))) 0 0 _
    rw [← hs44]
    cases hf
    exact Ev.iret .boolean rfl rfl (by decide +kernel) (Nat.le_refl _) (Nat.le_refl _)
  · have hf := (if_neg b40).symm.trans hf
    refine Ev.blk (pc' := 340) [(.iconst 0, 0, 0, 0)] (by decide +kernel) trivial rfl (?_)
    show Ev l d mi_X10_qGoesOn 340 [some (.ref 65), none] [.int (Int32.ofInt 0)] (hp q39) 0 0 _
    cases hf
    exact Ev.iret .boolean rfl rfl (by decide +kernel) (Nat.le_refl _) (Nat.le_refl _)
def f_X10_qGoesOn_j279 (k247 : Int32 → ST → Option (Int32 × ST)) (x1 : Int32) (s : ST) : Option (Int32 × ST) := (f_X10_qDrops s).bind (fun q60 => k247 x1 q60)
set_option maxHeartbeats 2000000 in
set_option maxRecDepth 20000 in
theorem e_X10_qGoesOn_j279 {l : Launch} {d : Nat} (hd : 4 ≤ d) (k247 : Int32 → ST → Option (Int32 × ST)) (hk247 : ∀ (x1 : Int32) (s : ST) (r : Int32 × ST), k247 x1 s = some r → Ev l d mi_X10_qGoesOn 247 [some (.ref 65), some (.int x1)] [] (hp s) 0 0 (some (.int r.1), hp r.2)) (x1 : Int32) (s : ST) (r : Int32 × ST) (hf : f_X10_qGoesOn_j279 k247 x1 s = some r) : Ev l d mi_X10_qGoesOn 279 [some (.ref 65), some (.int x1)] [] (hp s) 0 0 (some (.int r.1), hp r.2) := by
  unfold f_X10_qGoesOn_j279 at hf
  refine Ev.blk (pc' := 280) [(.aload_n 0, 0, 0, 0)] (by decide +kernel) trivial rfl (?_)
  show Ev l d mi_X10_qGoesOn 280 [some (.ref 65), some (.int x1)] [.ref 65] (hp s) 0 0 _
  obtain ⟨q60, hq60, hf⟩ := bd_some hf
  refine Ev.callV (o := 65) (M' := mi_X10_qDrops) (d' := d - 1) (As := []) (rest := []) (r' := (none, hp q60)) (e_X10_qDrops (d := d - 1) (by omega) s _ hq60) (by omega) wm_X10_qDrops wi_X10_qDrops wv_X10_qDrops km_10_685 (kc rfl rfl) (Nat.le_of_ble_eq_true rfl) rfl rfl rfl (Nat.le_of_ble_eq_true rfl) ⟨Nat.le_of_ble_eq_true rfl, Nat.le_of_ble_eq_true rfl⟩ (by decide +kernel) ?_
  show Ev l d mi_X10_qGoesOn 283 [some (.ref 65), some (.int x1)] [] (hp q60) 0 0 _
  refine Ev.goto (off := -36) (tgt := 247) (by decide +kernel) (by decide) ?_
  exact hk247 x1 q60 _ hf
def f_X10_qGoesOn_L247 (k286 : Int32 → ST → Option (Int32 × ST)) : Nat → Int32 → ST → Option (Int32 × ST)
  | 0, _, _ => none
  | n + 1, x1, s => (f_X10_qIsOn (Int32.ofInt 3) s).bind (fun q49 => (if q49.1 = 0 then (f_X10_qIsOn (Int32.ofInt 4) q49.2).bind (fun q51 => (if q51.1 = 0 then (f_X10_qIsOn (Int32.ofInt 1) q51.2).bind (fun q53 => (if q53.1 = 0 then (f_X10_qIsOn (Int32.ofInt 2) q53.2).bind (fun q55 => (if q55.1 = 0 then k286 x1 q55.2 else (f_X10_qGoesOn_j279 (f_X10_qGoesOn_L247 k286 n)) x1 q55.2)) else (f_X10_qGoesOn_j279 (f_X10_qGoesOn_L247 k286 n)) x1 q53.2)) else (f_X10_qGoesOn_j279 (f_X10_qGoesOn_L247 k286 n)) x1 q51.2)) else (f_X10_qGoesOn_j279 (f_X10_qGoesOn_L247 k286 n)) x1 q49.2))
set_option maxHeartbeats 2000000 in
set_option maxRecDepth 20000 in
theorem e_X10_qGoesOn_L247 {l : Launch} {d : Nat} (hd : 4 ≤ d) (k286 : Int32 → ST → Option (Int32 × ST)) (hk286 : ∀ (x1 : Int32) (s : ST) (r : Int32 × ST), k286 x1 s = some r → Ev l d mi_X10_qGoesOn 286 [some (.ref 65), some (.int x1)] [] (hp s) 0 0 (some (.int r.1), hp r.2)) : ∀ (n : Nat) (x1 : Int32) (s : ST) (r : Int32 × ST), f_X10_qGoesOn_L247 k286 n x1 s = some r → Ev l d mi_X10_qGoesOn 247 [some (.ref 65), some (.int x1)] [] (hp s) 0 0 (some (.int r.1), hp r.2) := by
  intro n
  induction n with
  | zero =>
    intro x1 s r hf
    cases hf
  | succ n ih =>
    intro x1 s r hf
    unfold f_X10_qGoesOn_L247 at hf
    refine Ev.blk (pc' := 249) [(.aload_n 0, 0, 0, 0), (.iconst 3, 0, 0, 0)] (by decide +kernel) trivial rfl (?_)
    show Ev l d mi_X10_qGoesOn 249 [some (.ref 65), some (.int x1)] [.int (Int32.ofInt 3), .ref 65] (hp s) 0 0 _
    obtain ⟨q49, hq49, hf⟩ := bd_some hf
    refine Ev.callV (o := 65) (M' := mi_X10_qIsOn) (d' := d - 1) (As := [.int (Int32.ofInt 3)]) (rest := []) (r' := (some (.int q49.1), hp q49.2)) (e_X10_qIsOn (d := d - 1) (by omega) (Int32.ofInt 3) s _ hq49) (by omega) wm_X10_qIsOn wi_X10_qIsOn wv_X10_qIsOn km_10_712 (kc rfl rfl) (Nat.le_of_ble_eq_true rfl) rfl rfl rfl (Nat.le_of_ble_eq_true rfl) ⟨Nat.le_of_ble_eq_true rfl, Nat.le_of_ble_eq_true rfl⟩ (by decide +kernel) ?_
    show Ev l d mi_X10_qGoesOn 252 [some (.ref 65), some (.int x1)] [.int q49.1] (hp q49.2) 0 0 _
    refine Ev.if_ne (off := 27) (tgt := 279) (by decide +kernel) (by decide) (fun b50 => ?_) (fun b50 => ?_)
    · have hf := (if_neg b50).symm.trans hf
      exact (e_X10_qGoesOn_j279 hd (f_X10_qGoesOn_L247 k286 n) ih) x1 q49.2 _ hf
    · have hf := (if_pos b50).symm.trans hf
      refine Ev.blk (pc' := 257) [(.aload_n 0, 0, 0, 0), (.iconst 4, 0, 0, 0)] (by decide +kernel) trivial rfl (?_)
      show Ev l d mi_X10_qGoesOn 257 [some (.ref 65), some (.int x1)] [.int (Int32.ofInt 4), .ref 65] (hp q49.2) 0 0 _
      obtain ⟨q51, hq51, hf⟩ := bd_some hf
      refine Ev.callV (o := 65) (M' := mi_X10_qIsOn) (d' := d - 1) (As := [.int (Int32.ofInt 4)]) (rest := []) (r' := (some (.int q51.1), hp q51.2)) (e_X10_qIsOn (d := d - 1) (by omega) (Int32.ofInt 4) q49.2 _ hq51) (by omega) wm_X10_qIsOn wi_X10_qIsOn wv_X10_qIsOn km_10_712 (kc rfl rfl) (Nat.le_of_ble_eq_true rfl) rfl rfl rfl (Nat.le_of_ble_eq_true rfl) ⟨Nat.le_of_ble_eq_true rfl, Nat.le_of_ble_eq_true rfl⟩ (by decide +kernel) ?_
      show Ev l d mi_X10_qGoesOn 260 [some (.ref 65), some (.int x1)] [.int q51.1] (hp q51.2) 0 0 _
      refine Ev.if_ne (off := 19) (tgt := 279) (by decide +kernel) (by decide) (fun b52 => ?_) (fun b52 => ?_)
      · have hf := (if_neg b52).symm.trans hf
        exact (e_X10_qGoesOn_j279 hd (f_X10_qGoesOn_L247 k286 n) ih) x1 q51.2 _ hf
      · have hf := (if_pos b52).symm.trans hf
        refine Ev.blk (pc' := 265) [(.aload_n 0, 0, 0, 0), (.iconst 1, 0, 0, 0)] (by decide +kernel) trivial rfl (?_)
        show Ev l d mi_X10_qGoesOn 265 [some (.ref 65), some (.int x1)] [.int (Int32.ofInt 1), .ref 65] (hp q51.2) 0 0 _
        obtain ⟨q53, hq53, hf⟩ := bd_some hf
        refine Ev.callV (o := 65) (M' := mi_X10_qIsOn) (d' := d - 1) (As := [.int (Int32.ofInt 1)]) (rest := []) (r' := (some (.int q53.1), hp q53.2)) (e_X10_qIsOn (d := d - 1) (by omega) (Int32.ofInt 1) q51.2 _ hq53) (by omega) wm_X10_qIsOn wi_X10_qIsOn wv_X10_qIsOn km_10_712 (kc rfl rfl) (Nat.le_of_ble_eq_true rfl) rfl rfl rfl (Nat.le_of_ble_eq_true rfl) ⟨Nat.le_of_ble_eq_true rfl, Nat.le_of_ble_eq_true rfl⟩ (by decide +kernel) ?_
        show Ev l d mi_X10_qGoesOn 268 [some (.ref 65), some (.int x1)] [.int q53.1] (hp q53.2) 0 0 _
        refine Ev.if_ne (off := 11) (tgt := 279) (by decide +kernel) (by decide) (fun b54 => ?_) (fun b54 => ?_)
        · have hf := (if_neg b54).symm.trans hf
          exact (e_X10_qGoesOn_j279 hd (f_X10_qGoesOn_L247 k286 n) ih) x1 q53.2 _ hf
        · have hf := (if_pos b54).symm.trans hf
          refine Ev.blk (pc' := 273) [(.aload_n 0, 0, 0, 0), (.iconst 2, 0, 0, 0)] (by decide +kernel) trivial rfl (?_)
          show Ev l d mi_X10_qGoesOn 273 [some (.ref 65), some (.int x1)] [.int (Int32.ofInt 2), .ref 65] (hp q53.2) 0 0 _
          obtain ⟨q55, hq55, hf⟩ := bd_some hf
          refine Ev.callV (o := 65) (M' := mi_X10_qIsOn) (d' := d - 1) (As := [.int (Int32.ofInt 2)]) (rest := []) (r' := (some (.int q55.1), hp q55.2)) (e_X10_qIsOn (d := d - 1) (by omega) (Int32.ofInt 2) q53.2 _ hq55) (by omega) wm_X10_qIsOn wi_X10_qIsOn wv_X10_qIsOn km_10_712 (kc rfl rfl) (Nat.le_of_ble_eq_true rfl) rfl rfl rfl (Nat.le_of_ble_eq_true rfl) ⟨Nat.le_of_ble_eq_true rfl, Nat.le_of_ble_eq_true rfl⟩ (by decide +kernel) ?_
          show Ev l d mi_X10_qGoesOn 276 [some (.ref 65), some (.int x1)] [.int q55.1] (hp q55.2) 0 0 _
          refine Ev.if_eq (off := 10) (tgt := 286) (by decide +kernel) (by decide) (fun b56 => ?_) (fun b56 => ?_)
          · have hf := (if_pos b56).symm.trans hf
            exact hk286 x1 q55.2 _ hf
          · have hf := (if_neg b56).symm.trans hf
            exact (e_X10_qGoesOn_j279 hd (f_X10_qGoesOn_L247 k286 n) ih) x1 q55.2 _ hf
def f_X10_qGoesOn_j286 (x1 : Int32) (s : ST) : Option (Int32 × ST) := gd (ib (s.1 65 113) 1700) (lt (uI (uI s 147 (s.1 65 113).toNatClampNeg x1) 65 113 (((uI s 147 (s.1 65 113).toNatClampNeg x1).1 65 113) + (Int32.ofInt 1))) (fun s62 => some ((Int32.ofInt 1), s62)))
set_option maxHeartbeats 2000000 in
set_option maxRecDepth 20000 in
theorem e_X10_qGoesOn_j286 {l : Launch} {d : Nat} (hd : 4 ≤ d) (x1 : Int32) (s : ST) (r : Int32 × ST) (hf : f_X10_qGoesOn_j286 x1 s = some r) : Ev l d mi_X10_qGoesOn 286 [some (.ref 65), some (.int x1)] [] (hp s) 0 0 (some (.int r.1), hp r.2) := by
  unfold f_X10_qGoesOn_j286 at hf
  obtain ⟨c61, hf⟩ := gd_some hf
  obtain ⟨s62, hs62, hf⟩ := lt_some hf
  refine Ev.blk (pc' := 307) [(.aload_n 0, 0, 0, 0), (.getfield 266, 0, 10, 112), (.aload_n 0, 0, 0, 0), (.getfield 382, 0, 10, 113), (.iload_n 1, 0, 0, 0), (.iastore, 0, 0, 0), (.aload_n 0, 0, 0, 0), (.dup, 0, 0, 0), (.getfield 382, 0, 10, 113), (.iconst 1, 0, 0, 0), (.iadd, 0, 0, 0), (.putfield 382, 0, 10, 113), (.iconst 1, 0, 0, 0)] (by decide +kernel) ⟨kf_10_266, ⟨kf_10_382, ⟨kf_10_382, ⟨⟨kf_10_382, Or.inl rfl⟩, trivial⟩⟩⟩⟩ rfl (And.intro (kc rfl rfl) (Exists.intro 147 (And.intro rfl (And.intro (kc rfl rfl) (And.intro (kc rfl rfl) (And.intro (ib_ok c61) (And.intro rfl (And.intro (kc rfl rfl) (And.intro (kc rfl rfl) (?_))))))))))
  show Ev l d mi_X10_qGoesOn 307 [some (.ref 65), some (.int x1)] [.int (Int32.ofInt 1)] (hp (uI (uI s 147 (s.1 65 113).toNatClampNeg x1) 65 113 (((uI s 147 (s.1 65 113).toNatClampNeg x1).1 65 113) + (Int32.ofInt 1)))) 0 0 _
  rw [← hs62]
  cases hf
  exact Ev.iret .boolean rfl rfl (by decide +kernel) (Nat.le_refl _) (Nat.le_refl _)
def f_X10_qGoesOn_j246 (y0 : Int32) (s : ST) : Option (Int32 × ST) := (f_X10_qGoesOn_L247 f_X10_qGoesOn_j286 fuel) y0 s
set_option maxHeartbeats 2000000 in
set_option maxRecDepth 20000 in
theorem e_X10_qGoesOn_j246 {l : Launch} {d : Nat} (hd : 4 ≤ d) (y0 : Int32) (s : ST) (r : Int32 × ST) (hf : f_X10_qGoesOn_j246 y0 s = some r) : Ev l d mi_X10_qGoesOn 246 [some (.ref 65), none] [.int y0] (hp s) 0 0 (some (.int r.1), hp r.2) := by
  unfold f_X10_qGoesOn_j246 at hf
  refine Ev.blk (pc' := 247) [(.istore_n 1, 0, 0, 0)] (by decide +kernel) trivial rfl (And.intro (Nat.le_of_ble_eq_true rfl) (?_))
  show Ev l d mi_X10_qGoesOn 247 [some (.ref 65), some (.int y0)] [] (hp s) 0 0 _
  exact (e_X10_qGoesOn_L247 hd f_X10_qGoesOn_j286 (e_X10_qGoesOn_j286 hd) fuel) y0 s _ hf
def f_X10_qGoesOn_j225 (s : ST) : Option (Int32 × ST) := gd (ib ((s.1 65 2) - (Int32.ofInt 1)) 1600) ((if (s.1 66 ((s.1 65 2) - (Int32.ofInt 1)).toNatClampNeg) = ((Int8.ofInt 43).toInt32) then f_X10_qGoesOn_j246 (Int32.ofInt 1) s else f_X10_qGoesOn_j246 (Int32.ofInt 2) s))
set_option maxHeartbeats 2000000 in
set_option maxRecDepth 20000 in
theorem e_X10_qGoesOn_j225 {l : Launch} {d : Nat} (hd : 4 ≤ d) (s : ST) (r : Int32 × ST) (hf : f_X10_qGoesOn_j225 s = some r) : Ev l d mi_X10_qGoesOn 225 [some (.ref 65), none] [] (hp s) 0 0 (some (.int r.1), hp r.2) := by
  unfold f_X10_qGoesOn_j225 at hf
  obtain ⟨c37, hf⟩ := gd_some hf
  refine Ev.blk (pc' := 238) [(.aload_n 0, 0, 0, 0), (.getfield 7, 0, 10, 0), (.aload_n 0, 0, 0, 0), (.getfield 284, 0, 10, 2), (.iconst 1, 0, 0, 0), (.isub, 0, 0, 0), (.iaload, 0, 0, 0), (.bipush 43, 0, 0, 0)] (by decide +kernel) ⟨kf_10_7, ⟨kf_10_284, trivial⟩⟩ rfl (And.intro (kc rfl rfl) (Exists.intro 66 (And.intro rfl (And.intro (kc rfl rfl) (And.intro (kc rfl rfl) (And.intro (ib_ok c37) (?_)))))))
  show Ev l d mi_X10_qGoesOn 238 [some (.ref 65), none] [.int ((Int8.ofInt 43).toInt32), .int (s.1 66 ((s.1 65 2) - (Int32.ofInt 1)).toNatClampNeg)] (hp s) 0 0 _
  refine Ev.icmp_ne (off := 7) (tgt := 245) (by decide +kernel) (by decide) (fun b38 => ?_) (fun b38 => ?_)
  · have hf := (if_neg b38).symm.trans hf
    refine Ev.blk (pc' := 246) [(.iconst 2, 0, 0, 0)] (by decide +kernel) trivial rfl (?_)
    show Ev l d mi_X10_qGoesOn 246 [some (.ref 65), none] [.int (Int32.ofInt 2)] (hp s) 0 0 _
    exact (e_X10_qGoesOn_j246 hd) (Int32.ofInt 2) s _ hf
  · have hf := (if_pos b38).symm.trans hf
    refine Ev.blk (pc' := 242) [(.iconst 1, 0, 0, 0)] (by decide +kernel) trivial rfl (?_)
    show Ev l d mi_X10_qGoesOn 242 [some (.ref 65), none] [.int (Int32.ofInt 1)] (hp s) 0 0 _
    refine Ev.goto (off := 4) (tgt := 246) (by decide +kernel) (by decide) ?_
    exact (e_X10_qGoesOn_j246 hd) (Int32.ofInt 1) s _ hf
def f_X10_qGoesOn_j178 (k162 : Int32 → ST → Option (Int32 × ST)) (x1 : Int32) (s : ST) : Option (Int32 × ST) := (f_X10_qDrops s).bind (fun q57 => k162 x1 q57)
set_option maxHeartbeats 2000000 in
set_option maxRecDepth 20000 in
theorem e_X10_qGoesOn_j178 {l : Launch} {d : Nat} (hd : 4 ≤ d) (k162 : Int32 → ST → Option (Int32 × ST)) (hk162 : ∀ (x1 : Int32) (s : ST) (r : Int32 × ST), k162 x1 s = some r → Ev l d mi_X10_qGoesOn 162 [some (.ref 65), some (.int x1)] [] (hp s) 0 0 (some (.int r.1), hp r.2)) (x1 : Int32) (s : ST) (r : Int32 × ST) (hf : f_X10_qGoesOn_j178 k162 x1 s = some r) : Ev l d mi_X10_qGoesOn 178 [some (.ref 65), some (.int x1)] [] (hp s) 0 0 (some (.int r.1), hp r.2) := by
  unfold f_X10_qGoesOn_j178 at hf
  refine Ev.blk (pc' := 179) [(.aload_n 0, 0, 0, 0)] (by decide +kernel) trivial rfl (?_)
  show Ev l d mi_X10_qGoesOn 179 [some (.ref 65), some (.int x1)] [.ref 65] (hp s) 0 0 _
  obtain ⟨q57, hq57, hf⟩ := bd_some hf
  refine Ev.callV (o := 65) (M' := mi_X10_qDrops) (d' := d - 1) (As := []) (rest := []) (r' := (none, hp q57)) (e_X10_qDrops (d := d - 1) (by omega) s _ hq57) (by omega) wm_X10_qDrops wi_X10_qDrops wv_X10_qDrops km_10_685 (kc rfl rfl) (Nat.le_of_ble_eq_true rfl) rfl rfl rfl (Nat.le_of_ble_eq_true rfl) ⟨Nat.le_of_ble_eq_true rfl, Nat.le_of_ble_eq_true rfl⟩ (by decide +kernel) ?_
  show Ev l d mi_X10_qGoesOn 182 [some (.ref 65), some (.int x1)] [] (hp q57) 0 0 _
  refine Ev.goto (off := -20) (tgt := 162) (by decide +kernel) (by decide) ?_
  exact hk162 x1 q57 _ hf
def f_X10_qGoesOn_L162 (k185 : Int32 → ST → Option (Int32 × ST)) : Nat → Int32 → ST → Option (Int32 × ST)
  | 0, _, _ => none
  | n + 1, x1, s => (f_X10_qIsOn (Int32.ofInt 3) s).bind (fun q45 => (if q45.1 = 0 then (f_X10_qIsOn (Int32.ofInt 4) q45.2).bind (fun q47 => (if q47.1 = 0 then k185 x1 q47.2 else (f_X10_qGoesOn_j178 (f_X10_qGoesOn_L162 k185 n)) x1 q47.2)) else (f_X10_qGoesOn_j178 (f_X10_qGoesOn_L162 k185 n)) x1 q45.2))
set_option maxHeartbeats 2000000 in
set_option maxRecDepth 20000 in
theorem e_X10_qGoesOn_L162 {l : Launch} {d : Nat} (hd : 4 ≤ d) (k185 : Int32 → ST → Option (Int32 × ST)) (hk185 : ∀ (x1 : Int32) (s : ST) (r : Int32 × ST), k185 x1 s = some r → Ev l d mi_X10_qGoesOn 185 [some (.ref 65), some (.int x1)] [] (hp s) 0 0 (some (.int r.1), hp r.2)) : ∀ (n : Nat) (x1 : Int32) (s : ST) (r : Int32 × ST), f_X10_qGoesOn_L162 k185 n x1 s = some r → Ev l d mi_X10_qGoesOn 162 [some (.ref 65), some (.int x1)] [] (hp s) 0 0 (some (.int r.1), hp r.2) := by
  intro n
  induction n with
  | zero =>
    intro x1 s r hf
    cases hf
  | succ n ih =>
    intro x1 s r hf
    unfold f_X10_qGoesOn_L162 at hf
    refine Ev.blk (pc' := 164) [(.aload_n 0, 0, 0, 0), (.iconst 3, 0, 0, 0)] (by decide +kernel) trivial rfl (?_)
    show Ev l d mi_X10_qGoesOn 164 [some (.ref 65), some (.int x1)] [.int (Int32.ofInt 3), .ref 65] (hp s) 0 0 _
    obtain ⟨q45, hq45, hf⟩ := bd_some hf
    refine Ev.callV (o := 65) (M' := mi_X10_qIsOn) (d' := d - 1) (As := [.int (Int32.ofInt 3)]) (rest := []) (r' := (some (.int q45.1), hp q45.2)) (e_X10_qIsOn (d := d - 1) (by omega) (Int32.ofInt 3) s _ hq45) (by omega) wm_X10_qIsOn wi_X10_qIsOn wv_X10_qIsOn km_10_712 (kc rfl rfl) (Nat.le_of_ble_eq_true rfl) rfl rfl rfl (Nat.le_of_ble_eq_true rfl) ⟨Nat.le_of_ble_eq_true rfl, Nat.le_of_ble_eq_true rfl⟩ (by decide +kernel) ?_
    show Ev l d mi_X10_qGoesOn 167 [some (.ref 65), some (.int x1)] [.int q45.1] (hp q45.2) 0 0 _
    refine Ev.if_ne (off := 11) (tgt := 178) (by decide +kernel) (by decide) (fun b46 => ?_) (fun b46 => ?_)
    · have hf := (if_neg b46).symm.trans hf
      exact (e_X10_qGoesOn_j178 hd (f_X10_qGoesOn_L162 k185 n) ih) x1 q45.2 _ hf
    · have hf := (if_pos b46).symm.trans hf
      refine Ev.blk (pc' := 172) [(.aload_n 0, 0, 0, 0), (.iconst 4, 0, 0, 0)] (by decide +kernel) trivial rfl (?_)
      show Ev l d mi_X10_qGoesOn 172 [some (.ref 65), some (.int x1)] [.int (Int32.ofInt 4), .ref 65] (hp q45.2) 0 0 _
      obtain ⟨q47, hq47, hf⟩ := bd_some hf
      refine Ev.callV (o := 65) (M' := mi_X10_qIsOn) (d' := d - 1) (As := [.int (Int32.ofInt 4)]) (rest := []) (r' := (some (.int q47.1), hp q47.2)) (e_X10_qIsOn (d := d - 1) (by omega) (Int32.ofInt 4) q45.2 _ hq47) (by omega) wm_X10_qIsOn wi_X10_qIsOn wv_X10_qIsOn km_10_712 (kc rfl rfl) (Nat.le_of_ble_eq_true rfl) rfl rfl rfl (Nat.le_of_ble_eq_true rfl) ⟨Nat.le_of_ble_eq_true rfl, Nat.le_of_ble_eq_true rfl⟩ (by decide +kernel) ?_
      show Ev l d mi_X10_qGoesOn 175 [some (.ref 65), some (.int x1)] [.int q47.1] (hp q47.2) 0 0 _
      refine Ev.if_eq (off := 10) (tgt := 185) (by decide +kernel) (by decide) (fun b48 => ?_) (fun b48 => ?_)
      · have hf := (if_pos b48).symm.trans hf
        exact hk185 x1 q47.2 _ hf
      · have hf := (if_neg b48).symm.trans hf
        exact (e_X10_qGoesOn_j178 hd (f_X10_qGoesOn_L162 k185 n) ih) x1 q47.2 _ hf
def f_X10_qGoesOn_j185 (x1 : Int32) (s : ST) : Option (Int32 × ST) := gd (ib (s.1 65 113) 1700) (lt (uI (uI s 147 (s.1 65 113).toNatClampNeg x1) 65 113 (((uI s 147 (s.1 65 113).toNatClampNeg x1).1 65 113) + (Int32.ofInt 1))) (fun s59 => some ((Int32.ofInt 1), s59)))
set_option maxHeartbeats 2000000 in
set_option maxRecDepth 20000 in
theorem e_X10_qGoesOn_j185 {l : Launch} {d : Nat} (hd : 4 ≤ d) (x1 : Int32) (s : ST) (r : Int32 × ST) (hf : f_X10_qGoesOn_j185 x1 s = some r) : Ev l d mi_X10_qGoesOn 185 [some (.ref 65), some (.int x1)] [] (hp s) 0 0 (some (.int r.1), hp r.2) := by
  unfold f_X10_qGoesOn_j185 at hf
  obtain ⟨c58, hf⟩ := gd_some hf
  obtain ⟨s59, hs59, hf⟩ := lt_some hf
  refine Ev.blk (pc' := 206) [(.aload_n 0, 0, 0, 0), (.getfield 266, 0, 10, 112), (.aload_n 0, 0, 0, 0), (.getfield 382, 0, 10, 113), (.iload_n 1, 0, 0, 0), (.iastore, 0, 0, 0), (.aload_n 0, 0, 0, 0), (.dup, 0, 0, 0), (.getfield 382, 0, 10, 113), (.iconst 1, 0, 0, 0), (.iadd, 0, 0, 0), (.putfield 382, 0, 10, 113), (.iconst 1, 0, 0, 0)] (by decide +kernel) ⟨kf_10_266, ⟨kf_10_382, ⟨kf_10_382, ⟨⟨kf_10_382, Or.inl rfl⟩, trivial⟩⟩⟩⟩ rfl (And.intro (kc rfl rfl) (Exists.intro 147 (And.intro rfl (And.intro (kc rfl rfl) (And.intro (kc rfl rfl) (And.intro (ib_ok c58) (And.intro rfl (And.intro (kc rfl rfl) (And.intro (kc rfl rfl) (?_))))))))))
  show Ev l d mi_X10_qGoesOn 206 [some (.ref 65), some (.int x1)] [.int (Int32.ofInt 1)] (hp (uI (uI s 147 (s.1 65 113).toNatClampNeg x1) 65 113 (((uI s 147 (s.1 65 113).toNatClampNeg x1).1 65 113) + (Int32.ofInt 1)))) 0 0 _
  rw [← hs59]
  cases hf
  exact Ev.iret .boolean rfl rfl (by decide +kernel) (Nat.le_refl _) (Nat.le_refl _)
def f_X10_qGoesOn_j161 (y0 : Int32) (s : ST) : Option (Int32 × ST) := (f_X10_qGoesOn_L162 f_X10_qGoesOn_j185 fuel) y0 s
set_option maxHeartbeats 2000000 in
set_option maxRecDepth 20000 in
theorem e_X10_qGoesOn_j161 {l : Launch} {d : Nat} (hd : 4 ≤ d) (y0 : Int32) (s : ST) (r : Int32 × ST) (hf : f_X10_qGoesOn_j161 y0 s = some r) : Ev l d mi_X10_qGoesOn 161 [some (.ref 65), none] [.int y0] (hp s) 0 0 (some (.int r.1), hp r.2) := by
  unfold f_X10_qGoesOn_j161 at hf
  refine Ev.blk (pc' := 162) [(.istore_n 1, 0, 0, 0)] (by decide +kernel) trivial rfl (And.intro (Nat.le_of_ble_eq_true rfl) (?_))
  show Ev l d mi_X10_qGoesOn 162 [some (.ref 65), some (.int y0)] [] (hp s) 0 0 _
  exact (e_X10_qGoesOn_L162 hd f_X10_qGoesOn_j185 (e_X10_qGoesOn_j185 hd) fuel) y0 s _ hf
def f_X10_qGoesOn_j140 (s : ST) : Option (Int32 × ST) := gd (ib ((s.1 65 2) - (Int32.ofInt 1)) 1600) ((if (s.1 66 ((s.1 65 2) - (Int32.ofInt 1)).toNatClampNeg) = ((Int8.ofInt 42).toInt32) then f_X10_qGoesOn_j161 (Int32.ofInt 3) s else f_X10_qGoesOn_j161 (Int32.ofInt 4) s))
set_option maxHeartbeats 2000000 in
set_option maxRecDepth 20000 in
theorem e_X10_qGoesOn_j140 {l : Launch} {d : Nat} (hd : 4 ≤ d) (s : ST) (r : Int32 × ST) (hf : f_X10_qGoesOn_j140 s = some r) : Ev l d mi_X10_qGoesOn 140 [some (.ref 65), none] [] (hp s) 0 0 (some (.int r.1), hp r.2) := by
  unfold f_X10_qGoesOn_j140 at hf
  obtain ⟨c35, hf⟩ := gd_some hf
  refine Ev.blk (pc' := 153) [(.aload_n 0, 0, 0, 0), (.getfield 7, 0, 10, 0), (.aload_n 0, 0, 0, 0), (.getfield 284, 0, 10, 2), (.iconst 1, 0, 0, 0), (.isub, 0, 0, 0), (.iaload, 0, 0, 0), (.bipush 42, 0, 0, 0)] (by decide +kernel) ⟨kf_10_7, ⟨kf_10_284, trivial⟩⟩ rfl (And.intro (kc rfl rfl) (Exists.intro 66 (And.intro rfl (And.intro (kc rfl rfl) (And.intro (kc rfl rfl) (And.intro (ib_ok c35) (?_)))))))
  show Ev l d mi_X10_qGoesOn 153 [some (.ref 65), none] [.int ((Int8.ofInt 42).toInt32), .int (s.1 66 ((s.1 65 2) - (Int32.ofInt 1)).toNatClampNeg)] (hp s) 0 0 _
  refine Ev.icmp_ne (off := 7) (tgt := 160) (by decide +kernel) (by decide) (fun b36 => ?_) (fun b36 => ?_)
  · have hf := (if_neg b36).symm.trans hf
    refine Ev.blk (pc' := 161) [(.iconst 4, 0, 0, 0)] (by decide +kernel) trivial rfl (?_)
    show Ev l d mi_X10_qGoesOn 161 [some (.ref 65), none] [.int (Int32.ofInt 4)] (hp s) 0 0 _
    exact (e_X10_qGoesOn_j161 hd) (Int32.ofInt 4) s _ hf
  · have hf := (if_pos b36).symm.trans hf
    refine Ev.blk (pc' := 157) [(.iconst 3, 0, 0, 0)] (by decide +kernel) trivial rfl (?_)
    show Ev l d mi_X10_qGoesOn 157 [some (.ref 65), none] [.int (Int32.ofInt 3)] (hp s) 0 0 _
    refine Ev.goto (off := 4) (tgt := 161) (by decide +kernel) (by decide) ?_
    exact (e_X10_qGoesOn_j161 hd) (Int32.ofInt 3) s _ hf
def f_X10_qGoesOn_j122 (s : ST) : Option (Int32 × ST) := (f_X10_takesSign ((Int8.ofInt 42).toInt32) s).bind (fun q17 => (if q17.1 = 0 then (f_X10_takesSign ((Int8.ofInt 47).toInt32) q17.2).bind (fun q19 => (if q19.1 = 0 then (f_X10_takesSign ((Int8.ofInt 43).toInt32) q19.2).bind (fun q21 => (if q21.1 = 0 then (f_X10_takesSign ((Int8.ofInt 45).toInt32) q21.2).bind (fun q23 => (if q23.1 = 0 then (f_X10_qBracket q23.2).bind (fun q25 => (if q25.1 = ((Int8.ofInt 21).toInt32) then f_X10_qGoesOn_j326 q25.2 else (f_X10_qBracket q25.2).bind (fun q27 => (if q27.1 = ((Int8.ofInt 22).toInt32) then f_X10_qGoesOn_j326 q27.2 else (f_X10_qBracket q27.2).bind (fun q29 => (if q29.1 = (Int32.ofInt (-1)) then some ((Int32.ofInt 0), q29.2) else (if (q29.2.1 65 5) = 0 then (f_X10_fail (Int32.ofInt 1) (q29.2.1 65 2) q29.2).bind (fun q32 => some ((Int32.ofInt 0), q32)) else some ((Int32.ofInt 0), q29.2)))))))) else f_X10_qGoesOn_j225 q23.2)) else f_X10_qGoesOn_j225 q21.2)) else f_X10_qGoesOn_j140 q19.2)) else f_X10_qGoesOn_j140 q17.2))
set_option maxHeartbeats 2000000 in
set_option maxRecDepth 20000 in
theorem e_X10_qGoesOn_j122 {l : Launch} {d : Nat} (hd : 4 ≤ d) (s : ST) (r : Int32 × ST) (hf : f_X10_qGoesOn_j122 s = some r) : Ev l d mi_X10_qGoesOn 122 [some (.ref 65), none] [] (hp s) 0 0 (some (.int r.1), hp r.2) := by
  unfold f_X10_qGoesOn_j122 at hf
  refine Ev.blk (pc' := 125) [(.aload_n 0, 0, 0, 0), (.bipush 42, 0, 0, 0)] (by decide +kernel) trivial rfl (?_)
  show Ev l d mi_X10_qGoesOn 125 [some (.ref 65), none] [.int ((Int8.ofInt 42).toInt32), .ref 65] (hp s) 0 0 _
  obtain ⟨q17, hq17, hf⟩ := bd_some hf
  refine Ev.callV (o := 65) (M' := mi_X10_takesSign) (d' := d - 1) (As := [.int ((Int8.ofInt 42).toInt32)]) (rest := []) (r' := (some (.int q17.1), hp q17.2)) (e_X10_takesSign (d := d - 1) (by omega) ((Int8.ofInt 42).toInt32) s _ hq17) (by omega) wm_X10_takesSign wi_X10_takesSign wv_X10_takesSign km_10_312 (kc rfl rfl) (Nat.le_of_ble_eq_true rfl) rfl rfl rfl (Nat.le_of_ble_eq_true rfl) ⟨Nat.le_of_ble_eq_true rfl, Nat.le_of_ble_eq_true rfl⟩ (by decide +kernel) ?_
  show Ev l d mi_X10_qGoesOn 128 [some (.ref 65), none] [.int q17.1] (hp q17.2) 0 0 _
  refine Ev.if_ne (off := 12) (tgt := 140) (by decide +kernel) (by decide) (fun b18 => ?_) (fun b18 => ?_)
  · have hf := (if_neg b18).symm.trans hf
    exact (e_X10_qGoesOn_j140 hd) q17.2 _ hf
  · have hf := (if_pos b18).symm.trans hf
    refine Ev.blk (pc' := 134) [(.aload_n 0, 0, 0, 0), (.bipush 47, 0, 0, 0)] (by decide +kernel) trivial rfl (?_)
    show Ev l d mi_X10_qGoesOn 134 [some (.ref 65), none] [.int ((Int8.ofInt 47).toInt32), .ref 65] (hp q17.2) 0 0 _
    obtain ⟨q19, hq19, hf⟩ := bd_some hf
    refine Ev.callV (o := 65) (M' := mi_X10_takesSign) (d' := d - 1) (As := [.int ((Int8.ofInt 47).toInt32)]) (rest := []) (r' := (some (.int q19.1), hp q19.2)) (e_X10_takesSign (d := d - 1) (by omega) ((Int8.ofInt 47).toInt32) q17.2 _ hq19) (by omega) wm_X10_takesSign wi_X10_takesSign wv_X10_takesSign km_10_312 (kc rfl rfl) (Nat.le_of_ble_eq_true rfl) rfl rfl rfl (Nat.le_of_ble_eq_true rfl) ⟨Nat.le_of_ble_eq_true rfl, Nat.le_of_ble_eq_true rfl⟩ (by decide +kernel) ?_
    show Ev l d mi_X10_qGoesOn 137 [some (.ref 65), none] [.int q19.1] (hp q19.2) 0 0 _
    refine Ev.if_eq (off := 70) (tgt := 207) (by decide +kernel) (by decide) (fun b20 => ?_) (fun b20 => ?_)
    · have hf := (if_pos b20).symm.trans hf
      refine Ev.blk (pc' := 210) [(.aload_n 0, 0, 0, 0), (.bipush 43, 0, 0, 0)] (by decide +kernel) trivial rfl (?_)
      show Ev l d mi_X10_qGoesOn 210 [some (.ref 65), none] [.int ((Int8.ofInt 43).toInt32), .ref 65] (hp q19.2) 0 0 _
      obtain ⟨q21, hq21, hf⟩ := bd_some hf
      refine Ev.callV (o := 65) (M' := mi_X10_takesSign) (d' := d - 1) (As := [.int ((Int8.ofInt 43).toInt32)]) (rest := []) (r' := (some (.int q21.1), hp q21.2)) (e_X10_takesSign (d := d - 1) (by omega) ((Int8.ofInt 43).toInt32) q19.2 _ hq21) (by omega) wm_X10_takesSign wi_X10_takesSign wv_X10_takesSign km_10_312 (kc rfl rfl) (Nat.le_of_ble_eq_true rfl) rfl rfl rfl (Nat.le_of_ble_eq_true rfl) ⟨Nat.le_of_ble_eq_true rfl, Nat.le_of_ble_eq_true rfl⟩ (by decide +kernel) ?_
      show Ev l d mi_X10_qGoesOn 213 [some (.ref 65), none] [.int q21.1] (hp q21.2) 0 0 _
      refine Ev.if_ne (off := 12) (tgt := 225) (by decide +kernel) (by decide) (fun b22 => ?_) (fun b22 => ?_)
      · have hf := (if_neg b22).symm.trans hf
        exact (e_X10_qGoesOn_j225 hd) q21.2 _ hf
      · have hf := (if_pos b22).symm.trans hf
        refine Ev.blk (pc' := 219) [(.aload_n 0, 0, 0, 0), (.bipush 45, 0, 0, 0)] (by decide +kernel) trivial rfl (?_)
        show Ev l d mi_X10_qGoesOn 219 [some (.ref 65), none] [.int ((Int8.ofInt 45).toInt32), .ref 65] (hp q21.2) 0 0 _
        obtain ⟨q23, hq23, hf⟩ := bd_some hf
        refine Ev.callV (o := 65) (M' := mi_X10_takesSign) (d' := d - 1) (As := [.int ((Int8.ofInt 45).toInt32)]) (rest := []) (r' := (some (.int q23.1), hp q23.2)) (e_X10_takesSign (d := d - 1) (by omega) ((Int8.ofInt 45).toInt32) q21.2 _ hq23) (by omega) wm_X10_takesSign wi_X10_takesSign wv_X10_takesSign km_10_312 (kc rfl rfl) (Nat.le_of_ble_eq_true rfl) rfl rfl rfl (Nat.le_of_ble_eq_true rfl) ⟨Nat.le_of_ble_eq_true rfl, Nat.le_of_ble_eq_true rfl⟩ (by decide +kernel) ?_
        show Ev l d mi_X10_qGoesOn 222 [some (.ref 65), none] [.int q23.1] (hp q23.2) 0 0 _
        refine Ev.if_eq (off := 86) (tgt := 308) (by decide +kernel) (by decide) (fun b24 => ?_) (fun b24 => ?_)
        · have hf := (if_pos b24).symm.trans hf
          refine Ev.blk (pc' := 309) [(.aload_n 0, 0, 0, 0)] (by decide +kernel) trivial rfl (?_)
          show Ev l d mi_X10_qGoesOn 309 [some (.ref 65), none] [.ref 65] (hp q23.2) 0 0 _
          obtain ⟨q25, hq25, hf⟩ := bd_some hf
          refine Ev.callV (o := 65) (M' := mi_X10_qBracket) (d' := d - 1) (As := []) (rest := []) (r' := (some (.int q25.1), hp q25.2)) (e_X10_qBracket (d := d - 1) (by omega) q23.2 _ hq25) (by omega) wm_X10_qBracket wi_X10_qBracket wv_X10_qBracket km_10_706 (kc rfl rfl) (Nat.le_of_ble_eq_true rfl) rfl rfl rfl (Nat.le_of_ble_eq_true rfl) ⟨Nat.le_of_ble_eq_true rfl, Nat.le_of_ble_eq_true rfl⟩ (by decide +kernel) ?_
          show Ev l d mi_X10_qGoesOn 312 [some (.ref 65), none] [.int q25.1] (hp q25.2) 0 0 _
          refine Ev.blk (pc' := 314) [(.bipush 21, 0, 0, 0)] (by decide +kernel) trivial rfl (?_)
          show Ev l d mi_X10_qGoesOn 314 [some (.ref 65), none] [.int ((Int8.ofInt 21).toInt32), .int q25.1] (hp q25.2) 0 0 _
          refine Ev.icmp_eq (off := 12) (tgt := 326) (by decide +kernel) (by decide) (fun b26 => ?_) (fun b26 => ?_)
          · have hf := (if_pos b26).symm.trans hf
            exact (e_X10_qGoesOn_j326 hd) q25.2 _ hf
          · have hf := (if_neg b26).symm.trans hf
            refine Ev.blk (pc' := 318) [(.aload_n 0, 0, 0, 0)] (by decide +kernel) trivial rfl (?_)
            show Ev l d mi_X10_qGoesOn 318 [some (.ref 65), none] [.ref 65] (hp q25.2) 0 0 _
            obtain ⟨q27, hq27, hf⟩ := bd_some hf
            refine Ev.callV (o := 65) (M' := mi_X10_qBracket) (d' := d - 1) (As := []) (rest := []) (r' := (some (.int q27.1), hp q27.2)) (e_X10_qBracket (d := d - 1) (by omega) q25.2 _ hq27) (by omega) wm_X10_qBracket wi_X10_qBracket wv_X10_qBracket km_10_706 (kc rfl rfl) (Nat.le_of_ble_eq_true rfl) rfl rfl rfl (Nat.le_of_ble_eq_true rfl) ⟨Nat.le_of_ble_eq_true rfl, Nat.le_of_ble_eq_true rfl⟩ (by decide +kernel) ?_
            show Ev l d mi_X10_qGoesOn 321 [some (.ref 65), none] [.int q27.1] (hp q27.2) 0 0 _
            refine Ev.blk (pc' := 323) [(.bipush 22, 0, 0, 0)] (by decide +kernel) trivial rfl (?_)
            show Ev l d mi_X10_qGoesOn 323 [some (.ref 65), none] [.int ((Int8.ofInt 22).toInt32), .int q27.1] (hp q27.2) 0 0 _
            refine Ev.icmp_ne (off := 39) (tgt := 362) (by decide +kernel) (by decide) (fun b28 => ?_) (fun b28 => ?_)
            · have hf := (if_neg b28).symm.trans hf
              refine Ev.blk (pc' := 363) [(.aload_n 0, 0, 0, 0)] (by decide +kernel) trivial rfl (?_)
              show Ev l d mi_X10_qGoesOn 363 [some (.ref 65), none] [.ref 65] (hp q27.2) 0 0 _
              obtain ⟨q29, hq29, hf⟩ := bd_some hf
              refine Ev.callV (o := 65) (M' := mi_X10_qBracket) (d' := d - 1) (As := []) (rest := []) (r' := (some (.int q29.1), hp q29.2)) (e_X10_qBracket (d := d - 1) (by omega) q27.2 _ hq29) (by omega) wm_X10_qBracket wi_X10_qBracket wv_X10_qBracket km_10_706 (kc rfl rfl) (Nat.le_of_ble_eq_true rfl) rfl rfl rfl (Nat.le_of_ble_eq_true rfl) ⟨Nat.le_of_ble_eq_true rfl, Nat.le_of_ble_eq_true rfl⟩ (by decide +kernel) ?_
              show Ev l d mi_X10_qGoesOn 366 [some (.ref 65), none] [.int q29.1] (hp q29.2) 0 0 _
              refine Ev.blk (pc' := 367) [(.iconst (-1), 0, 0, 0)] (by decide +kernel) trivial rfl (?_)
              show Ev l d mi_X10_qGoesOn 367 [some (.ref 65), none] [.int (Int32.ofInt (-1)), .int q29.1] (hp q29.2) 0 0 _
              refine Ev.icmp_eq (off := 19) (tgt := 386) (by decide +kernel) (by decide) (fun b30 => ?_) (fun b30 => ?_)
              · have hf := (if_pos b30).symm.trans hf
                refine Ev.blk (pc' := 387) [(.iconst 0, 0, 0, 0)] (by decide +kernel) trivial rfl (?_)
                show Ev l d mi_X10_qGoesOn 387 [some (.ref 65), none] [.int (Int32.ofInt 0)] (hp q29.2) 0 0 _
                cases hf
                exact Ev.iret .boolean rfl rfl (by decide +kernel) (Nat.le_refl _) (Nat.le_refl _)
              · have hf := (if_neg b30).symm.trans hf
                refine Ev.blk (pc' := 374) [(.aload_n 0, 0, 0, 0), (.getfield 278, 0, 10, 5)] (by decide +kernel) ⟨kf_10_278, trivial⟩ rfl (And.intro (kc rfl rfl) (?_))
                show Ev l d mi_X10_qGoesOn 374 [some (.ref 65), none] [.int (q29.2.1 65 5)] (hp q29.2) 0 0 _
                refine Ev.if_ne (off := 12) (tgt := 386) (by decide +kernel) (by decide) (fun b31 => ?_) (fun b31 => ?_)
                · have hf := (if_neg b31).symm.trans hf
                  refine Ev.blk (pc' := 387) [(.iconst 0, 0, 0, 0)] (by decide +kernel) trivial rfl (?_)
                  show Ev l d mi_X10_qGoesOn 387 [some (.ref 65), none] [.int (Int32.ofInt 0)] (hp q29.2) 0 0 _
                  cases hf
                  exact Ev.iret .boolean rfl rfl (by decide +kernel) (Nat.le_refl _) (Nat.le_refl _)
                · have hf := (if_pos b31).symm.trans hf
                  refine Ev.blk (pc' := 383) [(.aload_n 0, 0, 0, 0), (.iconst 1, 0, 0, 0), (.aload_n 0, 0, 0, 0), (.getfield 284, 0, 10, 2)] (by decide +kernel) ⟨kf_10_284, trivial⟩ rfl (And.intro (kc rfl rfl) (?_))
                  show Ev l d mi_X10_qGoesOn 383 [some (.ref 65), none] [.int (q29.2.1 65 2), .int (Int32.ofInt 1), .ref 65] (hp q29.2) 0 0 _
                  obtain ⟨q32, hq32, hf⟩ := bd_some hf
                  refine Ev.callV (o := 65) (M' := mi_X10_fail) (d' := d - 1) (As := [.int (Int32.ofInt 1), .int (q29.2.1 65 2)]) (rest := []) (r' := (none, hp q32)) (e_X10_fail (d := d - 1) (by omega) (Int32.ofInt 1) (q29.2.1 65 2) q29.2 _ hq32) (by omega) wm_X10_fail wi_X10_fail wv_X10_fail km_10_308 (kc rfl rfl) (Nat.le_of_ble_eq_true rfl) rfl rfl rfl (Nat.le_of_ble_eq_true rfl) ⟨Nat.le_of_ble_eq_true rfl, Nat.le_of_ble_eq_true rfl⟩ (by decide +kernel) ?_
                  show Ev l d mi_X10_qGoesOn 386 [some (.ref 65), none] [] (hp q32) 0 0 _
                  refine Ev.blk (pc' := 387) [(.iconst 0, 0, 0, 0)] (by decide +kernel) trivial rfl (?_)
                  show Ev l d mi_X10_qGoesOn 387 [some (.ref 65), none] [.int (Int32.ofInt 0)] (hp q32) 0 0 _
                  cases hf
                  exact Ev.iret .boolean rfl rfl (by decide +kernel) (Nat.le_refl _) (Nat.le_refl _)
            · have hf := (if_pos b28).symm.trans hf
              exact (e_X10_qGoesOn_j326 hd) q27.2 _ hf
        · have hf := (if_neg b24).symm.trans hf
          exact (e_X10_qGoesOn_j225 hd) q23.2 _ hf
    · have hf := (if_neg b20).symm.trans hf
      exact (e_X10_qGoesOn_j140 hd) q19.2 _ hf
def f_X10_qGoesOn (s : ST) : Option (Int32 × ST) := (f_X10_qGoesOn_L0 f_X10_qGoesOn_j122 fuel)  s
set_option maxHeartbeats 2000000 in
set_option maxRecDepth 20000 in
theorem e_X10_qGoesOn {l : Launch} {d : Nat} (hd : 4 ≤ d) (s : ST) (r : Int32 × ST) (hf : f_X10_qGoesOn s = some r) : Cl l d mi_X10_qGoesOn [.ref 65] (hp s) (some (.int r.1), hp r.2) := by
  refine Ev.entry (by decide +kernel) rfl rfl ?_
  show Ev l d mi_X10_qGoesOn 0 [some (.ref 65), none] [] (hp s) 0 0 _
  unfold f_X10_qGoesOn at hf
  exact Ev.wk ((e_X10_qGoesOn_L0 hd f_X10_qGoesOn_j122 (e_X10_qGoesOn_j122 hd) fuel)  s _ hf) (And.intro (Or.inr rfl) (And.intro (Or.inr rfl) (trivial)))
def f_X10_qAsksWord (p0 : Int32) (s : ST) : Option (ST) := (if p0 = 0 then (f_X10_asks 135 s).bind (fun q2 => some q2) else (if p0 = 1 then (f_X10_asks 136 s).bind (fun q4 => some q4) else (if p0 = 2 then (f_X10_asks 137 s).bind (fun q6 => some q6) else (if p0 = 3 then (f_X10_asks 138 s).bind (fun q8 => some q8) else (if p0 = 4 then (f_X10_asks 139 s).bind (fun q10 => some q10) else (if p0 = 5 then (f_X10_asks 140 s).bind (fun q12 => some q12) else (if p0 = 6 then (f_X10_asks 141 s).bind (fun q14 => some q14) else (if p0 = 7 then (f_X10_asks 142 s).bind (fun q16 => some q16) else (if p0 = 8 then (f_X10_asks 143 s).bind (fun q18 => some q18) else (if p0 = 9 then (f_X10_asks 144 s).bind (fun q20 => some q20) else (if p0 = 10 then (f_X10_asks 145 s).bind (fun q22 => some q22) else ((f_X10_asks 137 s).bind (fun q23 => some q23)))))))))))))
set_option maxHeartbeats 2000000 in
set_option maxRecDepth 20000 in
theorem e_X10_qAsksWord {l : Launch} {d : Nat} (hd : 5 ≤ d) (p0 : Int32) (s : ST) (r : ST) (hf : f_X10_qAsksWord p0 s = some r) : Cl l d mi_X10_qAsksWord [.ref 65, .int p0] (hp s) (none, hp r) := by
  refine Ev.entry (by decide +kernel) rfl rfl ?_
  show Ev l d mi_X10_qAsksWord 0 [some (.ref 65), some (.int p0)] [] (hp s) 0 0 _
  unfold f_X10_qAsksWord at hf
  refine Ev.blk (pc' := 1) [(.iload_n 1, 0, 0, 0)] (by decide +kernel) trivial rfl (?_)
  show Ev l d mi_X10_qAsksWord 1 [some (.ref 65), some (.int p0)] [.int p0] (hp s) 0 0 _
  by_cases b1 : p0 = 0
  · have hf := (if_pos b1).symm.trans hf
    refine Ev.tswitch (dflt := 180) (lo := 0) (hi := 10) (offs := #[59, 70, 81, 92, 103, 114, 125, 136, 147, 158, 169]) (len := 59) (tgt := 60) (by decide +kernel) (by rw [b1]; decide) (by decide) ?_
    refine Ev.blk (pc' := 65) [(.aload_n 0, 0, 0, 0), (.aload_n 0, 0, 0, 0), (.getfield 230, 0, 10, 99)] (by decide +kernel) ⟨kf_10_230, trivial⟩ rfl (And.intro (kc rfl rfl) (Exists.intro 135 (And.intro rfl (?_))))
    show Ev l d mi_X10_qAsksWord 65 [some (.ref 65), some (.int p0)] [.ref 135, .ref 65] (hp s) 0 0 _
    obtain ⟨q2, hq2, hf⟩ := bd_some hf
    refine Ev.callV (o := 65) (M' := mi_X10_asks) (d' := d - 1) (As := [.ref 135]) (rest := []) (r' := (none, hp q2)) (e_X10_asks (d := d - 1) (by omega) 135 s _ hq2) (by omega) wm_X10_asks wi_X10_asks wv_X10_asks km_10_348 (kc rfl rfl) (Nat.le_of_ble_eq_true rfl) rfl rfl rfl (Nat.le_of_ble_eq_true rfl) ⟨Nat.le_of_ble_eq_true rfl, Nat.le_of_ble_eq_true rfl⟩ (by decide +kernel) ?_
    show Ev l d mi_X10_qAsksWord 68 [some (.ref 65), some (.int p0)] [] (hp q2) 0 0 _
    refine Ev.goto (off := 121) (tgt := 189) (by decide +kernel) (by decide) ?_
    cases hf
    exact Ev.vret rfl (by decide +kernel) (Nat.le_refl _) (Nat.le_refl _)
  · have hf := (if_neg b1).symm.trans hf
    by_cases b3 : p0 = 1
    · have hf := (if_pos b3).symm.trans hf
      refine Ev.tswitch (dflt := 180) (lo := 0) (hi := 10) (offs := #[59, 70, 81, 92, 103, 114, 125, 136, 147, 158, 169]) (len := 59) (tgt := 71) (by decide +kernel) (by rw [b3]; decide) (by decide) ?_
      refine Ev.blk (pc' := 76) [(.aload_n 0, 0, 0, 0), (.aload_n 0, 0, 0, 0), (.getfield 233, 0, 10, 100)] (by decide +kernel) ⟨kf_10_233, trivial⟩ rfl (And.intro (kc rfl rfl) (Exists.intro 136 (And.intro rfl (?_))))
      show Ev l d mi_X10_qAsksWord 76 [some (.ref 65), some (.int p0)] [.ref 136, .ref 65] (hp s) 0 0 _
      obtain ⟨q4, hq4, hf⟩ := bd_some hf
      refine Ev.callV (o := 65) (M' := mi_X10_asks) (d' := d - 1) (As := [.ref 136]) (rest := []) (r' := (none, hp q4)) (e_X10_asks (d := d - 1) (by omega) 136 s _ hq4) (by omega) wm_X10_asks wi_X10_asks wv_X10_asks km_10_348 (kc rfl rfl) (Nat.le_of_ble_eq_true rfl) rfl rfl rfl (Nat.le_of_ble_eq_true rfl) ⟨Nat.le_of_ble_eq_true rfl, Nat.le_of_ble_eq_true rfl⟩ (by decide +kernel) ?_
      show Ev l d mi_X10_qAsksWord 79 [some (.ref 65), some (.int p0)] [] (hp q4) 0 0 _
      refine Ev.goto (off := 110) (tgt := 189) (by decide +kernel) (by decide) ?_
      cases hf
      exact Ev.vret rfl (by decide +kernel) (Nat.le_refl _) (Nat.le_refl _)
    · have hf := (if_neg b3).symm.trans hf
      by_cases b5 : p0 = 2
      · have hf := (if_pos b5).symm.trans hf
        refine Ev.tswitch (dflt := 180) (lo := 0) (hi := 10) (offs := #[59, 70, 81, 92, 103, 114, 125, 136, 147, 158, 169]) (len := 59) (tgt := 82) (by decide +kernel) (by rw [b5]; decide) (by decide) ?_
        refine Ev.blk (pc' := 87) [(.aload_n 0, 0, 0, 0), (.aload_n 0, 0, 0, 0), (.getfield 236, 0, 10, 101)] (by decide +kernel) ⟨kf_10_236, trivial⟩ rfl (And.intro (kc rfl rfl) (Exists.intro 137 (And.intro rfl (?_))))
        show Ev l d mi_X10_qAsksWord 87 [some (.ref 65), some (.int p0)] [.ref 137, .ref 65] (hp s) 0 0 _
        obtain ⟨q6, hq6, hf⟩ := bd_some hf
        refine Ev.callV (o := 65) (M' := mi_X10_asks) (d' := d - 1) (As := [.ref 137]) (rest := []) (r' := (none, hp q6)) (e_X10_asks (d := d - 1) (by omega) 137 s _ hq6) (by omega) wm_X10_asks wi_X10_asks wv_X10_asks km_10_348 (kc rfl rfl) (Nat.le_of_ble_eq_true rfl) rfl rfl rfl (Nat.le_of_ble_eq_true rfl) ⟨Nat.le_of_ble_eq_true rfl, Nat.le_of_ble_eq_true rfl⟩ (by decide +kernel) ?_
        show Ev l d mi_X10_qAsksWord 90 [some (.ref 65), some (.int p0)] [] (hp q6) 0 0 _
        refine Ev.goto (off := 99) (tgt := 189) (by decide +kernel) (by decide) ?_
        cases hf
        exact Ev.vret rfl (by decide +kernel) (Nat.le_refl _) (Nat.le_refl _)
      · have hf := (if_neg b5).symm.trans hf
        by_cases b7 : p0 = 3
        · have hf := (if_pos b7).symm.trans hf
          refine Ev.tswitch (dflt := 180) (lo := 0) (hi := 10) (offs := #[59, 70, 81, 92, 103, 114, 125, 136, 147, 158, 169]) (len := 59) (tgt := 93) (by decide +kernel) (by rw [b7]; decide) (by decide) ?_
          refine Ev.blk (pc' := 98) [(.aload_n 0, 0, 0, 0), (.aload_n 0, 0, 0, 0), (.getfield 239, 0, 10, 102)] (by decide +kernel) ⟨kf_10_239, trivial⟩ rfl (And.intro (kc rfl rfl) (Exists.intro 138 (And.intro rfl (?_))))
          show Ev l d mi_X10_qAsksWord 98 [some (.ref 65), some (.int p0)] [.ref 138, .ref 65] (hp s) 0 0 _
          obtain ⟨q8, hq8, hf⟩ := bd_some hf
          refine Ev.callV (o := 65) (M' := mi_X10_asks) (d' := d - 1) (As := [.ref 138]) (rest := []) (r' := (none, hp q8)) (e_X10_asks (d := d - 1) (by omega) 138 s _ hq8) (by omega) wm_X10_asks wi_X10_asks wv_X10_asks km_10_348 (kc rfl rfl) (Nat.le_of_ble_eq_true rfl) rfl rfl rfl (Nat.le_of_ble_eq_true rfl) ⟨Nat.le_of_ble_eq_true rfl, Nat.le_of_ble_eq_true rfl⟩ (by decide +kernel) ?_
          show Ev l d mi_X10_qAsksWord 101 [some (.ref 65), some (.int p0)] [] (hp q8) 0 0 _
          refine Ev.goto (off := 88) (tgt := 189) (by decide +kernel) (by decide) ?_
          cases hf
          exact Ev.vret rfl (by decide +kernel) (Nat.le_refl _) (Nat.le_refl _)
        · have hf := (if_neg b7).symm.trans hf
          by_cases b9 : p0 = 4
          · have hf := (if_pos b9).symm.trans hf
            refine Ev.tswitch (dflt := 180) (lo := 0) (hi := 10) (offs := #[59, 70, 81, 92, 103, 114, 125, 136, 147, 158, 169]) (len := 59) (tgt := 104) (by decide +kernel) (by rw [b9]; decide) (by decide) ?_
            refine Ev.blk (pc' := 109) [(.aload_n 0, 0, 0, 0), (.aload_n 0, 0, 0, 0), (.getfield 242, 0, 10, 103)] (by decide +kernel) ⟨kf_10_242, trivial⟩ rfl (And.intro (kc rfl rfl) (Exists.intro 139 (And.intro rfl (?_))))
            show Ev l d mi_X10_qAsksWord 109 [some (.ref 65), some (.int p0)] [.ref 139, .ref 65] (hp s) 0 0 _
            obtain ⟨q10, hq10, hf⟩ := bd_some hf
            refine Ev.callV (o := 65) (M' := mi_X10_asks) (d' := d - 1) (As := [.ref 139]) (rest := []) (r' := (none, hp q10)) (e_X10_asks (d := d - 1) (by omega) 139 s _ hq10) (by omega) wm_X10_asks wi_X10_asks wv_X10_asks km_10_348 (kc rfl rfl) (Nat.le_of_ble_eq_true rfl) rfl rfl rfl (Nat.le_of_ble_eq_true rfl) ⟨Nat.le_of_ble_eq_true rfl, Nat.le_of_ble_eq_true rfl⟩ (by decide +kernel) ?_
            show Ev l d mi_X10_qAsksWord 112 [some (.ref 65), some (.int p0)] [] (hp q10) 0 0 _
            refine Ev.goto (off := 77) (tgt := 189) (by decide +kernel) (by decide) ?_
            cases hf
            exact Ev.vret rfl (by decide +kernel) (Nat.le_refl _) (Nat.le_refl _)
          · have hf := (if_neg b9).symm.trans hf
            by_cases b11 : p0 = 5
            · have hf := (if_pos b11).symm.trans hf
              refine Ev.tswitch (dflt := 180) (lo := 0) (hi := 10) (offs := #[59, 70, 81, 92, 103, 114, 125, 136, 147, 158, 169]) (len := 59) (tgt := 115) (by decide +kernel) (by rw [b11]; decide) (by decide) ?_
              refine Ev.blk (pc' := 120) [(.aload_n 0, 0, 0, 0), (.aload_n 0, 0, 0, 0), (.getfield 245, 0, 10, 104)] (by decide +kernel) ⟨kf_10_245, trivial⟩ rfl (And.intro (kc rfl rfl) (Exists.intro 140 (And.intro rfl (?_))))
              show Ev l d mi_X10_qAsksWord 120 [some (.ref 65), some (.int p0)] [.ref 140, .ref 65] (hp s) 0 0 _
              obtain ⟨q12, hq12, hf⟩ := bd_some hf
              refine Ev.callV (o := 65) (M' := mi_X10_asks) (d' := d - 1) (As := [.ref 140]) (rest := []) (r' := (none, hp q12)) (e_X10_asks (d := d - 1) (by omega) 140 s _ hq12) (by omega) wm_X10_asks wi_X10_asks wv_X10_asks km_10_348 (kc rfl rfl) (Nat.le_of_ble_eq_true rfl) rfl rfl rfl (Nat.le_of_ble_eq_true rfl) ⟨Nat.le_of_ble_eq_true rfl, Nat.le_of_ble_eq_true rfl⟩ (by decide +kernel) ?_
              show Ev l d mi_X10_qAsksWord 123 [some (.ref 65), some (.int p0)] [] (hp q12) 0 0 _
              refine Ev.goto (off := 66) (tgt := 189) (by decide +kernel) (by decide) ?_
              cases hf
              exact Ev.vret rfl (by decide +kernel) (Nat.le_refl _) (Nat.le_refl _)
            · have hf := (if_neg b11).symm.trans hf
              by_cases b13 : p0 = 6
              · have hf := (if_pos b13).symm.trans hf
                refine Ev.tswitch (dflt := 180) (lo := 0) (hi := 10) (offs := #[59, 70, 81, 92, 103, 114, 125, 136, 147, 158, 169]) (len := 59) (tgt := 126) (by decide +kernel) (by rw [b13]; decide) (by decide) ?_
                refine Ev.blk (pc' := 131) [(.aload_n 0, 0, 0, 0), (.aload_n 0, 0, 0, 0), (.getfield 248, 0, 10, 105)] (by decide +kernel) ⟨kf_10_248, trivial⟩ rfl (And.intro (kc rfl rfl) (Exists.intro 141 (And.intro rfl (?_))))
                show Ev l d mi_X10_qAsksWord 131 [some (.ref 65), some (.int p0)] [.ref 141, .ref 65] (hp s) 0 0 _
                obtain ⟨q14, hq14, hf⟩ := bd_some hf
                refine Ev.callV (o := 65) (M' := mi_X10_asks) (d' := d - 1) (As := [.ref 141]) (rest := []) (r' := (none, hp q14)) (e_X10_asks (d := d - 1) (by omega) 141 s _ hq14) (by omega) wm_X10_asks wi_X10_asks wv_X10_asks km_10_348 (kc rfl rfl) (Nat.le_of_ble_eq_true rfl) rfl rfl rfl (Nat.le_of_ble_eq_true rfl) ⟨Nat.le_of_ble_eq_true rfl, Nat.le_of_ble_eq_true rfl⟩ (by decide +kernel) ?_
                show Ev l d mi_X10_qAsksWord 134 [some (.ref 65), some (.int p0)] [] (hp q14) 0 0 _
                refine Ev.goto (off := 55) (tgt := 189) (by decide +kernel) (by decide) ?_
                cases hf
                exact Ev.vret rfl (by decide +kernel) (Nat.le_refl _) (Nat.le_refl _)
              · have hf := (if_neg b13).symm.trans hf
                by_cases b15 : p0 = 7
                · have hf := (if_pos b15).symm.trans hf
                  refine Ev.tswitch (dflt := 180) (lo := 0) (hi := 10) (offs := #[59, 70, 81, 92, 103, 114, 125, 136, 147, 158, 169]) (len := 59) (tgt := 137) (by decide +kernel) (by rw [b15]; decide) (by decide) ?_
                  refine Ev.blk (pc' := 142) [(.aload_n 0, 0, 0, 0), (.aload_n 0, 0, 0, 0), (.getfield 251, 0, 10, 106)] (by decide +kernel) ⟨kf_10_251, trivial⟩ rfl (And.intro (kc rfl rfl) (Exists.intro 142 (And.intro rfl (?_))))
                  show Ev l d mi_X10_qAsksWord 142 [some (.ref 65), some (.int p0)] [.ref 142, .ref 65] (hp s) 0 0 _
                  obtain ⟨q16, hq16, hf⟩ := bd_some hf
                  refine Ev.callV (o := 65) (M' := mi_X10_asks) (d' := d - 1) (As := [.ref 142]) (rest := []) (r' := (none, hp q16)) (e_X10_asks (d := d - 1) (by omega) 142 s _ hq16) (by omega) wm_X10_asks wi_X10_asks wv_X10_asks km_10_348 (kc rfl rfl) (Nat.le_of_ble_eq_true rfl) rfl rfl rfl (Nat.le_of_ble_eq_true rfl) ⟨Nat.le_of_ble_eq_true rfl, Nat.le_of_ble_eq_true rfl⟩ (by decide +kernel) ?_
                  show Ev l d mi_X10_qAsksWord 145 [some (.ref 65), some (.int p0)] [] (hp q16) 0 0 _
                  refine Ev.goto (off := 44) (tgt := 189) (by decide +kernel) (by decide) ?_
                  cases hf
                  exact Ev.vret rfl (by decide +kernel) (Nat.le_refl _) (Nat.le_refl _)
                · have hf := (if_neg b15).symm.trans hf
                  by_cases b17 : p0 = 8
                  · have hf := (if_pos b17).symm.trans hf
                    refine Ev.tswitch (dflt := 180) (lo := 0) (hi := 10) (offs := #[59, 70, 81, 92, 103, 114, 125, 136, 147, 158, 169]) (len := 59) (tgt := 148) (by decide +kernel) (by rw [b17]; decide) (by decide) ?_
                    refine Ev.blk (pc' := 153) [(.aload_n 0, 0, 0, 0), (.aload_n 0, 0, 0, 0), (.getfield 254, 0, 10, 107)] (by decide +kernel) ⟨kf_10_254, trivial⟩ rfl (And.intro (kc rfl rfl) (Exists.intro 143 (And.intro rfl (?_))))
                    show Ev l d mi_X10_qAsksWord 153 [some (.ref 65), some (.int p0)] [.ref 143, .ref 65] (hp s) 0 0 _
                    obtain ⟨q18, hq18, hf⟩ := bd_some hf
                    refine Ev.callV (o := 65) (M' := mi_X10_asks) (d' := d - 1) (As := [.ref 143]) (rest := []) (r' := (none, hp q18)) (e_X10_asks (d := d - 1) (by omega) 143 s _ hq18) (by omega) wm_X10_asks wi_X10_asks wv_X10_asks km_10_348 (kc rfl rfl) (Nat.le_of_ble_eq_true rfl) rfl rfl rfl (Nat.le_of_ble_eq_true rfl) ⟨Nat.le_of_ble_eq_true rfl, Nat.le_of_ble_eq_true rfl⟩ (by decide +kernel) ?_
                    show Ev l d mi_X10_qAsksWord 156 [some (.ref 65), some (.int p0)] [] (hp q18) 0 0 _
                    refine Ev.goto (off := 33) (tgt := 189) (by decide +kernel) (by decide) ?_
                    cases hf
                    exact Ev.vret rfl (by decide +kernel) (Nat.le_refl _) (Nat.le_refl _)
                  · have hf := (if_neg b17).symm.trans hf
                    by_cases b19 : p0 = 9
                    · have hf := (if_pos b19).symm.trans hf
                      refine Ev.tswitch (dflt := 180) (lo := 0) (hi := 10) (offs := #[59, 70, 81, 92, 103, 114, 125, 136, 147, 158, 169]) (len := 59) (tgt := 159) (by decide +kernel) (by rw [b19]; decide) (by decide) ?_
                      refine Ev.blk (pc' := 164) [(.aload_n 0, 0, 0, 0), (.aload_n 0, 0, 0, 0), (.getfield 257, 0, 10, 108)] (by decide +kernel) ⟨kf_10_257, trivial⟩ rfl (And.intro (kc rfl rfl) (Exists.intro 144 (And.intro rfl (?_))))
                      show Ev l d mi_X10_qAsksWord 164 [some (.ref 65), some (.int p0)] [.ref 144, .ref 65] (hp s) 0 0 _
                      obtain ⟨q20, hq20, hf⟩ := bd_some hf
                      refine Ev.callV (o := 65) (M' := mi_X10_asks) (d' := d - 1) (As := [.ref 144]) (rest := []) (r' := (none, hp q20)) (e_X10_asks (d := d - 1) (by omega) 144 s _ hq20) (by omega) wm_X10_asks wi_X10_asks wv_X10_asks km_10_348 (kc rfl rfl) (Nat.le_of_ble_eq_true rfl) rfl rfl rfl (Nat.le_of_ble_eq_true rfl) ⟨Nat.le_of_ble_eq_true rfl, Nat.le_of_ble_eq_true rfl⟩ (by decide +kernel) ?_
                      show Ev l d mi_X10_qAsksWord 167 [some (.ref 65), some (.int p0)] [] (hp q20) 0 0 _
                      refine Ev.goto (off := 22) (tgt := 189) (by decide +kernel) (by decide) ?_
                      cases hf
                      exact Ev.vret rfl (by decide +kernel) (Nat.le_refl _) (Nat.le_refl _)
                    · have hf := (if_neg b19).symm.trans hf
                      by_cases b21 : p0 = 10
                      · have hf := (if_pos b21).symm.trans hf
                        refine Ev.tswitch (dflt := 180) (lo := 0) (hi := 10) (offs := #[59, 70, 81, 92, 103, 114, 125, 136, 147, 158, 169]) (len := 59) (tgt := 170) (by decide +kernel) (by rw [b21]; decide) (by decide) ?_
                        refine Ev.blk (pc' := 175) [(.aload_n 0, 0, 0, 0), (.aload_n 0, 0, 0, 0), (.getfield 260, 0, 10, 109)] (by decide +kernel) ⟨kf_10_260, trivial⟩ rfl (And.intro (kc rfl rfl) (Exists.intro 145 (And.intro rfl (?_))))
                        show Ev l d mi_X10_qAsksWord 175 [some (.ref 65), some (.int p0)] [.ref 145, .ref 65] (hp s) 0 0 _
                        obtain ⟨q22, hq22, hf⟩ := bd_some hf
                        refine Ev.callV (o := 65) (M' := mi_X10_asks) (d' := d - 1) (As := [.ref 145]) (rest := []) (r' := (none, hp q22)) (e_X10_asks (d := d - 1) (by omega) 145 s _ hq22) (by omega) wm_X10_asks wi_X10_asks wv_X10_asks km_10_348 (kc rfl rfl) (Nat.le_of_ble_eq_true rfl) rfl rfl rfl (Nat.le_of_ble_eq_true rfl) ⟨Nat.le_of_ble_eq_true rfl, Nat.le_of_ble_eq_true rfl⟩ (by decide +kernel) ?_
                        show Ev l d mi_X10_qAsksWord 178 [some (.ref 65), some (.int p0)] [] (hp q22) 0 0 _
                        refine Ev.goto (off := 11) (tgt := 189) (by decide +kernel) (by decide) ?_
                        cases hf
                        exact Ev.vret rfl (by decide +kernel) (Nat.le_refl _) (Nat.le_refl _)
                      · have hf := (if_neg b21).symm.trans hf
                        refine Ev.tswitch (dflt := 180) (lo := 0) (hi := 10) (offs := #[59, 70, 81, 92, 103, 114, 125, 136, 147, 158, 169]) (len := 59) (tgt := 181) (by decide +kernel) (by have e0 := sw_ne b1 (c := (0)) (by decide); have e1 := sw_ne b3 (c := (1)) (by decide); have e2 := sw_ne b5 (c := (2)) (by decide); have e3 := sw_ne b7 (c := (3)) (by decide); have e4 := sw_ne b9 (c := (4)) (by decide); have e5 := sw_ne b11 (c := (5)) (by decide); have e6 := sw_ne b13 (c := (6)) (by decide); have e7 := sw_ne b15 (c := (7)) (by decide); have e8 := sw_ne b17 (c := (8)) (by decide); have e9 := sw_ne b19 (c := (9)) (by decide); have e10 := sw_ne b21 (c := (10)) (by decide); rw [if_pos (by omega)]; decide) (by decide) ?_
                        refine Ev.blk (pc' := 186) [(.aload_n 0, 0, 0, 0), (.aload_n 0, 0, 0, 0), (.getfield 236, 0, 10, 101)] (by decide +kernel) ⟨kf_10_236, trivial⟩ rfl (And.intro (kc rfl rfl) (Exists.intro 137 (And.intro rfl (?_))))
                        show Ev l d mi_X10_qAsksWord 186 [some (.ref 65), some (.int p0)] [.ref 137, .ref 65] (hp s) 0 0 _
                        obtain ⟨q23, hq23, hf⟩ := bd_some hf
                        refine Ev.callV (o := 65) (M' := mi_X10_asks) (d' := d - 1) (As := [.ref 137]) (rest := []) (r' := (none, hp q23)) (e_X10_asks (d := d - 1) (by omega) 137 s _ hq23) (by omega) wm_X10_asks wi_X10_asks wv_X10_asks km_10_348 (kc rfl rfl) (Nat.le_of_ble_eq_true rfl) rfl rfl rfl (Nat.le_of_ble_eq_true rfl) ⟨Nat.le_of_ble_eq_true rfl, Nat.le_of_ble_eq_true rfl⟩ (by decide +kernel) ?_
                        show Ev l d mi_X10_qAsksWord 189 [some (.ref 65), some (.int p0)] [] (hp q23) 0 0 _
                        cases hf
                        exact Ev.vret rfl (by decide +kernel) (Nat.le_refl _) (Nat.le_refl _)
def f_X10_qOpens (p0 : Int32) (p1 : Int32) (s : ST) : Option (ST) := (if (s.1 65 5) = 0 then (if (s.1 65 114) = ((Int8.ofInt 6).toInt32) then (f_X10_fail (Int32.ofInt 4) p1 s).bind (fun q5 => some q5) else gd (ib ((uI s 65 114 ((s.1 65 114) + (Int32.ofInt 1))).1 65 113) 1700) (lt (uI (uI (uI s 65 114 ((s.1 65 114) + (Int32.ofInt 1))) 147 ((uI s 65 114 ((s.1 65 114) + (Int32.ofInt 1))).1 65 113).toNatClampNeg p0) 65 113 (((uI (uI s 65 114 ((s.1 65 114) + (Int32.ofInt 1))) 147 ((uI s 65 114 ((s.1 65 114) + (Int32.ofInt 1))).1 65 113).toNatClampNeg p0).1 65 113) + (Int32.ofInt 1))) (fun s4 => some s4))) else some s)
set_option maxHeartbeats 2000000 in
set_option maxRecDepth 20000 in
theorem e_X10_qOpens {l : Launch} {d : Nat} (hd : 2 ≤ d) (p0 : Int32) (p1 : Int32) (s : ST) (r : ST) (hf : f_X10_qOpens p0 p1 s = some r) : Cl l d mi_X10_qOpens [.ref 65, .int p0, .int p1] (hp s) (none, hp r) := by
  refine Ev.entry (by decide +kernel) rfl rfl ?_
  show Ev l d mi_X10_qOpens 0 [some (.ref 65), some (.int p0), some (.int p1)] [] (hp s) 0 0 _
  unfold f_X10_qOpens at hf
  refine Ev.blk (pc' := 4) [(.aload_n 0, 0, 0, 0), (.getfield 278, 0, 10, 5)] (by decide +kernel) ⟨kf_10_278, trivial⟩ rfl (And.intro (kc rfl rfl) (?_))
  show Ev l d mi_X10_qOpens 4 [some (.ref 65), some (.int p0), some (.int p1)] [.int (s.1 65 5)] (hp s) 0 0 _
  refine Ev.if_eq (off := 4) (tgt := 8) (by decide +kernel) (by decide) (fun b1 => ?_) (fun b1 => ?_)
  · have hf := (if_pos b1).symm.trans hf
    refine Ev.blk (pc' := 14) [(.aload_n 0, 0, 0, 0), (.getfield 385, 0, 10, 114), (.bipush 6, 0, 0, 0)] (by decide +kernel) ⟨kf_10_385, trivial⟩ rfl (And.intro (kc rfl rfl) (?_))
    show Ev l d mi_X10_qOpens 14 [some (.ref 65), some (.int p0), some (.int p1)] [.int ((Int8.ofInt 6).toInt32), .int (s.1 65 114)] (hp s) 0 0 _
    refine Ev.icmp_ne (off := 10) (tgt := 24) (by decide +kernel) (by decide) (fun b2 => ?_) (fun b2 => ?_)
    · have hf := (if_neg b2).symm.trans hf
      obtain ⟨c3, hf⟩ := gd_some hf
      obtain ⟨s4, hs4, hf⟩ := lt_some hf
      refine Ev.blk (pc' := 54) [(.aload_n 0, 0, 0, 0), (.dup, 0, 0, 0), (.getfield 385, 0, 10, 114), (.iconst 1, 0, 0, 0), (.iadd, 0, 0, 0), (.putfield 385, 0, 10, 114), (.aload_n 0, 0, 0, 0), (.getfield 266, 0, 10, 112), (.aload_n 0, 0, 0, 0), (.getfield 382, 0, 10, 113), (.iload_n 1, 0, 0, 0), (.iastore, 0, 0, 0), (.aload_n 0, 0, 0, 0), (.dup, 0, 0, 0), (.getfield 382, 0, 10, 113), (.iconst 1, 0, 0, 0), (.iadd, 0, 0, 0), (.putfield 382, 0, 10, 113)] (by decide +kernel) ⟨kf_10_385, ⟨⟨kf_10_385, Or.inl rfl⟩, ⟨kf_10_266, ⟨kf_10_382, ⟨kf_10_382, ⟨⟨kf_10_382, Or.inl rfl⟩, trivial⟩⟩⟩⟩⟩⟩ rfl (And.intro rfl (And.intro (kc rfl rfl) (And.intro (kc rfl rfl) (And.intro (kc rfl rfl) (Exists.intro 147 (And.intro rfl (And.intro (kc rfl rfl) (And.intro (kc rfl rfl) (And.intro (ib_ok c3) (And.intro rfl (And.intro (kc rfl rfl) (And.intro (kc rfl rfl) (?_)))))))))))))
      show Ev l d mi_X10_qOpens 54 [some (.ref 65), some (.int p0), some (.int p1)] [] (hp (uI (uI (uI s 65 114 ((s.1 65 114) + (Int32.ofInt 1))) 147 ((uI s 65 114 ((s.1 65 114) + (Int32.ofInt 1))).1 65 113).toNatClampNeg p0) 65 113 (((uI (uI s 65 114 ((s.1 65 114) + (Int32.ofInt 1))) 147 ((uI s 65 114 ((s.1 65 114) + (Int32.ofInt 1))).1 65 113).toNatClampNeg p0).1 65 113) + (Int32.ofInt 1)))) 0 0 _
      rw [← hs4]
      cases hf
      exact Ev.vret rfl (by decide +kernel) (Nat.le_refl _) (Nat.le_refl _)
    · have hf := (if_pos b2).symm.trans hf
      refine Ev.blk (pc' := 20) [(.aload_n 0, 0, 0, 0), (.iconst 4, 0, 0, 0), (.iload_n 2, 0, 0, 0)] (by decide +kernel) trivial rfl (?_)
      show Ev l d mi_X10_qOpens 20 [some (.ref 65), some (.int p0), some (.int p1)] [.int p1, .int (Int32.ofInt 4), .ref 65] (hp s) 0 0 _
      obtain ⟨q5, hq5, hf⟩ := bd_some hf
      refine Ev.callV (o := 65) (M' := mi_X10_fail) (d' := d - 1) (As := [.int (Int32.ofInt 4), .int p1]) (rest := []) (r' := (none, hp q5)) (e_X10_fail (d := d - 1) (by omega) (Int32.ofInt 4) p1 s _ hq5) (by omega) wm_X10_fail wi_X10_fail wv_X10_fail km_10_308 (kc rfl rfl) (Nat.le_of_ble_eq_true rfl) rfl rfl rfl (Nat.le_of_ble_eq_true rfl) ⟨Nat.le_of_ble_eq_true rfl, Nat.le_of_ble_eq_true rfl⟩ (by decide +kernel) ?_
      show Ev l d mi_X10_qOpens 23 [some (.ref 65), some (.int p0), some (.int p1)] [] (hp q5) 0 0 _
      cases hf
      exact Ev.vret rfl (by decide +kernel) (Nat.le_refl _) (Nat.le_refl _)
  · have hf := (if_neg b1).symm.trans hf
    cases hf
    exact Ev.vret rfl (by decide +kernel) (Nat.le_refl _) (Nat.le_refl _)
def f_X10_qWordHere (s : ST) : Option (Int32 × ST) := (f_X10_isHere 135 s).bind (fun q1 => (if q1.1 = 0 then (f_X10_isHere 136 q1.2).bind (fun q3 => (if q3.1 = 0 then (f_X10_isHere 137 q3.2).bind (fun q5 => (if q5.1 = 0 then (f_X10_isHere 138 q5.2).bind (fun q7 => (if q7.1 = 0 then (f_X10_isHere 139 q7.2).bind (fun q9 => (if q9.1 = 0 then (f_X10_isHere 140 q9.2).bind (fun q11 => (if q11.1 = 0 then (f_X10_isHere 141 q11.2).bind (fun q13 => (if q13.1 = 0 then (f_X10_isHere 142 q13.2).bind (fun q15 => (if q15.1 = 0 then (f_X10_isHere 143 q15.2).bind (fun q17 => (if q17.1 = 0 then (f_X10_isHere 144 q17.2).bind (fun q19 => (if q19.1 = 0 then (f_X10_isHere 145 q19.2).bind (fun q21 => (if q21.1 = 0 then some ((Int32.ofInt (-1)), q21.2) else some (((Int8.ofInt 10).toInt32), q21.2))) else some (((Int8.ofInt 9).toInt32), q19.2))) else some (((Int8.ofInt 8).toInt32), q17.2))) else some (((Int8.ofInt 7).toInt32), q15.2))) else some (((Int8.ofInt 6).toInt32), q13.2))) else some ((Int32.ofInt 5), q11.2))) else some ((Int32.ofInt 4), q9.2))) else some ((Int32.ofInt 3), q7.2))) else (if (q5.2.1 65 59) = 0 then some (((Int8.ofInt 11).toInt32), q5.2) else some ((Int32.ofInt 2), q5.2)))) else some ((Int32.ofInt 1), q3.2))) else some ((Int32.ofInt 0), q1.2)))
set_option maxHeartbeats 2000000 in
set_option maxRecDepth 20000 in
theorem e_X10_qWordHere {l : Launch} {d : Nat} (hd : 3 ≤ d) (s : ST) (r : Int32 × ST) (hf : f_X10_qWordHere s = some r) : Cl l d mi_X10_qWordHere [.ref 65] (hp s) (some (.int r.1), hp r.2) := by
  refine Ev.entry (by decide +kernel) rfl rfl ?_
  show Ev l d mi_X10_qWordHere 0 [some (.ref 65)] [] (hp s) 0 0 _
  unfold f_X10_qWordHere at hf
  refine Ev.blk (pc' := 5) [(.aload_n 0, 0, 0, 0), (.aload_n 0, 0, 0, 0), (.getfield 230, 0, 10, 99)] (by decide +kernel) ⟨kf_10_230, trivial⟩ rfl (And.intro (kc rfl rfl) (Exists.intro 135 (And.intro rfl (?_))))
  show Ev l d mi_X10_qWordHere 5 [some (.ref 65)] [.ref 135, .ref 65] (hp s) 0 0 _
  obtain ⟨q1, hq1, hf⟩ := bd_some hf
  refine Ev.callV (o := 65) (M' := mi_X10_isHere) (d' := d - 1) (As := [.ref 135]) (rest := []) (r' := (some (.int q1.1), hp q1.2)) (e_X10_isHere (d := d - 1) (by omega) 135 s _ hq1) (by omega) wm_X10_isHere wi_X10_isHere wv_X10_isHere km_10_301 (kc rfl rfl) (Nat.le_of_ble_eq_true rfl) rfl rfl rfl (Nat.le_of_ble_eq_true rfl) ⟨Nat.le_of_ble_eq_true rfl, Nat.le_of_ble_eq_true rfl⟩ (by decide +kernel) ?_
  show Ev l d mi_X10_qWordHere 8 [some (.ref 65)] [.int q1.1] (hp q1.2) 0 0 _
  refine Ev.if_eq (off := 5) (tgt := 13) (by decide +kernel) (by decide) (fun b2 => ?_) (fun b2 => ?_)
  · have hf := (if_pos b2).symm.trans hf
    refine Ev.blk (pc' := 18) [(.aload_n 0, 0, 0, 0), (.aload_n 0, 0, 0, 0), (.getfield 233, 0, 10, 100)] (by decide +kernel) ⟨kf_10_233, trivial⟩ rfl (And.intro (kc rfl rfl) (Exists.intro 136 (And.intro rfl (?_))))
    show Ev l d mi_X10_qWordHere 18 [some (.ref 65)] [.ref 136, .ref 65] (hp q1.2) 0 0 _
    obtain ⟨q3, hq3, hf⟩ := bd_some hf
    refine Ev.callV (o := 65) (M' := mi_X10_isHere) (d' := d - 1) (As := [.ref 136]) (rest := []) (r' := (some (.int q3.1), hp q3.2)) (e_X10_isHere (d := d - 1) (by omega) 136 q1.2 _ hq3) (by omega) wm_X10_isHere wi_X10_isHere wv_X10_isHere km_10_301 (kc rfl rfl) (Nat.le_of_ble_eq_true rfl) rfl rfl rfl (Nat.le_of_ble_eq_true rfl) ⟨Nat.le_of_ble_eq_true rfl, Nat.le_of_ble_eq_true rfl⟩ (by decide +kernel) ?_
    show Ev l d mi_X10_qWordHere 21 [some (.ref 65)] [.int q3.1] (hp q3.2) 0 0 _
    refine Ev.if_eq (off := 5) (tgt := 26) (by decide +kernel) (by decide) (fun b4 => ?_) (fun b4 => ?_)
    · have hf := (if_pos b4).symm.trans hf
      refine Ev.blk (pc' := 31) [(.aload_n 0, 0, 0, 0), (.aload_n 0, 0, 0, 0), (.getfield 236, 0, 10, 101)] (by decide +kernel) ⟨kf_10_236, trivial⟩ rfl (And.intro (kc rfl rfl) (Exists.intro 137 (And.intro rfl (?_))))
      show Ev l d mi_X10_qWordHere 31 [some (.ref 65)] [.ref 137, .ref 65] (hp q3.2) 0 0 _
      obtain ⟨q5, hq5, hf⟩ := bd_some hf
      refine Ev.callV (o := 65) (M' := mi_X10_isHere) (d' := d - 1) (As := [.ref 137]) (rest := []) (r' := (some (.int q5.1), hp q5.2)) (e_X10_isHere (d := d - 1) (by omega) 137 q3.2 _ hq5) (by omega) wm_X10_isHere wi_X10_isHere wv_X10_isHere km_10_301 (kc rfl rfl) (Nat.le_of_ble_eq_true rfl) rfl rfl rfl (Nat.le_of_ble_eq_true rfl) ⟨Nat.le_of_ble_eq_true rfl, Nat.le_of_ble_eq_true rfl⟩ (by decide +kernel) ?_
      show Ev l d mi_X10_qWordHere 34 [some (.ref 65)] [.int q5.1] (hp q5.2) 0 0 _
      refine Ev.if_eq (off := 17) (tgt := 51) (by decide +kernel) (by decide) (fun b6 => ?_) (fun b6 => ?_)
      · have hf := (if_pos b6).symm.trans hf
        refine Ev.blk (pc' := 56) [(.aload_n 0, 0, 0, 0), (.aload_n 0, 0, 0, 0), (.getfield 239, 0, 10, 102)] (by decide +kernel) ⟨kf_10_239, trivial⟩ rfl (And.intro (kc rfl rfl) (Exists.intro 138 (And.intro rfl (?_))))
        show Ev l d mi_X10_qWordHere 56 [some (.ref 65)] [.ref 138, .ref 65] (hp q5.2) 0 0 _
        obtain ⟨q7, hq7, hf⟩ := bd_some hf
        refine Ev.callV (o := 65) (M' := mi_X10_isHere) (d' := d - 1) (As := [.ref 138]) (rest := []) (r' := (some (.int q7.1), hp q7.2)) (e_X10_isHere (d := d - 1) (by omega) 138 q5.2 _ hq7) (by omega) wm_X10_isHere wi_X10_isHere wv_X10_isHere km_10_301 (kc rfl rfl) (Nat.le_of_ble_eq_true rfl) rfl rfl rfl (Nat.le_of_ble_eq_true rfl) ⟨Nat.le_of_ble_eq_true rfl, Nat.le_of_ble_eq_true rfl⟩ (by decide +kernel) ?_
        show Ev l d mi_X10_qWordHere 59 [some (.ref 65)] [.int q7.1] (hp q7.2) 0 0 _
        refine Ev.if_eq (off := 5) (tgt := 64) (by decide +kernel) (by decide) (fun b8 => ?_) (fun b8 => ?_)
        · have hf := (if_pos b8).symm.trans hf
          refine Ev.blk (pc' := 69) [(.aload_n 0, 0, 0, 0), (.aload_n 0, 0, 0, 0), (.getfield 242, 0, 10, 103)] (by decide +kernel) ⟨kf_10_242, trivial⟩ rfl (And.intro (kc rfl rfl) (Exists.intro 139 (And.intro rfl (?_))))
          show Ev l d mi_X10_qWordHere 69 [some (.ref 65)] [.ref 139, .ref 65] (hp q7.2) 0 0 _
          obtain ⟨q9, hq9, hf⟩ := bd_some hf
          refine Ev.callV (o := 65) (M' := mi_X10_isHere) (d' := d - 1) (As := [.ref 139]) (rest := []) (r' := (some (.int q9.1), hp q9.2)) (e_X10_isHere (d := d - 1) (by omega) 139 q7.2 _ hq9) (by omega) wm_X10_isHere wi_X10_isHere wv_X10_isHere km_10_301 (kc rfl rfl) (Nat.le_of_ble_eq_true rfl) rfl rfl rfl (Nat.le_of_ble_eq_true rfl) ⟨Nat.le_of_ble_eq_true rfl, Nat.le_of_ble_eq_true rfl⟩ (by decide +kernel) ?_
          show Ev l d mi_X10_qWordHere 72 [some (.ref 65)] [.int q9.1] (hp q9.2) 0 0 _
          refine Ev.if_eq (off := 5) (tgt := 77) (by decide +kernel) (by decide) (fun b10 => ?_) (fun b10 => ?_)
          · have hf := (if_pos b10).symm.trans hf
            refine Ev.blk (pc' := 82) [(.aload_n 0, 0, 0, 0), (.aload_n 0, 0, 0, 0), (.getfield 245, 0, 10, 104)] (by decide +kernel) ⟨kf_10_245, trivial⟩ rfl (And.intro (kc rfl rfl) (Exists.intro 140 (And.intro rfl (?_))))
            show Ev l d mi_X10_qWordHere 82 [some (.ref 65)] [.ref 140, .ref 65] (hp q9.2) 0 0 _
            obtain ⟨q11, hq11, hf⟩ := bd_some hf
            refine Ev.callV (o := 65) (M' := mi_X10_isHere) (d' := d - 1) (As := [.ref 140]) (rest := []) (r' := (some (.int q11.1), hp q11.2)) (e_X10_isHere (d := d - 1) (by omega) 140 q9.2 _ hq11) (by omega) wm_X10_isHere wi_X10_isHere wv_X10_isHere km_10_301 (kc rfl rfl) (Nat.le_of_ble_eq_true rfl) rfl rfl rfl (Nat.le_of_ble_eq_true rfl) ⟨Nat.le_of_ble_eq_true rfl, Nat.le_of_ble_eq_true rfl⟩ (by decide +kernel) ?_
            show Ev l d mi_X10_qWordHere 85 [some (.ref 65)] [.int q11.1] (hp q11.2) 0 0 _
            refine Ev.if_eq (off := 5) (tgt := 90) (by decide +kernel) (by decide) (fun b12 => ?_) (fun b12 => ?_)
            · have hf := (if_pos b12).symm.trans hf
              refine Ev.blk (pc' := 95) [(.aload_n 0, 0, 0, 0), (.aload_n 0, 0, 0, 0), (.getfield 248, 0, 10, 105)] (by decide +kernel) ⟨kf_10_248, trivial⟩ rfl (And.intro (kc rfl rfl) (Exists.intro 141 (And.intro rfl (?_))))
              show Ev l d mi_X10_qWordHere 95 [some (.ref 65)] [.ref 141, .ref 65] (hp q11.2) 0 0 _
              obtain ⟨q13, hq13, hf⟩ := bd_some hf
              refine Ev.callV (o := 65) (M' := mi_X10_isHere) (d' := d - 1) (As := [.ref 141]) (rest := []) (r' := (some (.int q13.1), hp q13.2)) (e_X10_isHere (d := d - 1) (by omega) 141 q11.2 _ hq13) (by omega) wm_X10_isHere wi_X10_isHere wv_X10_isHere km_10_301 (kc rfl rfl) (Nat.le_of_ble_eq_true rfl) rfl rfl rfl (Nat.le_of_ble_eq_true rfl) ⟨Nat.le_of_ble_eq_true rfl, Nat.le_of_ble_eq_true rfl⟩ (by decide +kernel) ?_
              show Ev l d mi_X10_qWordHere 98 [some (.ref 65)] [.int q13.1] (hp q13.2) 0 0 _
              refine Ev.if_eq (off := 6) (tgt := 104) (by decide +kernel) (by decide) (fun b14 => ?_) (fun b14 => ?_)
              · have hf := (if_pos b14).symm.trans hf
                refine Ev.blk (pc' := 109) [(.aload_n 0, 0, 0, 0), (.aload_n 0, 0, 0, 0), (.getfield 251, 0, 10, 106)] (by decide +kernel) ⟨kf_10_251, trivial⟩ rfl (And.intro (kc rfl rfl) (Exists.intro 142 (And.intro rfl (?_))))
                show Ev l d mi_X10_qWordHere 109 [some (.ref 65)] [.ref 142, .ref 65] (hp q13.2) 0 0 _
                obtain ⟨q15, hq15, hf⟩ := bd_some hf
                refine Ev.callV (o := 65) (M' := mi_X10_isHere) (d' := d - 1) (As := [.ref 142]) (rest := []) (r' := (some (.int q15.1), hp q15.2)) (e_X10_isHere (d := d - 1) (by omega) 142 q13.2 _ hq15) (by omega) wm_X10_isHere wi_X10_isHere wv_X10_isHere km_10_301 (kc rfl rfl) (Nat.le_of_ble_eq_true rfl) rfl rfl rfl (Nat.le_of_ble_eq_true rfl) ⟨Nat.le_of_ble_eq_true rfl, Nat.le_of_ble_eq_true rfl⟩ (by decide +kernel) ?_
                show Ev l d mi_X10_qWordHere 112 [some (.ref 65)] [.int q15.1] (hp q15.2) 0 0 _
                refine Ev.if_eq (off := 6) (tgt := 118) (by decide +kernel) (by decide) (fun b16 => ?_) (fun b16 => ?_)
                · have hf := (if_pos b16).symm.trans hf
                  refine Ev.blk (pc' := 123) [(.aload_n 0, 0, 0, 0), (.aload_n 0, 0, 0, 0), (.getfield 254, 0, 10, 107)] (by decide +kernel) ⟨kf_10_254, trivial⟩ rfl (And.intro (kc rfl rfl) (Exists.intro 143 (And.intro rfl (?_))))
                  show Ev l d mi_X10_qWordHere 123 [some (.ref 65)] [.ref 143, .ref 65] (hp q15.2) 0 0 _
                  obtain ⟨q17, hq17, hf⟩ := bd_some hf
                  refine Ev.callV (o := 65) (M' := mi_X10_isHere) (d' := d - 1) (As := [.ref 143]) (rest := []) (r' := (some (.int q17.1), hp q17.2)) (e_X10_isHere (d := d - 1) (by omega) 143 q15.2 _ hq17) (by omega) wm_X10_isHere wi_X10_isHere wv_X10_isHere km_10_301 (kc rfl rfl) (Nat.le_of_ble_eq_true rfl) rfl rfl rfl (Nat.le_of_ble_eq_true rfl) ⟨Nat.le_of_ble_eq_true rfl, Nat.le_of_ble_eq_true rfl⟩ (by decide +kernel) ?_
                  show Ev l d mi_X10_qWordHere 126 [some (.ref 65)] [.int q17.1] (hp q17.2) 0 0 _
                  refine Ev.if_eq (off := 6) (tgt := 132) (by decide +kernel) (by decide) (fun b18 => ?_) (fun b18 => ?_)
                  · have hf := (if_pos b18).symm.trans hf
                    refine Ev.blk (pc' := 137) [(.aload_n 0, 0, 0, 0), (.aload_n 0, 0, 0, 0), (.getfield 257, 0, 10, 108)] (by decide +kernel) ⟨kf_10_257, trivial⟩ rfl (And.intro (kc rfl rfl) (Exists.intro 144 (And.intro rfl (?_))))
                    show Ev l d mi_X10_qWordHere 137 [some (.ref 65)] [.ref 144, .ref 65] (hp q17.2) 0 0 _
                    obtain ⟨q19, hq19, hf⟩ := bd_some hf
                    refine Ev.callV (o := 65) (M' := mi_X10_isHere) (d' := d - 1) (As := [.ref 144]) (rest := []) (r' := (some (.int q19.1), hp q19.2)) (e_X10_isHere (d := d - 1) (by omega) 144 q17.2 _ hq19) (by omega) wm_X10_isHere wi_X10_isHere wv_X10_isHere km_10_301 (kc rfl rfl) (Nat.le_of_ble_eq_true rfl) rfl rfl rfl (Nat.le_of_ble_eq_true rfl) ⟨Nat.le_of_ble_eq_true rfl, Nat.le_of_ble_eq_true rfl⟩ (by decide +kernel) ?_
                    show Ev l d mi_X10_qWordHere 140 [some (.ref 65)] [.int q19.1] (hp q19.2) 0 0 _
                    refine Ev.if_eq (off := 6) (tgt := 146) (by decide +kernel) (by decide) (fun b20 => ?_) (fun b20 => ?_)
                    · have hf := (if_pos b20).symm.trans hf
                      refine Ev.blk (pc' := 151) [(.aload_n 0, 0, 0, 0), (.aload_n 0, 0, 0, 0), (.getfield 260, 0, 10, 109)] (by decide +kernel) ⟨kf_10_260, trivial⟩ rfl (And.intro (kc rfl rfl) (Exists.intro 145 (And.intro rfl (?_))))
                      show Ev l d mi_X10_qWordHere 151 [some (.ref 65)] [.ref 145, .ref 65] (hp q19.2) 0 0 _
                      obtain ⟨q21, hq21, hf⟩ := bd_some hf
                      refine Ev.callV (o := 65) (M' := mi_X10_isHere) (d' := d - 1) (As := [.ref 145]) (rest := []) (r' := (some (.int q21.1), hp q21.2)) (e_X10_isHere (d := d - 1) (by omega) 145 q19.2 _ hq21) (by omega) wm_X10_isHere wi_X10_isHere wv_X10_isHere km_10_301 (kc rfl rfl) (Nat.le_of_ble_eq_true rfl) rfl rfl rfl (Nat.le_of_ble_eq_true rfl) ⟨Nat.le_of_ble_eq_true rfl, Nat.le_of_ble_eq_true rfl⟩ (by decide +kernel) ?_
                      show Ev l d mi_X10_qWordHere 154 [some (.ref 65)] [.int q21.1] (hp q21.2) 0 0 _
                      refine Ev.if_eq (off := 6) (tgt := 160) (by decide +kernel) (by decide) (fun b22 => ?_) (fun b22 => ?_)
                      · have hf := (if_pos b22).symm.trans hf
                        refine Ev.blk (pc' := 161) [(.iconst (-1), 0, 0, 0)] (by decide +kernel) trivial rfl (?_)
                        show Ev l d mi_X10_qWordHere 161 [some (.ref 65)] [.int (Int32.ofInt (-1))] (hp q21.2) 0 0 _
                        cases hf
                        exact Ev.iret .int rfl rfl (by decide +kernel) (Nat.le_refl _) (Nat.le_refl _)
                      · have hf := (if_neg b22).symm.trans hf
                        refine Ev.blk (pc' := 159) [(.bipush 10, 0, 0, 0)] (by decide +kernel) trivial rfl (?_)
                        show Ev l d mi_X10_qWordHere 159 [some (.ref 65)] [.int ((Int8.ofInt 10).toInt32)] (hp q21.2) 0 0 _
                        cases hf
                        exact Ev.iret .int rfl rfl (by decide +kernel) (Nat.le_refl _) (Nat.le_refl _)
                    · have hf := (if_neg b20).symm.trans hf
                      refine Ev.blk (pc' := 145) [(.bipush 9, 0, 0, 0)] (by decide +kernel) trivial rfl (?_)
                      show Ev l d mi_X10_qWordHere 145 [some (.ref 65)] [.int ((Int8.ofInt 9).toInt32)] (hp q19.2) 0 0 _
                      cases hf
                      exact Ev.iret .int rfl rfl (by decide +kernel) (Nat.le_refl _) (Nat.le_refl _)
                  · have hf := (if_neg b18).symm.trans hf
                    refine Ev.blk (pc' := 131) [(.bipush 8, 0, 0, 0)] (by decide +kernel) trivial rfl (?_)
                    show Ev l d mi_X10_qWordHere 131 [some (.ref 65)] [.int ((Int8.ofInt 8).toInt32)] (hp q17.2) 0 0 _
                    cases hf
                    exact Ev.iret .int rfl rfl (by decide +kernel) (Nat.le_refl _) (Nat.le_refl _)
                · have hf := (if_neg b16).symm.trans hf
                  refine Ev.blk (pc' := 117) [(.bipush 7, 0, 0, 0)] (by decide +kernel) trivial rfl (?_)
                  show Ev l d mi_X10_qWordHere 117 [some (.ref 65)] [.int ((Int8.ofInt 7).toInt32)] (hp q15.2) 0 0 _
                  cases hf
                  exact Ev.iret .int rfl rfl (by decide +kernel) (Nat.le_refl _) (Nat.le_refl _)
              · have hf := (if_neg b14).symm.trans hf
                refine Ev.blk (pc' := 103) [(.bipush 6, 0, 0, 0)] (by decide +kernel) trivial rfl (?_)
                show Ev l d mi_X10_qWordHere 103 [some (.ref 65)] [.int ((Int8.ofInt 6).toInt32)] (hp q13.2) 0 0 _
                cases hf
                exact Ev.iret .int rfl rfl (by decide +kernel) (Nat.le_refl _) (Nat.le_refl _)
            · have hf := (if_neg b12).symm.trans hf
              refine Ev.blk (pc' := 89) [(.iconst 5, 0, 0, 0)] (by decide +kernel) trivial rfl (?_)
              show Ev l d mi_X10_qWordHere 89 [some (.ref 65)] [.int (Int32.ofInt 5)] (hp q11.2) 0 0 _
              cases hf
              exact Ev.iret .int rfl rfl (by decide +kernel) (Nat.le_refl _) (Nat.le_refl _)
          · have hf := (if_neg b10).symm.trans hf
            refine Ev.blk (pc' := 76) [(.iconst 4, 0, 0, 0)] (by decide +kernel) trivial rfl (?_)
            show Ev l d mi_X10_qWordHere 76 [some (.ref 65)] [.int (Int32.ofInt 4)] (hp q9.2) 0 0 _
            cases hf
            exact Ev.iret .int rfl rfl (by decide +kernel) (Nat.le_refl _) (Nat.le_refl _)
        · have hf := (if_neg b8).symm.trans hf
          refine Ev.blk (pc' := 63) [(.iconst 3, 0, 0, 0)] (by decide +kernel) trivial rfl (?_)
          show Ev l d mi_X10_qWordHere 63 [some (.ref 65)] [.int (Int32.ofInt 3)] (hp q7.2) 0 0 _
          cases hf
          exact Ev.iret .int rfl rfl (by decide +kernel) (Nat.le_refl _) (Nat.le_refl _)
      · have hf := (if_neg b6).symm.trans hf
        refine Ev.blk (pc' := 41) [(.aload_n 0, 0, 0, 0), (.getfield 336, 0, 10, 59)] (by decide +kernel) ⟨kf_10_336, trivial⟩ rfl (And.intro (kc rfl rfl) (?_))
        show Ev l d mi_X10_qWordHere 41 [some (.ref 65)] [.int (q5.2.1 65 59)] (hp q5.2) 0 0 _
        refine Ev.if_eq (off := 7) (tgt := 48) (by decide +kernel) (by decide) (fun b23 => ?_) (fun b23 => ?_)
        · have hf := (if_pos b23).symm.trans hf
          refine Ev.blk (pc' := 50) [(.bipush 11, 0, 0, 0)] (by decide +kernel) trivial rfl (?_)
          show Ev l d mi_X10_qWordHere 50 [some (.ref 65)] [.int ((Int8.ofInt 11).toInt32)] (hp q5.2) 0 0 _
          cases hf
          exact Ev.iret .int rfl rfl (by decide +kernel) (Nat.le_refl _) (Nat.le_refl _)
        · have hf := (if_neg b23).symm.trans hf
          refine Ev.blk (pc' := 45) [(.iconst 2, 0, 0, 0)] (by decide +kernel) trivial rfl (?_)
          show Ev l d mi_X10_qWordHere 45 [some (.ref 65)] [.int (Int32.ofInt 2)] (hp q5.2) 0 0 _
          refine Ev.goto (off := 5) (tgt := 50) (by decide +kernel) (by decide) ?_
          cases hf
          exact Ev.iret .int rfl rfl (by decide +kernel) (Nat.le_refl _) (Nat.le_refl _)
    · have hf := (if_neg b4).symm.trans hf
      refine Ev.blk (pc' := 25) [(.iconst 1, 0, 0, 0)] (by decide +kernel) trivial rfl (?_)
      show Ev l d mi_X10_qWordHere 25 [some (.ref 65)] [.int (Int32.ofInt 1)] (hp q3.2) 0 0 _
      cases hf
      exact Ev.iret .int rfl rfl (by decide +kernel) (Nat.le_refl _) (Nat.le_refl _)
  · have hf := (if_neg b2).symm.trans hf
    refine Ev.blk (pc' := 12) [(.iconst 0, 0, 0, 0)] (by decide +kernel) trivial rfl (?_)
    show Ev l d mi_X10_qWordHere 12 [some (.ref 65)] [.int (Int32.ofInt 0)] (hp q1.2) 0 0 _
    cases hf
    exact Ev.iret .int rfl rfl (by decide +kernel) (Nat.le_refl _) (Nat.le_refl _)
def f_X10_qWordOf (p0 : Int32) (p1 : Int32) (s : ST) : Option (Int32 × ST) := (f_X10_qWordHere s).bind (fun q1 => (if q1.1 < p0 then some ((Int32.ofInt (-1)), q1.2) else (if p1 ≤ q1.1 then some ((Int32.ofInt (-1)), q1.2) else (f_X10_isAllowed q1.1 q1.2).bind (fun q4 => (if q4.1 = 0 then some ((Int32.ofInt (-1)), q4.2) else some (q1.1, q4.2))))))
set_option maxHeartbeats 2000000 in
set_option maxRecDepth 20000 in
theorem e_X10_qWordOf {l : Launch} {d : Nat} (hd : 4 ≤ d) (p0 : Int32) (p1 : Int32) (s : ST) (r : Int32 × ST) (hf : f_X10_qWordOf p0 p1 s = some r) : Cl l d mi_X10_qWordOf [.ref 65, .int p0, .int p1] (hp s) (some (.int r.1), hp r.2) := by
  refine Ev.entry (by decide +kernel) rfl rfl ?_
  show Ev l d mi_X10_qWordOf 0 [some (.ref 65), some (.int p0), some (.int p1), none] [] (hp s) 0 0 _
  unfold f_X10_qWordOf at hf
  refine Ev.blk (pc' := 1) [(.aload_n 0, 0, 0, 0)] (by decide +kernel) trivial rfl (?_)
  show Ev l d mi_X10_qWordOf 1 [some (.ref 65), some (.int p0), some (.int p1), none] [.ref 65] (hp s) 0 0 _
  obtain ⟨q1, hq1, hf⟩ := bd_some hf
  refine Ev.callV (o := 65) (M' := mi_X10_qWordHere) (d' := d - 1) (As := []) (rest := []) (r' := (some (.int q1.1), hp q1.2)) (e_X10_qWordHere (d := d - 1) (by omega) s _ hq1) (by omega) wm_X10_qWordHere wi_X10_qWordHere wv_X10_qWordHere km_10_688 (kc rfl rfl) (Nat.le_of_ble_eq_true rfl) rfl rfl rfl (Nat.le_of_ble_eq_true rfl) ⟨Nat.le_of_ble_eq_true rfl, Nat.le_of_ble_eq_true rfl⟩ (by decide +kernel) ?_
  show Ev l d mi_X10_qWordOf 4 [some (.ref 65), some (.int p0), some (.int p1), none] [.int q1.1] (hp q1.2) 0 0 _
  refine Ev.blk (pc' := 7) [(.istore_n 3, 0, 0, 0), (.iload_n 3, 0, 0, 0), (.iload_n 1, 0, 0, 0)] (by decide +kernel) trivial rfl (And.intro (Nat.le_of_ble_eq_true rfl) (?_))
  show Ev l d mi_X10_qWordOf 7 [some (.ref 65), some (.int p0), some (.int p1), some (.int q1.1)] [.int p0, .int q1.1] (hp q1.2) 0 0 _
  refine Ev.icmp_lt (off := 20) (tgt := 27) (by decide +kernel) (by decide) (fun b2 => ?_) (fun b2 => ?_)
  · have hf := (if_pos b2).symm.trans hf
    refine Ev.blk (pc' := 28) [(.iconst (-1), 0, 0, 0)] (by decide +kernel) trivial rfl (?_)
    show Ev l d mi_X10_qWordOf 28 [some (.ref 65), some (.int p0), some (.int p1), some (.int q1.1)] [.int (Int32.ofInt (-1))] (hp q1.2) 0 0 _
    cases hf
    exact Ev.iret .int rfl rfl (by decide +kernel) (Nat.le_refl _) (Nat.le_refl _)
  · have hf := (if_neg b2).symm.trans hf
    refine Ev.blk (pc' := 12) [(.iload_n 3, 0, 0, 0), (.iload_n 2, 0, 0, 0)] (by decide +kernel) trivial rfl (?_)
    show Ev l d mi_X10_qWordOf 12 [some (.ref 65), some (.int p0), some (.int p1), some (.int q1.1)] [.int p1, .int q1.1] (hp q1.2) 0 0 _
    refine Ev.icmp_ge (off := 15) (tgt := 27) (by decide +kernel) (by decide) (fun b3 => ?_) (fun b3 => ?_)
    · have hf := (if_pos b3).symm.trans hf
      refine Ev.blk (pc' := 28) [(.iconst (-1), 0, 0, 0)] (by decide +kernel) trivial rfl (?_)
      show Ev l d mi_X10_qWordOf 28 [some (.ref 65), some (.int p0), some (.int p1), some (.int q1.1)] [.int (Int32.ofInt (-1))] (hp q1.2) 0 0 _
      cases hf
      exact Ev.iret .int rfl rfl (by decide +kernel) (Nat.le_refl _) (Nat.le_refl _)
    · have hf := (if_neg b3).symm.trans hf
      refine Ev.blk (pc' := 17) [(.aload_n 0, 0, 0, 0), (.iload_n 3, 0, 0, 0)] (by decide +kernel) trivial rfl (?_)
      show Ev l d mi_X10_qWordOf 17 [some (.ref 65), some (.int p0), some (.int p1), some (.int q1.1)] [.int q1.1, .ref 65] (hp q1.2) 0 0 _
      obtain ⟨q4, hq4, hf⟩ := bd_some hf
      refine Ev.callV (o := 65) (M' := mi_X10_isAllowed) (d' := d - 1) (As := [.int q1.1]) (rest := []) (r' := (some (.int q4.1), hp q4.2)) (e_X10_isAllowed (d := d - 1) (by omega) q1.1 q1.2 _ hq4) (by omega) wm_X10_isAllowed wi_X10_isAllowed wv_X10_isAllowed km_10_691 (kc rfl rfl) (Nat.le_of_ble_eq_true rfl) rfl rfl rfl (Nat.le_of_ble_eq_true rfl) ⟨Nat.le_of_ble_eq_true rfl, Nat.le_of_ble_eq_true rfl⟩ (by decide +kernel) ?_
      show Ev l d mi_X10_qWordOf 20 [some (.ref 65), some (.int p0), some (.int p1), some (.int q1.1)] [.int q4.1] (hp q4.2) 0 0 _
      refine Ev.if_eq (off := 7) (tgt := 27) (by decide +kernel) (by decide) (fun b5 => ?_) (fun b5 => ?_)
      · have hf := (if_pos b5).symm.trans hf
        refine Ev.blk (pc' := 28) [(.iconst (-1), 0, 0, 0)] (by decide +kernel) trivial rfl (?_)
        show Ev l d mi_X10_qWordOf 28 [some (.ref 65), some (.int p0), some (.int p1), some (.int q1.1)] [.int (Int32.ofInt (-1))] (hp q4.2) 0 0 _
        cases hf
        exact Ev.iret .int rfl rfl (by decide +kernel) (Nat.le_refl _) (Nat.le_refl _)
      · have hf := (if_neg b5).symm.trans hf
        refine Ev.blk (pc' := 24) [(.iload_n 3, 0, 0, 0)] (by decide +kernel) trivial rfl (?_)
        show Ev l d mi_X10_qWordOf 24 [some (.ref 65), some (.int p0), some (.int p1), some (.int q1.1)] [.int q1.1] (hp q4.2) 0 0 _
        refine Ev.goto (off := 4) (tgt := 28) (by decide +kernel) (by decide) ?_
        cases hf
        exact Ev.iret .int rfl rfl (by decide +kernel) (Nat.le_refl _) (Nat.le_refl _)
def f_X10_qPartTold_j144 (k2 : Int32 → ST → Option (ST)) (x1 : Int32) (s : ST) : Option (ST) := (f_X10_asksSign ((Int8.ofInt 40).toInt32) s).bind (fun q32 => k2 x1 q32)
set_option maxHeartbeats 2000000 in
set_option maxRecDepth 20000 in
theorem e_X10_qPartTold_j144 {l : Launch} {d : Nat} (hd : 6 ≤ d) (k2 : Int32 → ST → Option (ST)) (hk2 : ∀ (x1 : Int32) (s : ST) (r : ST), k2 x1 s = some r → Ev l d mi_X10_qPartTold 2 [some (.ref 65), some (.int x1), none, none, none, none] [] (hp s) 0 0 (none, hp r)) (x1 : Int32) (s : ST) (r : ST) (hf : f_X10_qPartTold_j144 k2 x1 s = some r) : Ev l d mi_X10_qPartTold 144 [some (.ref 65), some (.int x1), none, none, none, none] [] (hp s) 0 0 (none, hp r) := by
  unfold f_X10_qPartTold_j144 at hf
  refine Ev.blk (pc' := 147) [(.aload_n 0, 0, 0, 0), (.bipush 40, 0, 0, 0)] (by decide +kernel) trivial rfl (?_)
  show Ev l d mi_X10_qPartTold 147 [some (.ref 65), some (.int x1), none, none, none, none] [.int ((Int8.ofInt 40).toInt32), .ref 65] (hp s) 0 0 _
  obtain ⟨q32, hq32, hf⟩ := bd_some hf
  refine Ev.callV (o := 65) (M' := mi_X10_asksSign) (d' := d - 1) (As := [.int ((Int8.ofInt 40).toInt32)]) (rest := []) (r' := (none, hp q32)) (e_X10_asksSign (d := d - 1) (by omega) ((Int8.ofInt 40).toInt32) s _ hq32) (by omega) wm_X10_asksSign wi_X10_asksSign wv_X10_asksSign km_10_356 (kc rfl rfl) (Nat.le_of_ble_eq_true rfl) rfl rfl rfl (Nat.le_of_ble_eq_true rfl) ⟨Nat.le_of_ble_eq_true rfl, Nat.le_of_ble_eq_true rfl⟩ (by decide +kernel) ?_
  show Ev l d mi_X10_qPartTold 150 [some (.ref 65), some (.int x1), none, none, none, none] [] (hp q32) 0 0 _
  refine Ev.goto (off := 33) (tgt := 183) (by decide +kernel) (by decide) ?_
  refine Ev.goto (off := -181) (tgt := 2) (by decide +kernel) (by decide) ?_
  exact hk2 x1 q32 _ hf
def f_X10_qPartTold_j139 (k2 : Int32 → ST → Option (ST)) (x1 : Int32) (x5 : Int32) (y1 : Int32) (s : ST) : Option (ST) := (f_X10_qOpens y1 x5 s).bind (fun q31 => (f_X10_qPartTold_j144 k2) x1 q31)
set_option maxHeartbeats 2000000 in
set_option maxRecDepth 20000 in
theorem e_X10_qPartTold_j139 {l : Launch} {d : Nat} (hd : 6 ≤ d) (k2 : Int32 → ST → Option (ST)) (hk2 : ∀ (x1 : Int32) (s : ST) (r : ST), k2 x1 s = some r → Ev l d mi_X10_qPartTold 2 [some (.ref 65), some (.int x1), none, none, none, none] [] (hp s) 0 0 (none, hp r)) (x1 : Int32) (x5 : Int32) (y1 : Int32) (s : ST) (r : ST) (hf : f_X10_qPartTold_j139 k2 x1 x5 y1 s = some r) : Ev l d mi_X10_qPartTold 139 [some (.ref 65), some (.int x1), none, none, none, some (.int x5)] [.int y1, .ref 65] (hp s) 0 0 (none, hp r) := by
  unfold f_X10_qPartTold_j139 at hf
  refine Ev.blk (pc' := 141) [(.iload 5, 0, 0, 0)] (by decide +kernel) trivial rfl (?_)
  show Ev l d mi_X10_qPartTold 141 [some (.ref 65), some (.int x1), none, none, none, some (.int x5)] [.int x5, .int y1, .ref 65] (hp s) 0 0 _
  obtain ⟨q31, hq31, hf⟩ := bd_some hf
  refine Ev.callV (o := 65) (M' := mi_X10_qOpens) (d' := d - 1) (As := [.int y1, .int x5]) (rest := []) (r' := (none, hp q31)) (e_X10_qOpens (d := d - 1) (by omega) y1 x5 s _ hq31) (by omega) wm_X10_qOpens wi_X10_qOpens wv_X10_qOpens km_10_697 (kc rfl rfl) (Nat.le_of_ble_eq_true rfl) rfl rfl rfl (Nat.le_of_ble_eq_true rfl) ⟨Nat.le_of_ble_eq_true rfl, Nat.le_of_ble_eq_true rfl⟩ (by decide +kernel) ?_
  show Ev l d mi_X10_qPartTold 144 [some (.ref 65), some (.int x1), none, none, none, some (.int x5)] [] (hp q31) 0 0 _
  exact Ev.wk ((e_X10_qPartTold_j144 hd k2 hk2) x1 q31 _ hf) (And.intro (Or.inr rfl) (And.intro (Or.inr rfl) (And.intro (Or.inr rfl) (And.intro (Or.inr rfl) (And.intro (Or.inr rfl) (And.intro (Or.inl rfl) (trivial)))))))
def f_X10_qPartTold_j118 (k2 : Int32 → ST → Option (ST)) (x1 : Int32) (x4 : Int32) (y0 : Int32) (s : ST) : Option (ST) := (if y0 = (Int32.ofInt (-1)) then (f_X10_qPartTold_j144 k2) x1 s else (if x4 = 0 then (f_X10_qPartTold_j139 k2) x1 y0 ((Int8.ofInt 22).toInt32) s else (f_X10_qPartTold_j139 k2) x1 y0 ((Int8.ofInt 21).toInt32) s))
set_option maxHeartbeats 2000000 in
set_option maxRecDepth 20000 in
theorem e_X10_qPartTold_j118 {l : Launch} {d : Nat} (hd : 6 ≤ d) (k2 : Int32 → ST → Option (ST)) (hk2 : ∀ (x1 : Int32) (s : ST) (r : ST), k2 x1 s = some r → Ev l d mi_X10_qPartTold 2 [some (.ref 65), some (.int x1), none, none, none, none] [] (hp s) 0 0 (none, hp r)) (x1 : Int32) (x4 : Int32) (y0 : Int32) (s : ST) (r : ST) (hf : f_X10_qPartTold_j118 k2 x1 x4 y0 s = some r) : Ev l d mi_X10_qPartTold 118 [some (.ref 65), some (.int x1), none, none, some (.int x4), none] [.int y0] (hp s) 0 0 (none, hp r) := by
  unfold f_X10_qPartTold_j118 at hf
  refine Ev.blk (pc' := 123) [(.istore 5, 0, 0, 0), (.iload 5, 0, 0, 0), (.iconst (-1), 0, 0, 0)] (by decide +kernel) trivial rfl (And.intro (Nat.le_of_ble_eq_true rfl) (?_))
  show Ev l d mi_X10_qPartTold 123 [some (.ref 65), some (.int x1), none, none, some (.int x4), some (.int y0)] [.int (Int32.ofInt (-1)), .int y0] (hp s) 0 0 _
  refine Ev.icmp_eq (off := 21) (tgt := 144) (by decide +kernel) (by decide) (fun b27 => ?_) (fun b27 => ?_)
  · have hf := (if_pos b27).symm.trans hf
    exact Ev.wk ((e_X10_qPartTold_j144 hd k2 hk2) x1 s _ hf) (And.intro (Or.inr rfl) (And.intro (Or.inr rfl) (And.intro (Or.inr rfl) (And.intro (Or.inr rfl) (And.intro (Or.inl rfl) (And.intro (Or.inl rfl) (trivial)))))))
  · have hf := (if_neg b27).symm.trans hf
    refine Ev.blk (pc' := 129) [(.aload_n 0, 0, 0, 0), (.iload 4, 0, 0, 0)] (by decide +kernel) trivial rfl (?_)
    show Ev l d mi_X10_qPartTold 129 [some (.ref 65), some (.int x1), none, none, some (.int x4), some (.int y0)] [.int x4, .ref 65] (hp s) 0 0 _
    refine Ev.if_eq (off := 8) (tgt := 137) (by decide +kernel) (by decide) (fun b28 => ?_) (fun b28 => ?_)
    · have hf := (if_pos b28).symm.trans hf
      refine Ev.blk (pc' := 139) [(.bipush 22, 0, 0, 0)] (by decide +kernel) trivial rfl (?_)
      show Ev l d mi_X10_qPartTold 139 [some (.ref 65), some (.int x1), none, none, some (.int x4), some (.int y0)] [.int ((Int8.ofInt 22).toInt32), .ref 65] (hp s) 0 0 _
      exact Ev.wk ((e_X10_qPartTold_j139 hd k2 hk2) x1 y0 ((Int8.ofInt 22).toInt32) s _ hf) (And.intro (Or.inr rfl) (And.intro (Or.inr rfl) (And.intro (Or.inr rfl) (And.intro (Or.inr rfl) (And.intro (Or.inl rfl) (And.intro (Or.inr rfl) (trivial)))))))
    · have hf := (if_neg b28).symm.trans hf
      refine Ev.blk (pc' := 134) [(.bipush 21, 0, 0, 0)] (by decide +kernel) trivial rfl (?_)
      show Ev l d mi_X10_qPartTold 134 [some (.ref 65), some (.int x1), none, none, some (.int x4), some (.int y0)] [.int ((Int8.ofInt 21).toInt32), .ref 65] (hp s) 0 0 _
      refine Ev.goto (off := 5) (tgt := 139) (by decide +kernel) (by decide) ?_
      exact Ev.wk ((e_X10_qPartTold_j139 hd k2 hk2) x1 y0 ((Int8.ofInt 21).toInt32) s _ hf) (And.intro (Or.inr rfl) (And.intro (Or.inr rfl) (And.intro (Or.inr rfl) (And.intro (Or.inr rfl) (And.intro (Or.inl rfl) (And.intro (Or.inr rfl) (trivial)))))))
def f_X10_qPartTold_j101 (k2 : Int32 → ST → Option (ST)) (x1 : Int32) (x4 : Int32) (s : ST) : Option (ST) := (f_X10_look s).bind (fun q23 => (if q23.1 = ((Int8.ofInt 40).toInt32) then (f_X10_qPartTold_j118 k2) x1 x4 (q23.2.1 65 2) q23.2 else (f_X10_qPartTold_j118 k2) x1 x4 (Int32.ofInt (-1)) q23.2))
set_option maxHeartbeats 2000000 in
set_option maxRecDepth 20000 in
theorem e_X10_qPartTold_j101 {l : Launch} {d : Nat} (hd : 6 ≤ d) (k2 : Int32 → ST → Option (ST)) (hk2 : ∀ (x1 : Int32) (s : ST) (r : ST), k2 x1 s = some r → Ev l d mi_X10_qPartTold 2 [some (.ref 65), some (.int x1), none, none, none, none] [] (hp s) 0 0 (none, hp r)) (x1 : Int32) (x4 : Int32) (s : ST) (r : ST) (hf : f_X10_qPartTold_j101 k2 x1 x4 s = some r) : Ev l d mi_X10_qPartTold 101 [some (.ref 65), some (.int x1), none, none, some (.int x4), none] [] (hp s) 0 0 (none, hp r) := by
  unfold f_X10_qPartTold_j101 at hf
  refine Ev.blk (pc' := 102) [(.aload_n 0, 0, 0, 0)] (by decide +kernel) trivial rfl (?_)
  show Ev l d mi_X10_qPartTold 102 [some (.ref 65), some (.int x1), none, none, some (.int x4), none] [.ref 65] (hp s) 0 0 _
  obtain ⟨q23, hq23, hf⟩ := bd_some hf
  refine Ev.callV (o := 65) (M' := mi_X10_look) (d' := d - 1) (As := []) (rest := []) (r' := (some (.int q23.1), hp q23.2)) (e_X10_look (d := d - 1) (by omega) s _ hq23) (by omega) wm_X10_look wi_X10_look wv_X10_look km_10_290 (kc rfl rfl) (Nat.le_of_ble_eq_true rfl) rfl rfl rfl (Nat.le_of_ble_eq_true rfl) ⟨Nat.le_of_ble_eq_true rfl, Nat.le_of_ble_eq_true rfl⟩ (by decide +kernel) ?_
  show Ev l d mi_X10_qPartTold 105 [some (.ref 65), some (.int x1), none, none, some (.int x4), none] [.int q23.1] (hp q23.2) 0 0 _
  refine Ev.blk (pc' := 107) [(.bipush 40, 0, 0, 0)] (by decide +kernel) trivial rfl (?_)
  show Ev l d mi_X10_qPartTold 107 [some (.ref 65), some (.int x1), none, none, some (.int x4), none] [.int ((Int8.ofInt 40).toInt32), .int q23.1] (hp q23.2) 0 0 _
  refine Ev.icmp_ne (off := 10) (tgt := 117) (by decide +kernel) (by decide) (fun b24 => ?_) (fun b24 => ?_)
  · have hf := (if_neg b24).symm.trans hf
    refine Ev.blk (pc' := 118) [(.iconst (-1), 0, 0, 0)] (by decide +kernel) trivial rfl (?_)
    show Ev l d mi_X10_qPartTold 118 [some (.ref 65), some (.int x1), none, none, some (.int x4), none] [.int (Int32.ofInt (-1))] (hp q23.2) 0 0 _
    exact (e_X10_qPartTold_j118 hd k2 hk2) x1 x4 (Int32.ofInt (-1)) q23.2 _ hf
  · have hf := (if_pos b24).symm.trans hf
    refine Ev.blk (pc' := 114) [(.aload_n 0, 0, 0, 0), (.getfield 284, 0, 10, 2)] (by decide +kernel) ⟨kf_10_284, trivial⟩ rfl (And.intro (kc rfl rfl) (?_))
    show Ev l d mi_X10_qPartTold 114 [some (.ref 65), some (.int x1), none, none, some (.int x4), none] [.int (q23.2.1 65 2)] (hp q23.2) 0 0 _
    refine Ev.goto (off := 4) (tgt := 118) (by decide +kernel) (by decide) ?_
    exact (e_X10_qPartTold_j118 hd k2 hk2) x1 x4 (q23.2.1 65 2) q23.2 _ hf
def f_X10_qPartTold_j78 (k2 : Int32 → ST → Option (ST)) (x1 : Int32) (s : ST) : Option (ST) := (f_X10_takes 133 s).bind (fun q16 => (if q16.1 = 0 then (f_X10_asks 134 q16.2).bind (fun q18 => (f_X10_qPartTold_j101 k2) x1 q16.1 q18) else (f_X10_qPartTold_j101 k2) x1 q16.1 q16.2))
set_option maxHeartbeats 2000000 in
set_option maxRecDepth 20000 in
theorem e_X10_qPartTold_j78 {l : Launch} {d : Nat} (hd : 6 ≤ d) (k2 : Int32 → ST → Option (ST)) (hk2 : ∀ (x1 : Int32) (s : ST) (r : ST), k2 x1 s = some r → Ev l d mi_X10_qPartTold 2 [some (.ref 65), some (.int x1), none, none, none, none] [] (hp s) 0 0 (none, hp r)) (x1 : Int32) (s : ST) (r : ST) (hf : f_X10_qPartTold_j78 k2 x1 s = some r) : Ev l d mi_X10_qPartTold 78 [some (.ref 65), some (.int x1), none, none, none, none] [] (hp s) 0 0 (none, hp r) := by
  unfold f_X10_qPartTold_j78 at hf
  refine Ev.blk (pc' := 83) [(.aload_n 0, 0, 0, 0), (.aload_n 0, 0, 0, 0), (.getfield 224, 0, 10, 97)] (by decide +kernel) ⟨kf_10_224, trivial⟩ rfl (And.intro (kc rfl rfl) (Exists.intro 133 (And.intro rfl (?_))))
  show Ev l d mi_X10_qPartTold 83 [some (.ref 65), some (.int x1), none, none, none, none] [.ref 133, .ref 65] (hp s) 0 0 _
  obtain ⟨q16, hq16, hf⟩ := bd_some hf
  refine Ev.callV (o := 65) (M' := mi_X10_takes) (d' := d - 1) (As := [.ref 133]) (rest := []) (r' := (some (.int q16.1), hp q16.2)) (e_X10_takes (d := d - 1) (by omega) 133 s _ hq16) (by omega) wm_X10_takes wi_X10_takes wv_X10_takes km_10_305 (kc rfl rfl) (Nat.le_of_ble_eq_true rfl) rfl rfl rfl (Nat.le_of_ble_eq_true rfl) ⟨Nat.le_of_ble_eq_true rfl, Nat.le_of_ble_eq_true rfl⟩ (by decide +kernel) ?_
  show Ev l d mi_X10_qPartTold 86 [some (.ref 65), some (.int x1), none, none, none, none] [.int q16.1] (hp q16.2) 0 0 _
  refine Ev.blk (pc' := 90) [(.istore 4, 0, 0, 0), (.iload 4, 0, 0, 0)] (by decide +kernel) trivial rfl (And.intro (Nat.le_of_ble_eq_true rfl) (?_))
  show Ev l d mi_X10_qPartTold 90 [some (.ref 65), some (.int x1), none, none, some (.int q16.1), none] [.int q16.1] (hp q16.2) 0 0 _
  refine Ev.if_ne (off := 11) (tgt := 101) (by decide +kernel) (by decide) (fun b17 => ?_) (fun b17 => ?_)
  · have hf := (if_neg b17).symm.trans hf
    exact (e_X10_qPartTold_j101 hd k2 hk2) x1 q16.1 q16.2 _ hf
  · have hf := (if_pos b17).symm.trans hf
    refine Ev.blk (pc' := 98) [(.aload_n 0, 0, 0, 0), (.aload_n 0, 0, 0, 0), (.getfield 227, 0, 10, 98)] (by decide +kernel) ⟨kf_10_227, trivial⟩ rfl (And.intro (kc rfl rfl) (Exists.intro 134 (And.intro rfl (?_))))
    show Ev l d mi_X10_qPartTold 98 [some (.ref 65), some (.int x1), none, none, some (.int q16.1), none] [.ref 134, .ref 65] (hp q16.2) 0 0 _
    obtain ⟨q18, hq18, hf⟩ := bd_some hf
    refine Ev.callV (o := 65) (M' := mi_X10_asks) (d' := d - 1) (As := [.ref 134]) (rest := []) (r' := (none, hp q18)) (e_X10_asks (d := d - 1) (by omega) 134 q16.2 _ hq18) (by omega) wm_X10_asks wi_X10_asks wv_X10_asks km_10_348 (kc rfl rfl) (Nat.le_of_ble_eq_true rfl) rfl rfl rfl (Nat.le_of_ble_eq_true rfl) ⟨Nat.le_of_ble_eq_true rfl, Nat.le_of_ble_eq_true rfl⟩ (by decide +kernel) ?_
    show Ev l d mi_X10_qPartTold 101 [some (.ref 65), some (.int x1), none, none, some (.int q16.1), none] [] (hp q18) 0 0 _
    exact (e_X10_qPartTold_j101 hd k2 hk2) x1 q16.1 q18 _ hf
def f_X10_qPartTold_L2 (k186 : ST → Option (ST)) : Nat → Int32 → ST → Option (ST)
  | 0, _, _ => none
  | n + 1, x1, s => (if x1 = 0 then k186 s else (if (s.1 65 5) = 0 then (f_X10_look s).bind (fun q3 => (f_X10_qWordOf ((Int8.ofInt 11).toInt32) ((Int8.ofInt 12).toInt32) q3.2).bind (fun q4 => (if q3.1 = ((Int8.ofInt 40).toInt32) then (f_X10_qOpens ((Int8.ofInt 20).toInt32) (q4.2.1 65 2) q4.2).bind (fun q14 => lt (uI q14 65 2 ((q14.1 65 2) + (Int32.ofInt 1))) (fun s15 => (f_X10_qPartTold_L2 k186 n) x1 s15)) else (f_X10_isHere 133 q4.2).bind (fun q6 => (if q6.1 = 0 then (f_X10_isHere 134 q6.2).bind (fun q8 => (if q8.1 = 0 then (if q4.1 = (Int32.ofInt (-1)) then (f_X10_qPartTold_L2 k186 n) (Int32.ofInt 0) q8.2 else lt ((((Int8.ofInt 60).toInt32) + q4.1) - ((Int8.ofInt 11).toInt32)) (fun v11 => (f_X10_qOpens v11 (q8.2.1 65 2) q8.2).bind (fun q12 => (f_X10_qAsksWord q4.1 q12).bind (fun q13 => (f_X10_qPartTold_L2 k186 n) x1 q13)))) else (f_X10_qPartTold_j78 (f_X10_qPartTold_L2 k186 n)) x1 q8.2)) else (f_X10_qPartTold_j78 (f_X10_qPartTold_L2 k186 n)) x1 q6.2))))) else k186 s))
set_option maxHeartbeats 2000000 in
set_option maxRecDepth 20000 in
theorem e_X10_qPartTold_L2 {l : Launch} {d : Nat} (hd : 6 ≤ d) (k186 : ST → Option (ST)) (hk186 : ∀ (s : ST) (r : ST), k186 s = some r → Ev l d mi_X10_qPartTold 186 [some (.ref 65), none, none, none, none, none] [] (hp s) 0 0 (none, hp r)) : ∀ (n : Nat) (x1 : Int32) (s : ST) (r : ST), f_X10_qPartTold_L2 k186 n x1 s = some r → Ev l d mi_X10_qPartTold 2 [some (.ref 65), some (.int x1), none, none, none, none] [] (hp s) 0 0 (none, hp r) := by
  intro n
  induction n with
  | zero =>
    intro x1 s r hf
    cases hf
  | succ n ih =>
    intro x1 s r hf
    unfold f_X10_qPartTold_L2 at hf
    refine Ev.blk (pc' := 3) [(.iload_n 1, 0, 0, 0)] (by decide +kernel) trivial rfl (?_)
    show Ev l d mi_X10_qPartTold 3 [some (.ref 65), some (.int x1), none, none, none, none] [.int x1] (hp s) 0 0 _
    refine Ev.if_eq (off := 183) (tgt := 186) (by decide +kernel) (by decide) (fun b1 => ?_) (fun b1 => ?_)
    · have hf := (if_pos b1).symm.trans hf
      exact Ev.wk (hk186 s _ hf) (And.intro (Or.inr rfl) (And.intro (Or.inl rfl) (And.intro (Or.inr rfl) (And.intro (Or.inr rfl) (And.intro (Or.inr rfl) (And.intro (Or.inr rfl) (trivial)))))))
    · have hf := (if_neg b1).symm.trans hf
      refine Ev.blk (pc' := 10) [(.aload_n 0, 0, 0, 0), (.getfield 278, 0, 10, 5)] (by decide +kernel) ⟨kf_10_278, trivial⟩ rfl (And.intro (kc rfl rfl) (?_))
      show Ev l d mi_X10_qPartTold 10 [some (.ref 65), some (.int x1), none, none, none, none] [.int (s.1 65 5)] (hp s) 0 0 _
      refine Ev.if_ne (off := 176) (tgt := 186) (by decide +kernel) (by decide) (fun b2 => ?_) (fun b2 => ?_)
      · have hf := (if_neg b2).symm.trans hf
        exact Ev.wk (hk186 s _ hf) (And.intro (Or.inr rfl) (And.intro (Or.inl rfl) (And.intro (Or.inr rfl) (And.intro (Or.inr rfl) (And.intro (Or.inr rfl) (And.intro (Or.inr rfl) (trivial)))))))
      · have hf := (if_pos b2).symm.trans hf
        refine Ev.blk (pc' := 14) [(.aload_n 0, 0, 0, 0)] (by decide +kernel) trivial rfl (?_)
        show Ev l d mi_X10_qPartTold 14 [some (.ref 65), some (.int x1), none, none, none, none] [.ref 65] (hp s) 0 0 _
        obtain ⟨q3, hq3, hf⟩ := bd_some hf
        refine Ev.callV (o := 65) (M' := mi_X10_look) (d' := d - 1) (As := []) (rest := []) (r' := (some (.int q3.1), hp q3.2)) (e_X10_look (d := d - 1) (by omega) s _ hq3) (by omega) wm_X10_look wi_X10_look wv_X10_look km_10_290 (kc rfl rfl) (Nat.le_of_ble_eq_true rfl) rfl rfl rfl (Nat.le_of_ble_eq_true rfl) ⟨Nat.le_of_ble_eq_true rfl, Nat.le_of_ble_eq_true rfl⟩ (by decide +kernel) ?_
        show Ev l d mi_X10_qPartTold 17 [some (.ref 65), some (.int x1), none, none, none, none] [.int q3.1] (hp q3.2) 0 0 _
        refine Ev.blk (pc' := 23) [(.istore_n 2, 0, 0, 0), (.aload_n 0, 0, 0, 0), (.bipush 11, 0, 0, 0), (.bipush 12, 0, 0, 0)] (by decide +kernel) trivial rfl (And.intro (Nat.le_of_ble_eq_true rfl) (?_))
        show Ev l d mi_X10_qPartTold 23 [some (.ref 65), some (.int x1), some (.int q3.1), none, none, none] [.int ((Int8.ofInt 12).toInt32), .int ((Int8.ofInt 11).toInt32), .ref 65] (hp q3.2) 0 0 _
        obtain ⟨q4, hq4, hf⟩ := bd_some hf
        refine Ev.callV (o := 65) (M' := mi_X10_qWordOf) (d' := d - 1) (As := [.int ((Int8.ofInt 11).toInt32), .int ((Int8.ofInt 12).toInt32)]) (rest := []) (r' := (some (.int q4.1), hp q4.2)) (e_X10_qWordOf (d := d - 1) (by omega) ((Int8.ofInt 11).toInt32) ((Int8.ofInt 12).toInt32) q3.2 _ hq4) (by omega) wm_X10_qWordOf wi_X10_qWordOf wv_X10_qWordOf km_10_694 (kc rfl rfl) (Nat.le_of_ble_eq_true rfl) rfl rfl rfl (Nat.le_of_ble_eq_true rfl) ⟨Nat.le_of_ble_eq_true rfl, Nat.le_of_ble_eq_true rfl⟩ (by decide +kernel) ?_
        show Ev l d mi_X10_qPartTold 26 [some (.ref 65), some (.int x1), some (.int q3.1), none, none, none] [.int q4.1] (hp q4.2) 0 0 _
        refine Ev.blk (pc' := 30) [(.istore_n 3, 0, 0, 0), (.iload_n 2, 0, 0, 0), (.bipush 40, 0, 0, 0)] (by decide +kernel) trivial rfl (And.intro (Nat.le_of_ble_eq_true rfl) (?_))
        show Ev l d mi_X10_qPartTold 30 [some (.ref 65), some (.int x1), some (.int q3.1), some (.int q4.1), none, none] [.int ((Int8.ofInt 40).toInt32), .int q3.1] (hp q4.2) 0 0 _
        refine Ev.icmp_ne (off := 26) (tgt := 56) (by decide +kernel) (by decide) (fun b5 => ?_) (fun b5 => ?_)
        · have hf := (if_neg b5).symm.trans hf
          refine Ev.blk (pc' := 61) [(.aload_n 0, 0, 0, 0), (.aload_n 0, 0, 0, 0), (.getfield 224, 0, 10, 97)] (by decide +kernel) ⟨kf_10_224, trivial⟩ rfl (And.intro (kc rfl rfl) (Exists.intro 133 (And.intro rfl (?_))))
          show Ev l d mi_X10_qPartTold 61 [some (.ref 65), some (.int x1), some (.int q3.1), some (.int q4.1), none, none] [.ref 133, .ref 65] (hp q4.2) 0 0 _
          obtain ⟨q6, hq6, hf⟩ := bd_some hf
          refine Ev.callV (o := 65) (M' := mi_X10_isHere) (d' := d - 1) (As := [.ref 133]) (rest := []) (r' := (some (.int q6.1), hp q6.2)) (e_X10_isHere (d := d - 1) (by omega) 133 q4.2 _ hq6) (by omega) wm_X10_isHere wi_X10_isHere wv_X10_isHere km_10_301 (kc rfl rfl) (Nat.le_of_ble_eq_true rfl) rfl rfl rfl (Nat.le_of_ble_eq_true rfl) ⟨Nat.le_of_ble_eq_true rfl, Nat.le_of_ble_eq_true rfl⟩ (by decide +kernel) ?_
          show Ev l d mi_X10_qPartTold 64 [some (.ref 65), some (.int x1), some (.int q3.1), some (.int q4.1), none, none] [.int q6.1] (hp q6.2) 0 0 _
          refine Ev.if_ne (off := 14) (tgt := 78) (by decide +kernel) (by decide) (fun b7 => ?_) (fun b7 => ?_)
          · have hf := (if_neg b7).symm.trans hf
            exact Ev.wk ((e_X10_qPartTold_j78 hd (f_X10_qPartTold_L2 k186 n) ih) x1 q6.2 _ hf) (And.intro (Or.inr rfl) (And.intro (Or.inr rfl) (And.intro (Or.inl rfl) (And.intro (Or.inl rfl) (And.intro (Or.inr rfl) (And.intro (Or.inr rfl) (trivial)))))))
          · have hf := (if_pos b7).symm.trans hf
            refine Ev.blk (pc' := 72) [(.aload_n 0, 0, 0, 0), (.aload_n 0, 0, 0, 0), (.getfield 227, 0, 10, 98)] (by decide +kernel) ⟨kf_10_227, trivial⟩ rfl (And.intro (kc rfl rfl) (Exists.intro 134 (And.intro rfl (?_))))
            show Ev l d mi_X10_qPartTold 72 [some (.ref 65), some (.int x1), some (.int q3.1), some (.int q4.1), none, none] [.ref 134, .ref 65] (hp q6.2) 0 0 _
            obtain ⟨q8, hq8, hf⟩ := bd_some hf
            refine Ev.callV (o := 65) (M' := mi_X10_isHere) (d' := d - 1) (As := [.ref 134]) (rest := []) (r' := (some (.int q8.1), hp q8.2)) (e_X10_isHere (d := d - 1) (by omega) 134 q6.2 _ hq8) (by omega) wm_X10_isHere wi_X10_isHere wv_X10_isHere km_10_301 (kc rfl rfl) (Nat.le_of_ble_eq_true rfl) rfl rfl rfl (Nat.le_of_ble_eq_true rfl) ⟨Nat.le_of_ble_eq_true rfl, Nat.le_of_ble_eq_true rfl⟩ (by decide +kernel) ?_
            show Ev l d mi_X10_qPartTold 75 [some (.ref 65), some (.int x1), some (.int q3.1), some (.int q4.1), none, none] [.int q8.1] (hp q8.2) 0 0 _
            refine Ev.if_eq (off := 78) (tgt := 153) (by decide +kernel) (by decide) (fun b9 => ?_) (fun b9 => ?_)
            · have hf := (if_pos b9).symm.trans hf
              refine Ev.blk (pc' := 155) [(.iload_n 3, 0, 0, 0), (.iconst (-1), 0, 0, 0)] (by decide +kernel) trivial rfl (?_)
              show Ev l d mi_X10_qPartTold 155 [some (.ref 65), some (.int x1), some (.int q3.1), some (.int q4.1), none, none] [.int (Int32.ofInt (-1)), .int q4.1] (hp q8.2) 0 0 _
              refine Ev.icmp_eq (off := 26) (tgt := 181) (by decide +kernel) (by decide) (fun b10 => ?_) (fun b10 => ?_)
              · have hf := (if_pos b10).symm.trans hf
                refine Ev.blk (pc' := 183) [(.iconst 0, 0, 0, 0), (.istore_n 1, 0, 0, 0)] (by decide +kernel) trivial rfl (And.intro (Nat.le_of_ble_eq_true rfl) (?_))
                show Ev l d mi_X10_qPartTold 183 [some (.ref 65), some (.int (Int32.ofInt 0)), some (.int q3.1), some (.int q4.1), none, none] [] (hp q8.2) 0 0 _
                refine Ev.goto (off := -181) (tgt := 2) (by decide +kernel) (by decide) ?_
                exact Ev.wk (ih (Int32.ofInt 0) q8.2 _ hf) (And.intro (Or.inr rfl) (And.intro (Or.inr rfl) (And.intro (Or.inl rfl) (And.intro (Or.inl rfl) (And.intro (Or.inr rfl) (And.intro (Or.inr rfl) (trivial)))))))
              · have hf := (if_neg b10).symm.trans hf
                obtain ⟨v11, hv11, hf⟩ := lt_some hf
                refine Ev.blk (pc' := 170) [(.aload_n 0, 0, 0, 0), (.bipush 60, 0, 0, 0), (.iload_n 3, 0, 0, 0), (.iadd, 0, 0, 0), (.bipush 11, 0, 0, 0), (.isub, 0, 0, 0), (.aload_n 0, 0, 0, 0), (.getfield 284, 0, 10, 2)] (by decide +kernel) ⟨kf_10_284, trivial⟩ rfl (And.intro (kc rfl rfl) (?_))
                show Ev l d mi_X10_qPartTold 170 [some (.ref 65), some (.int x1), some (.int q3.1), some (.int q4.1), none, none] [.int (q8.2.1 65 2), .int ((((Int8.ofInt 60).toInt32) + q4.1) - ((Int8.ofInt 11).toInt32)), .ref 65] (hp q8.2) 0 0 _
                rw [← hv11]
                obtain ⟨q12, hq12, hf⟩ := bd_some hf
                refine Ev.callV (o := 65) (M' := mi_X10_qOpens) (d' := d - 1) (As := [.int v11, .int (q8.2.1 65 2)]) (rest := []) (r' := (none, hp q12)) (e_X10_qOpens (d := d - 1) (by omega) v11 (q8.2.1 65 2) q8.2 _ hq12) (by omega) wm_X10_qOpens wi_X10_qOpens wv_X10_qOpens km_10_697 (kc rfl rfl) (Nat.le_of_ble_eq_true rfl) rfl rfl rfl (Nat.le_of_ble_eq_true rfl) ⟨Nat.le_of_ble_eq_true rfl, Nat.le_of_ble_eq_true rfl⟩ (by decide +kernel) ?_
                show Ev l d mi_X10_qPartTold 173 [some (.ref 65), some (.int x1), some (.int q3.1), some (.int q4.1), none, none] [] (hp q12) 0 0 _
                refine Ev.blk (pc' := 175) [(.aload_n 0, 0, 0, 0), (.iload_n 3, 0, 0, 0)] (by decide +kernel) trivial rfl (?_)
                show Ev l d mi_X10_qPartTold 175 [some (.ref 65), some (.int x1), some (.int q3.1), some (.int q4.1), none, none] [.int q4.1, .ref 65] (hp q12) 0 0 _
                obtain ⟨q13, hq13, hf⟩ := bd_some hf
                refine Ev.callV (o := 65) (M' := mi_X10_qAsksWord) (d' := d - 1) (As := [.int q4.1]) (rest := []) (r' := (none, hp q13)) (e_X10_qAsksWord (d := d - 1) (by omega) q4.1 q12 _ hq13) (by omega) wm_X10_qAsksWord wi_X10_qAsksWord wv_X10_qAsksWord km_10_700 (kc rfl rfl) (Nat.le_of_ble_eq_true rfl) rfl rfl rfl (Nat.le_of_ble_eq_true rfl) ⟨Nat.le_of_ble_eq_true rfl, Nat.le_of_ble_eq_true rfl⟩ (by decide +kernel) ?_
                show Ev l d mi_X10_qPartTold 178 [some (.ref 65), some (.int x1), some (.int q3.1), some (.int q4.1), none, none] [] (hp q13) 0 0 _
                refine Ev.goto (off := 5) (tgt := 183) (by decide +kernel) (by decide) ?_
                refine Ev.goto (off := -181) (tgt := 2) (by decide +kernel) (by decide) ?_
                exact Ev.wk (ih x1 q13 _ hf) (And.intro (Or.inr rfl) (And.intro (Or.inr rfl) (And.intro (Or.inl rfl) (And.intro (Or.inl rfl) (And.intro (Or.inr rfl) (And.intro (Or.inr rfl) (trivial)))))))
            · have hf := (if_neg b9).symm.trans hf
              exact Ev.wk ((e_X10_qPartTold_j78 hd (f_X10_qPartTold_L2 k186 n) ih) x1 q8.2 _ hf) (And.intro (Or.inr rfl) (And.intro (Or.inr rfl) (And.intro (Or.inl rfl) (And.intro (Or.inl rfl) (And.intro (Or.inr rfl) (And.intro (Or.inr rfl) (trivial)))))))
        · have hf := (if_pos b5).symm.trans hf
          refine Ev.blk (pc' := 40) [(.aload_n 0, 0, 0, 0), (.bipush 20, 0, 0, 0), (.aload_n 0, 0, 0, 0), (.getfield 284, 0, 10, 2)] (by decide +kernel) ⟨kf_10_284, trivial⟩ rfl (And.intro (kc rfl rfl) (?_))
          show Ev l d mi_X10_qPartTold 40 [some (.ref 65), some (.int x1), some (.int q3.1), some (.int q4.1), none, none] [.int (q4.2.1 65 2), .int ((Int8.ofInt 20).toInt32), .ref 65] (hp q4.2) 0 0 _
          obtain ⟨q14, hq14, hf⟩ := bd_some hf
          refine Ev.callV (o := 65) (M' := mi_X10_qOpens) (d' := d - 1) (As := [.int ((Int8.ofInt 20).toInt32), .int (q4.2.1 65 2)]) (rest := []) (r' := (none, hp q14)) (e_X10_qOpens (d := d - 1) (by omega) ((Int8.ofInt 20).toInt32) (q4.2.1 65 2) q4.2 _ hq14) (by omega) wm_X10_qOpens wi_X10_qOpens wv_X10_qOpens km_10_697 (kc rfl rfl) (Nat.le_of_ble_eq_true rfl) rfl rfl rfl (Nat.le_of_ble_eq_true rfl) ⟨Nat.le_of_ble_eq_true rfl, Nat.le_of_ble_eq_true rfl⟩ (by decide +kernel) ?_
          show Ev l d mi_X10_qPartTold 43 [some (.ref 65), some (.int x1), some (.int q3.1), some (.int q4.1), none, none] [] (hp q14) 0 0 _
          obtain ⟨s15, hs15, hf⟩ := lt_some hf
          refine Ev.blk (pc' := 53) [(.aload_n 0, 0, 0, 0), (.dup, 0, 0, 0), (.getfield 284, 0, 10, 2), (.iconst 1, 0, 0, 0), (.iadd, 0, 0, 0), (.putfield 284, 0, 10, 2)] (by decide +kernel) ⟨kf_10_284, ⟨⟨kf_10_284, Or.inl rfl⟩, trivial⟩⟩ rfl (And.intro rfl (And.intro (kc rfl rfl) (And.intro (kc rfl rfl) (?_))))
          show Ev l d mi_X10_qPartTold 53 [some (.ref 65), some (.int x1), some (.int q3.1), some (.int q4.1), none, none] [] (hp (uI q14 65 2 ((q14.1 65 2) + (Int32.ofInt 1)))) 0 0 _
          rw [← hs15]
          refine Ev.goto (off := 130) (tgt := 183) (by decide +kernel) (by decide) ?_
          refine Ev.goto (off := -181) (tgt := 2) (by decide +kernel) (by decide) ?_
          exact Ev.wk (ih x1 s15 _ hf) (And.intro (Or.inr rfl) (And.intro (Or.inr rfl) (And.intro (Or.inl rfl) (And.intro (Or.inl rfl) (And.intro (Or.inr rfl) (And.intro (Or.inr rfl) (trivial)))))))
def f_X10_qPartTold_j237 (y1 : Int32) (s : ST) : Option (ST) := (f_X10_qCode y1 s).bind (fun q29 => (f_X10_qEndsPart q29).bind (fun q30 => some q30))
set_option maxHeartbeats 2000000 in
set_option maxRecDepth 20000 in
theorem e_X10_qPartTold_j237 {l : Launch} {d : Nat} (hd : 6 ≤ d) (y1 : Int32) (s : ST) (r : ST) (hf : f_X10_qPartTold_j237 y1 s = some r) : Ev l d mi_X10_qPartTold 237 [some (.ref 65), none, none, none, none, none] [.int y1, .ref 65] (hp s) 0 0 (none, hp r) := by
  unfold f_X10_qPartTold_j237 at hf
  obtain ⟨q29, hq29, hf⟩ := bd_some hf
  refine Ev.callV (o := 65) (M' := mi_X10_qCode) (d' := d - 1) (As := [.int y1]) (rest := []) (r' := (none, hp q29)) (e_X10_qCode (d := d - 1) (by omega) y1 s _ hq29) (by omega) wm_X10_qCode wi_X10_qCode wv_X10_qCode km_10_679 (kc rfl rfl) (Nat.le_of_ble_eq_true rfl) rfl rfl rfl (Nat.le_of_ble_eq_true rfl) ⟨Nat.le_of_ble_eq_true rfl, Nat.le_of_ble_eq_true rfl⟩ (by decide +kernel) ?_
  show Ev l d mi_X10_qPartTold 240 [some (.ref 65), none, none, none, none, none] [] (hp q29) 0 0 _
  refine Ev.blk (pc' := 241) [(.aload_n 0, 0, 0, 0)] (by decide +kernel) trivial rfl (?_)
  show Ev l d mi_X10_qPartTold 241 [some (.ref 65), none, none, none, none, none] [.ref 65] (hp q29) 0 0 _
  obtain ⟨q30, hq30, hf⟩ := bd_some hf
  refine Ev.callV (o := 65) (M' := mi_X10_qEndsPart) (d' := d - 1) (As := []) (rest := []) (r' := (none, hp q30)) (e_X10_qEndsPart (d := d - 1) (by omega) q29 _ hq30) (by omega) wm_X10_qEndsPart wi_X10_qEndsPart wv_X10_qEndsPart km_10_703 (kc rfl rfl) (Nat.le_of_ble_eq_true rfl) rfl rfl rfl (Nat.le_of_ble_eq_true rfl) ⟨Nat.le_of_ble_eq_true rfl, Nat.le_of_ble_eq_true rfl⟩ (by decide +kernel) ?_
  show Ev l d mi_X10_qPartTold 244 [some (.ref 65), none, none, none, none, none] [] (hp q30) 0 0 _
  cases hf
  exact Ev.vret rfl (by decide +kernel) (Nat.le_refl _) (Nat.le_refl _)
def f_X10_qPartTold_j212 (x2 : Int32) (s : ST) : Option (ST) := (if x2 = (Int32.ofInt (-1)) then (f_X10_number (Int32.ofInt 0) ((Int16.ofInt 9999).toInt32) s).bind (fun q26 => f_X10_qPartTold_j237 (((Int16.ofInt 1000).toInt32) + q26.1) q26.2) else f_X10_qPartTold_j237 (((Int8.ofInt 40).toInt32) + x2) s)
set_option maxHeartbeats 2000000 in
set_option maxRecDepth 20000 in
theorem e_X10_qPartTold_j212 {l : Launch} {d : Nat} (hd : 6 ≤ d) (x2 : Int32) (s : ST) (r : ST) (hf : f_X10_qPartTold_j212 x2 s = some r) : Ev l d mi_X10_qPartTold 212 [some (.ref 65), none, some (.int x2), none, none, none] [] (hp s) 0 0 (none, hp r) := by
  unfold f_X10_qPartTold_j212 at hf
  refine Ev.blk (pc' := 215) [(.aload_n 0, 0, 0, 0), (.iload_n 2, 0, 0, 0), (.iconst (-1), 0, 0, 0)] (by decide +kernel) trivial rfl (?_)
  show Ev l d mi_X10_qPartTold 215 [some (.ref 65), none, some (.int x2), none, none, none] [.int (Int32.ofInt (-1)), .int x2, .ref 65] (hp s) 0 0 _
  refine Ev.icmp_eq (off := 10) (tgt := 225) (by decide +kernel) (by decide) (fun b25 => ?_) (fun b25 => ?_)
  · have hf := (if_pos b25).symm.trans hf
    refine Ev.blk (pc' := 233) [(.sipush 1000, 0, 0, 0), (.aload_n 0, 0, 0, 0), (.iconst 0, 0, 0, 0), (.sipush 9999, 0, 0, 0)] (by decide +kernel) trivial rfl (?_)
    show Ev l d mi_X10_qPartTold 233 [some (.ref 65), none, some (.int x2), none, none, none] [.int ((Int16.ofInt 9999).toInt32), .int (Int32.ofInt 0), .ref 65, .int ((Int16.ofInt 1000).toInt32), .ref 65] (hp s) 0 0 _
    obtain ⟨q26, hq26, hf⟩ := bd_some hf
    refine Ev.callV (o := 65) (M' := mi_X10_number) (d' := d - 1) (As := [.int (Int32.ofInt 0), .int ((Int16.ofInt 9999).toInt32)]) (rest := [.int ((Int16.ofInt 1000).toInt32), .ref 65]) (r' := (some (.int q26.1), hp q26.2)) (e_X10_number (d := d - 1) (by omega) (Int32.ofInt 0) ((Int16.ofInt 9999).toInt32) s _ hq26) (by omega) wm_X10_number wi_X10_number wv_X10_number km_10_352 (kc rfl rfl) (Nat.le_of_ble_eq_true rfl) rfl rfl rfl (Nat.le_of_ble_eq_true rfl) ⟨Nat.le_of_ble_eq_true rfl, Nat.le_of_ble_eq_true rfl⟩ (by decide +kernel) ?_
    show Ev l d mi_X10_qPartTold 236 [some (.ref 65), none, some (.int x2), none, none, none] [.int q26.1, .int ((Int16.ofInt 1000).toInt32), .ref 65] (hp q26.2) 0 0 _
    refine Ev.blk (pc' := 237) [(.iadd, 0, 0, 0)] (by decide +kernel) trivial rfl (?_)
    show Ev l d mi_X10_qPartTold 237 [some (.ref 65), none, some (.int x2), none, none, none] [.int (((Int16.ofInt 1000).toInt32) + q26.1), .ref 65] (hp q26.2) 0 0 _
    exact Ev.wk ((e_X10_qPartTold_j237 hd) (((Int16.ofInt 1000).toInt32) + q26.1) q26.2 _ hf) (And.intro (Or.inr rfl) (And.intro (Or.inr rfl) (And.intro (Or.inl rfl) (And.intro (Or.inr rfl) (And.intro (Or.inr rfl) (And.intro (Or.inr rfl) (trivial)))))))
  · have hf := (if_neg b25).symm.trans hf
    refine Ev.blk (pc' := 222) [(.bipush 40, 0, 0, 0), (.iload_n 2, 0, 0, 0), (.iadd, 0, 0, 0)] (by decide +kernel) trivial rfl (?_)
    show Ev l d mi_X10_qPartTold 222 [some (.ref 65), none, some (.int x2), none, none, none] [.int (((Int8.ofInt 40).toInt32) + x2), .ref 65] (hp s) 0 0 _
    refine Ev.goto (off := 15) (tgt := 237) (by decide +kernel) (by decide) ?_
    exact Ev.wk ((e_X10_qPartTold_j237 hd) (((Int8.ofInt 40).toInt32) + x2) s _ hf) (And.intro (Or.inr rfl) (And.intro (Or.inr rfl) (And.intro (Or.inl rfl) (And.intro (Or.inr rfl) (And.intro (Or.inr rfl) (And.intro (Or.inr rfl) (trivial)))))))
def f_X10_qPartTold_j186 (s : ST) : Option (ST) := (if (s.1 65 5) = 0 then (f_X10_qWordOf (Int32.ofInt 0) ((Int8.ofInt 11).toInt32) s).bind (fun q20 => (if q20.1 = (Int32.ofInt (-1)) then f_X10_qPartTold_j212 q20.1 q20.2 else (f_X10_qAsksWord q20.1 q20.2).bind (fun q22 => f_X10_qPartTold_j212 q20.1 q22))) else some s)
set_option maxHeartbeats 2000000 in
set_option maxRecDepth 20000 in
theorem e_X10_qPartTold_j186 {l : Launch} {d : Nat} (hd : 6 ≤ d) (s : ST) (r : ST) (hf : f_X10_qPartTold_j186 s = some r) : Ev l d mi_X10_qPartTold 186 [some (.ref 65), none, none, none, none, none] [] (hp s) 0 0 (none, hp r) := by
  unfold f_X10_qPartTold_j186 at hf
  refine Ev.blk (pc' := 190) [(.aload_n 0, 0, 0, 0), (.getfield 278, 0, 10, 5)] (by decide +kernel) ⟨kf_10_278, trivial⟩ rfl (And.intro (kc rfl rfl) (?_))
  show Ev l d mi_X10_qPartTold 190 [some (.ref 65), none, none, none, none, none] [.int (s.1 65 5)] (hp s) 0 0 _
  refine Ev.if_eq (off := 4) (tgt := 194) (by decide +kernel) (by decide) (fun b19 => ?_) (fun b19 => ?_)
  · have hf := (if_pos b19).symm.trans hf
    refine Ev.blk (pc' := 198) [(.aload_n 0, 0, 0, 0), (.iconst 0, 0, 0, 0), (.bipush 11, 0, 0, 0)] (by decide +kernel) trivial rfl (?_)
    show Ev l d mi_X10_qPartTold 198 [some (.ref 65), none, none, none, none, none] [.int ((Int8.ofInt 11).toInt32), .int (Int32.ofInt 0), .ref 65] (hp s) 0 0 _
    obtain ⟨q20, hq20, hf⟩ := bd_some hf
    refine Ev.callV (o := 65) (M' := mi_X10_qWordOf) (d' := d - 1) (As := [.int (Int32.ofInt 0), .int ((Int8.ofInt 11).toInt32)]) (rest := []) (r' := (some (.int q20.1), hp q20.2)) (e_X10_qWordOf (d := d - 1) (by omega) (Int32.ofInt 0) ((Int8.ofInt 11).toInt32) s _ hq20) (by omega) wm_X10_qWordOf wi_X10_qWordOf wv_X10_qWordOf km_10_694 (kc rfl rfl) (Nat.le_of_ble_eq_true rfl) rfl rfl rfl (Nat.le_of_ble_eq_true rfl) ⟨Nat.le_of_ble_eq_true rfl, Nat.le_of_ble_eq_true rfl⟩ (by decide +kernel) ?_
    show Ev l d mi_X10_qPartTold 201 [some (.ref 65), none, none, none, none, none] [.int q20.1] (hp q20.2) 0 0 _
    refine Ev.blk (pc' := 204) [(.istore_n 2, 0, 0, 0), (.iload_n 2, 0, 0, 0), (.iconst (-1), 0, 0, 0)] (by decide +kernel) trivial rfl (And.intro (Nat.le_of_ble_eq_true rfl) (?_))
    show Ev l d mi_X10_qPartTold 204 [some (.ref 65), none, some (.int q20.1), none, none, none] [.int (Int32.ofInt (-1)), .int q20.1] (hp q20.2) 0 0 _
    refine Ev.icmp_eq (off := 8) (tgt := 212) (by decide +kernel) (by decide) (fun b21 => ?_) (fun b21 => ?_)
    · have hf := (if_pos b21).symm.trans hf
      exact (e_X10_qPartTold_j212 hd) q20.1 q20.2 _ hf
    · have hf := (if_neg b21).symm.trans hf
      refine Ev.blk (pc' := 209) [(.aload_n 0, 0, 0, 0), (.iload_n 2, 0, 0, 0)] (by decide +kernel) trivial rfl (?_)
      show Ev l d mi_X10_qPartTold 209 [some (.ref 65), none, some (.int q20.1), none, none, none] [.int q20.1, .ref 65] (hp q20.2) 0 0 _
      obtain ⟨q22, hq22, hf⟩ := bd_some hf
      refine Ev.callV (o := 65) (M' := mi_X10_qAsksWord) (d' := d - 1) (As := [.int q20.1]) (rest := []) (r' := (none, hp q22)) (e_X10_qAsksWord (d := d - 1) (by omega) q20.1 q20.2 _ hq22) (by omega) wm_X10_qAsksWord wi_X10_qAsksWord wv_X10_qAsksWord km_10_700 (kc rfl rfl) (Nat.le_of_ble_eq_true rfl) rfl rfl rfl (Nat.le_of_ble_eq_true rfl) ⟨Nat.le_of_ble_eq_true rfl, Nat.le_of_ble_eq_true rfl⟩ (by decide +kernel) ?_
      show Ev l d mi_X10_qPartTold 212 [some (.ref 65), none, some (.int q20.1), none, none, none] [] (hp q22) 0 0 _
      exact (e_X10_qPartTold_j212 hd) q20.1 q22 _ hf
  · have hf := (if_neg b19).symm.trans hf
    cases hf
    exact Ev.vret rfl (by decide +kernel) (Nat.le_refl _) (Nat.le_refl _)
def f_X10_qPartTold (s : ST) : Option (ST) := (f_X10_qPartTold_L2 f_X10_qPartTold_j186 fuel) (Int32.ofInt 1) s
set_option maxHeartbeats 2000000 in
set_option maxRecDepth 20000 in
theorem e_X10_qPartTold {l : Launch} {d : Nat} (hd : 6 ≤ d) (s : ST) (r : ST) (hf : f_X10_qPartTold s = some r) : Cl l d mi_X10_qPartTold [.ref 65] (hp s) (none, hp r) := by
  refine Ev.entry (by decide +kernel) rfl rfl ?_
  show Ev l d mi_X10_qPartTold 0 [some (.ref 65), none, none, none, none, none] [] (hp s) 0 0 _
  unfold f_X10_qPartTold at hf
  refine Ev.blk (pc' := 2) [(.iconst 1, 0, 0, 0), (.istore_n 1, 0, 0, 0)] (by decide +kernel) trivial rfl (And.intro (Nat.le_of_ble_eq_true rfl) (?_))
  show Ev l d mi_X10_qPartTold 2 [some (.ref 65), some (.int (Int32.ofInt 1)), none, none, none, none] [] (hp s) 0 0 _
  exact (e_X10_qPartTold_L2 hd f_X10_qPartTold_j186 (e_X10_qPartTold_j186 hd) fuel) (Int32.ofInt 1) s _ hf
def f_X10_qSums_L15 (k53 : Int32 → ST → Option (ST)) : Nat → Int32 → Int32 → ST → Option (ST)
  | 0, _, _, _ => none
  | n + 1, x1, x2, s => (if x2 = 0 then k53 x1 s else (if (s.1 65 5) = 0 then (f_X10_qPartTold s).bind (fun q4 => (if (q4.1 65 5) = 0 then (f_X10_qGoesOn q4).bind (fun q6 => (if q6.1 = 0 then (f_X10_qSums_L15 k53 n) x1 (Int32.ofInt 0) q6.2 else (f_X10_qSums_L15 k53 n) x1 (Int32.ofInt 1) q6.2)) else (f_X10_qSums_L15 k53 n) x1 (Int32.ofInt 0) q4)) else k53 x1 s))
set_option maxHeartbeats 2000000 in
set_option maxRecDepth 20000 in
theorem e_X10_qSums_L15 {l : Launch} {d : Nat} (hd : 7 ≤ d) (k53 : Int32 → ST → Option (ST)) (hk53 : ∀ (x1 : Int32) (s : ST) (r : ST), k53 x1 s = some r → Ev l d mi_X10_qSums 53 [some (.ref 65), some (.int x1), none] [] (hp s) 0 0 (none, hp r)) : ∀ (n : Nat) (x1 : Int32) (x2 : Int32) (s : ST) (r : ST), f_X10_qSums_L15 k53 n x1 x2 s = some r → Ev l d mi_X10_qSums 15 [some (.ref 65), some (.int x1), some (.int x2)] [] (hp s) 0 0 (none, hp r) := by
  intro n
  induction n with
  | zero =>
    intro x1 x2 s r hf
    cases hf
  | succ n ih =>
    intro x1 x2 s r hf
    unfold f_X10_qSums_L15 at hf
    refine Ev.blk (pc' := 16) [(.iload_n 2, 0, 0, 0)] (by decide +kernel) trivial rfl (?_)
    show Ev l d mi_X10_qSums 16 [some (.ref 65), some (.int x1), some (.int x2)] [.int x2] (hp s) 0 0 _
    refine Ev.if_eq (off := 37) (tgt := 53) (by decide +kernel) (by decide) (fun b2 => ?_) (fun b2 => ?_)
    · have hf := (if_pos b2).symm.trans hf
      exact Ev.wk (hk53 x1 s _ hf) (And.intro (Or.inr rfl) (And.intro (Or.inr rfl) (And.intro (Or.inl rfl) (trivial))))
    · have hf := (if_neg b2).symm.trans hf
      refine Ev.blk (pc' := 23) [(.aload_n 0, 0, 0, 0), (.getfield 278, 0, 10, 5)] (by decide +kernel) ⟨kf_10_278, trivial⟩ rfl (And.intro (kc rfl rfl) (?_))
      show Ev l d mi_X10_qSums 23 [some (.ref 65), some (.int x1), some (.int x2)] [.int (s.1 65 5)] (hp s) 0 0 _
      refine Ev.if_ne (off := 30) (tgt := 53) (by decide +kernel) (by decide) (fun b3 => ?_) (fun b3 => ?_)
      · have hf := (if_neg b3).symm.trans hf
        exact Ev.wk (hk53 x1 s _ hf) (And.intro (Or.inr rfl) (And.intro (Or.inr rfl) (And.intro (Or.inl rfl) (trivial))))
      · have hf := (if_pos b3).symm.trans hf
        refine Ev.blk (pc' := 27) [(.aload_n 0, 0, 0, 0)] (by decide +kernel) trivial rfl (?_)
        show Ev l d mi_X10_qSums 27 [some (.ref 65), some (.int x1), some (.int x2)] [.ref 65] (hp s) 0 0 _
        obtain ⟨q4, hq4, hf⟩ := bd_some hf
        refine Ev.callV (o := 65) (M' := mi_X10_qPartTold) (d' := d - 1) (As := []) (rest := []) (r' := (none, hp q4)) (e_X10_qPartTold (d := d - 1) (by omega) s _ hq4) (by omega) wm_X10_qPartTold wi_X10_qPartTold wv_X10_qPartTold km_10_715 (kc rfl rfl) (Nat.le_of_ble_eq_true rfl) rfl rfl rfl (Nat.le_of_ble_eq_true rfl) ⟨Nat.le_of_ble_eq_true rfl, Nat.le_of_ble_eq_true rfl⟩ (by decide +kernel) ?_
        show Ev l d mi_X10_qSums 30 [some (.ref 65), some (.int x1), some (.int x2)] [] (hp q4) 0 0 _
        refine Ev.blk (pc' := 34) [(.aload_n 0, 0, 0, 0), (.getfield 278, 0, 10, 5)] (by decide +kernel) ⟨kf_10_278, trivial⟩ rfl (And.intro (kc rfl rfl) (?_))
        show Ev l d mi_X10_qSums 34 [some (.ref 65), some (.int x1), some (.int x2)] [.int (q4.1 65 5)] (hp q4) 0 0 _
        refine Ev.if_ne (off := 14) (tgt := 48) (by decide +kernel) (by decide) (fun b5 => ?_) (fun b5 => ?_)
        · have hf := (if_neg b5).symm.trans hf
          refine Ev.blk (pc' := 50) [(.iconst 0, 0, 0, 0), (.istore_n 2, 0, 0, 0)] (by decide +kernel) trivial rfl (And.intro (Nat.le_of_ble_eq_true rfl) (?_))
          show Ev l d mi_X10_qSums 50 [some (.ref 65), some (.int x1), some (.int (Int32.ofInt 0))] [] (hp q4) 0 0 _
          refine Ev.goto (off := -35) (tgt := 15) (by decide +kernel) (by decide) ?_
          exact ih x1 (Int32.ofInt 0) q4 _ hf
        · have hf := (if_pos b5).symm.trans hf
          refine Ev.blk (pc' := 38) [(.aload_n 0, 0, 0, 0)] (by decide +kernel) trivial rfl (?_)
          show Ev l d mi_X10_qSums 38 [some (.ref 65), some (.int x1), some (.int x2)] [.ref 65] (hp q4) 0 0 _
          obtain ⟨q6, hq6, hf⟩ := bd_some hf
          refine Ev.callV (o := 65) (M' := mi_X10_qGoesOn) (d' := d - 1) (As := []) (rest := []) (r' := (some (.int q6.1), hp q6.2)) (e_X10_qGoesOn (d := d - 1) (by omega) q4 _ hq6) (by omega) wm_X10_qGoesOn wi_X10_qGoesOn wv_X10_qGoesOn km_10_718 (kc rfl rfl) (Nat.le_of_ble_eq_true rfl) rfl rfl rfl (Nat.le_of_ble_eq_true rfl) ⟨Nat.le_of_ble_eq_true rfl, Nat.le_of_ble_eq_true rfl⟩ (by decide +kernel) ?_
          show Ev l d mi_X10_qSums 41 [some (.ref 65), some (.int x1), some (.int x2)] [.int q6.1] (hp q6.2) 0 0 _
          refine Ev.if_eq (off := 7) (tgt := 48) (by decide +kernel) (by decide) (fun b7 => ?_) (fun b7 => ?_)
          · have hf := (if_pos b7).symm.trans hf
            refine Ev.blk (pc' := 50) [(.iconst 0, 0, 0, 0), (.istore_n 2, 0, 0, 0)] (by decide +kernel) trivial rfl (And.intro (Nat.le_of_ble_eq_true rfl) (?_))
            show Ev l d mi_X10_qSums 50 [some (.ref 65), some (.int x1), some (.int (Int32.ofInt 0))] [] (hp q6.2) 0 0 _
            refine Ev.goto (off := -35) (tgt := 15) (by decide +kernel) (by decide) ?_
            exact ih x1 (Int32.ofInt 0) q6.2 _ hf
          · have hf := (if_neg b7).symm.trans hf
            refine Ev.blk (pc' := 45) [(.iconst 1, 0, 0, 0)] (by decide +kernel) trivial rfl (?_)
            show Ev l d mi_X10_qSums 45 [some (.ref 65), some (.int x1), some (.int x2)] [.int (Int32.ofInt 1)] (hp q6.2) 0 0 _
            refine Ev.goto (off := 4) (tgt := 49) (by decide +kernel) (by decide) ?_
            refine Ev.blk (pc' := 50) [(.istore_n 2, 0, 0, 0)] (by decide +kernel) trivial rfl (And.intro (Nat.le_of_ble_eq_true rfl) (?_))
            show Ev l d mi_X10_qSums 50 [some (.ref 65), some (.int x1), some (.int (Int32.ofInt 1))] [] (hp q6.2) 0 0 _
            refine Ev.goto (off := -35) (tgt := 15) (by decide +kernel) (by decide) ?_
            exact ih x1 (Int32.ofInt 1) q6.2 _ hf
def f_X10_qSums_L53 (k78 : Int32 → ST → Option (ST)) : Nat → Int32 → ST → Option (ST)
  | 0, _, _ => none
  | n + 1, x1, s => (if (s.1 65 5) = 0 then (if (s.1 65 113) ≤ (s.1 65 115) then k78 x1 s else (f_X10_qDrops s).bind (fun q10 => (f_X10_qSums_L53 k78 n) x1 q10)) else k78 x1 s)
set_option maxHeartbeats 2000000 in
set_option maxRecDepth 20000 in
theorem e_X10_qSums_L53 {l : Launch} {d : Nat} (hd : 7 ≤ d) (k78 : Int32 → ST → Option (ST)) (hk78 : ∀ (x1 : Int32) (s : ST) (r : ST), k78 x1 s = some r → Ev l d mi_X10_qSums 78 [some (.ref 65), some (.int x1), none] [] (hp s) 0 0 (none, hp r)) : ∀ (n : Nat) (x1 : Int32) (s : ST) (r : ST), f_X10_qSums_L53 k78 n x1 s = some r → Ev l d mi_X10_qSums 53 [some (.ref 65), some (.int x1), none] [] (hp s) 0 0 (none, hp r) := by
  intro n
  induction n with
  | zero =>
    intro x1 s r hf
    cases hf
  | succ n ih =>
    intro x1 s r hf
    unfold f_X10_qSums_L53 at hf
    refine Ev.blk (pc' := 57) [(.aload_n 0, 0, 0, 0), (.getfield 278, 0, 10, 5)] (by decide +kernel) ⟨kf_10_278, trivial⟩ rfl (And.intro (kc rfl rfl) (?_))
    show Ev l d mi_X10_qSums 57 [some (.ref 65), some (.int x1), none] [.int (s.1 65 5)] (hp s) 0 0 _
    refine Ev.if_ne (off := 21) (tgt := 78) (by decide +kernel) (by decide) (fun b8 => ?_) (fun b8 => ?_)
    · have hf := (if_neg b8).symm.trans hf
      exact hk78 x1 s _ hf
    · have hf := (if_pos b8).symm.trans hf
      refine Ev.blk (pc' := 68) [(.aload_n 0, 0, 0, 0), (.getfield 382, 0, 10, 113), (.aload_n 0, 0, 0, 0), (.getfield 388, 0, 10, 115)] (by decide +kernel) ⟨kf_10_382, ⟨kf_10_388, trivial⟩⟩ rfl (And.intro (kc rfl rfl) (And.intro (kc rfl rfl) (?_)))
      show Ev l d mi_X10_qSums 68 [some (.ref 65), some (.int x1), none] [.int (s.1 65 115), .int (s.1 65 113)] (hp s) 0 0 _
      refine Ev.icmp_le (off := 10) (tgt := 78) (by decide +kernel) (by decide) (fun b9 => ?_) (fun b9 => ?_)
      · have hf := (if_pos b9).symm.trans hf
        exact hk78 x1 s _ hf
      · have hf := (if_neg b9).symm.trans hf
        refine Ev.blk (pc' := 72) [(.aload_n 0, 0, 0, 0)] (by decide +kernel) trivial rfl (?_)
        show Ev l d mi_X10_qSums 72 [some (.ref 65), some (.int x1), none] [.ref 65] (hp s) 0 0 _
        obtain ⟨q10, hq10, hf⟩ := bd_some hf
        refine Ev.callV (o := 65) (M' := mi_X10_qDrops) (d' := d - 1) (As := []) (rest := []) (r' := (none, hp q10)) (e_X10_qDrops (d := d - 1) (by omega) s _ hq10) (by omega) wm_X10_qDrops wi_X10_qDrops wv_X10_qDrops km_10_685 (kc rfl rfl) (Nat.le_of_ble_eq_true rfl) rfl rfl rfl (Nat.le_of_ble_eq_true rfl) ⟨Nat.le_of_ble_eq_true rfl, Nat.le_of_ble_eq_true rfl⟩ (by decide +kernel) ?_
        show Ev l d mi_X10_qSums 75 [some (.ref 65), some (.int x1), none] [] (hp q10) 0 0 _
        refine Ev.goto (off := -22) (tgt := 53) (by decide +kernel) (by decide) ?_
        exact ih x1 q10 _ hf
def f_X10_qSums_j78 (x1 : Int32) (s : ST) : Option (ST) := lt (uI s 65 115 x1) (fun s11 => some s11)
set_option maxHeartbeats 2000000 in
set_option maxRecDepth 20000 in
theorem e_X10_qSums_j78 {l : Launch} {d : Nat} (hd : 7 ≤ d) (x1 : Int32) (s : ST) (r : ST) (hf : f_X10_qSums_j78 x1 s = some r) : Ev l d mi_X10_qSums 78 [some (.ref 65), some (.int x1), none] [] (hp s) 0 0 (none, hp r) := by
  unfold f_X10_qSums_j78 at hf
  obtain ⟨s11, hs11, hf⟩ := lt_some hf
  refine Ev.blk (pc' := 83) [(.aload_n 0, 0, 0, 0), (.iload_n 1, 0, 0, 0), (.putfield 388, 0, 10, 115)] (by decide +kernel) ⟨⟨kf_10_388, Or.inl rfl⟩, trivial⟩ rfl (And.intro (kc rfl rfl) (?_))
  show Ev l d mi_X10_qSums 83 [some (.ref 65), some (.int x1), none] [] (hp (uI s 65 115 x1)) 0 0 _
  rw [← hs11]
  cases hf
  exact Ev.vret rfl (by decide +kernel) (Nat.le_refl _) (Nat.le_refl _)
def f_X10_qSums (s : ST) : Option (ST) := lt (uI s 65 115 (s.1 65 113)) (fun s1 => (f_X10_qSums_L15 (f_X10_qSums_L53 f_X10_qSums_j78 fuel) fuel) (s.1 65 115) (Int32.ofInt 1) s1)
set_option maxHeartbeats 2000000 in
set_option maxRecDepth 20000 in
theorem e_X10_qSums {l : Launch} {d : Nat} (hd : 7 ≤ d) (s : ST) (r : ST) (hf : f_X10_qSums s = some r) : Cl l d mi_X10_qSums [.ref 65] (hp s) (none, hp r) := by
  refine Ev.entry (by decide +kernel) rfl rfl ?_
  show Ev l d mi_X10_qSums 0 [some (.ref 65), none, none] [] (hp s) 0 0 _
  unfold f_X10_qSums at hf
  obtain ⟨s1, hs1, hf⟩ := lt_some hf
  refine Ev.blk (pc' := 15) [(.aload_n 0, 0, 0, 0), (.getfield 388, 0, 10, 115), (.istore_n 1, 0, 0, 0), (.aload_n 0, 0, 0, 0), (.aload_n 0, 0, 0, 0), (.getfield 382, 0, 10, 113), (.putfield 388, 0, 10, 115), (.iconst 1, 0, 0, 0), (.istore_n 2, 0, 0, 0)] (by decide +kernel) ⟨kf_10_388, ⟨kf_10_382, ⟨⟨kf_10_388, Or.inl rfl⟩, trivial⟩⟩⟩ rfl (And.intro (kc rfl rfl) (And.intro (Nat.le_of_ble_eq_true rfl) (And.intro (kc rfl rfl) (And.intro (kc rfl rfl) (And.intro (Nat.le_of_ble_eq_true rfl) (?_))))))
  show Ev l d mi_X10_qSums 15 [some (.ref 65), some (.int (s.1 65 115)), some (.int (Int32.ofInt 1))] [] (hp (uI s 65 115 (s.1 65 113))) 0 0 _
  rw [← hs1]
  exact (e_X10_qSums_L15 hd (f_X10_qSums_L53 f_X10_qSums_j78 fuel) (e_X10_qSums_L53 hd f_X10_qSums_j78 (e_X10_qSums_j78 hd) fuel) fuel) (s.1 65 115) (Int32.ofInt 1) s1 _ hf
def f_X10_harmTold_L80 (k119 : ST → Option (ST)) : Nat → Int32 → ST → Option (ST)
  | 0, _, _ => none
  | n + 1, x2, s => (if (s.1 65 111) ≤ x2 then k119 s else gd (ib x2 1700) (gd (ib (s.1 65 56) 3200) (lt (uI (uI s 111 (s.1 65 56).toNatClampNeg (s.1 146 x2.toNatClampNeg)) 65 56 (((uI s 111 (s.1 65 56).toNatClampNeg (s.1 146 x2.toNatClampNeg)).1 65 56) + (Int32.ofInt 1))) (fun s14 => (f_X10_harmTold_L80 k119 n) (x2 + Int32.ofInt 1) s14))))
set_option maxHeartbeats 2000000 in
set_option maxRecDepth 20000 in
theorem e_X10_harmTold_L80 {l : Launch} {d : Nat} (hd : 8 ≤ d) (k119 : ST → Option (ST)) (hk119 : ∀ (s : ST) (r : ST), k119 s = some r → Ev l d mi_X10_harmTold 119 [some (.ref 65), none, none] [] (hp s) 0 0 (none, hp r)) : ∀ (n : Nat) (x2 : Int32) (s : ST) (r : ST), f_X10_harmTold_L80 k119 n x2 s = some r → Ev l d mi_X10_harmTold 80 [some (.ref 65), none, some (.int x2)] [] (hp s) 0 0 (none, hp r) := by
  intro n
  induction n with
  | zero =>
    intro x2 s r hf
    cases hf
  | succ n ih =>
    intro x2 s r hf
    unfold f_X10_harmTold_L80 at hf
    refine Ev.blk (pc' := 85) [(.iload_n 2, 0, 0, 0), (.aload_n 0, 0, 0, 0), (.getfield 379, 0, 10, 111)] (by decide +kernel) ⟨kf_10_379, trivial⟩ rfl (And.intro (kc rfl rfl) (?_))
    show Ev l d mi_X10_harmTold 85 [some (.ref 65), none, some (.int x2)] [.int (s.1 65 111), .int x2] (hp s) 0 0 _
    refine Ev.icmp_ge (off := 34) (tgt := 119) (by decide +kernel) (by decide) (fun b11 => ?_) (fun b11 => ?_)
    · have hf := (if_pos b11).symm.trans hf
      exact Ev.wk (hk119 s _ hf) (And.intro (Or.inr rfl) (And.intro (Or.inr rfl) (And.intro (Or.inl rfl) (trivial))))
    · have hf := (if_neg b11).symm.trans hf
      obtain ⟨c12, hf⟩ := gd_some hf
      obtain ⟨c13, hf⟩ := gd_some hf
      obtain ⟨s14, hs14, hf⟩ := lt_some hf
      refine Ev.blk (pc' := 116) [(.aload_n 0, 0, 0, 0), (.getfield 151, 0, 10, 55), (.aload_n 0, 0, 0, 0), (.getfield 394, 0, 10, 56), (.aload_n 0, 0, 0, 0), (.getfield 263, 0, 10, 110), (.iload_n 2, 0, 0, 0), (.iaload, 0, 0, 0), (.iastore, 0, 0, 0), (.aload_n 0, 0, 0, 0), (.dup, 0, 0, 0), (.getfield 394, 0, 10, 56), (.iconst 1, 0, 0, 0), (.iadd, 0, 0, 0), (.putfield 394, 0, 10, 56), (.iinc 2 1, 0, 0, 0)] (by decide +kernel) ⟨kf_10_151, ⟨kf_10_394, ⟨kf_10_263, ⟨kf_10_394, ⟨⟨kf_10_394, Or.inl rfl⟩, trivial⟩⟩⟩⟩⟩ rfl (And.intro (kc rfl rfl) (Exists.intro 111 (And.intro rfl (And.intro (kc rfl rfl) (And.intro (kc rfl rfl) (Exists.intro 146 (And.intro rfl (And.intro (kc rfl rfl) (And.intro (ib_ok c12) (And.intro (kc rfl rfl) (And.intro (ib_ok c13) (And.intro rfl (And.intro (kc rfl rfl) (And.intro (kc rfl rfl) (And.intro (Nat.le_of_ble_eq_true rfl) (?_))))))))))))))))
      show Ev l d mi_X10_harmTold 116 [some (.ref 65), none, some (.int (x2 + Int32.ofInt 1))] [] (hp (uI (uI s 111 (s.1 65 56).toNatClampNeg (s.1 146 x2.toNatClampNeg)) 65 56 (((uI s 111 (s.1 65 56).toNatClampNeg (s.1 146 x2.toNatClampNeg)).1 65 56) + (Int32.ofInt 1)))) 0 0 _
      rw [← hs14]
      refine Ev.goto (off := -36) (tgt := 80) (by decide +kernel) (by decide) ?_
      exact ih (x2 + Int32.ofInt 1) s14 _ hf
def f_X10_harmTold_j119 (s : ST) : Option (ST) := gd (ib (Int32.ofInt 0) 2) (lt (uI s 110 (Int32.ofInt 0).toNatClampNeg (s.1 65 56)) (fun s16 => some s16))
set_option maxHeartbeats 2000000 in
set_option maxRecDepth 20000 in
theorem e_X10_harmTold_j119 {l : Launch} {d : Nat} (hd : 8 ≤ d) (s : ST) (r : ST) (hf : f_X10_harmTold_j119 s = some r) : Ev l d mi_X10_harmTold 119 [some (.ref 65), none, none] [] (hp s) 0 0 (none, hp r) := by
  unfold f_X10_harmTold_j119 at hf
  obtain ⟨c15, hf⟩ := gd_some hf
  obtain ⟨s16, hs16, hf⟩ := lt_some hf
  refine Ev.blk (pc' := 129) [(.aload_n 0, 0, 0, 0), (.getfield 148, 0, 10, 54), (.iconst 0, 0, 0, 0), (.aload_n 0, 0, 0, 0), (.getfield 394, 0, 10, 56), (.iastore, 0, 0, 0)] (by decide +kernel) ⟨kf_10_148, ⟨kf_10_394, trivial⟩⟩ rfl (And.intro (kc rfl rfl) (Exists.intro 110 (And.intro rfl (And.intro (kc rfl rfl) (And.intro (kc rfl rfl) (And.intro (ib_ok c15) (?_)))))))
  show Ev l d mi_X10_harmTold 129 [some (.ref 65), none, none] [] (hp (uI s 110 (Int32.ofInt 0).toNatClampNeg (s.1 65 56))) 0 0 _
  rw [← hs16]
  cases hf
  exact Ev.vret rfl (by decide +kernel) (Nat.le_refl _) (Nat.le_refl _)
def f_X10_harmTold_j23 (s : ST) : Option (ST) := (if (s.1 65 5) = 0 then lt (uI (uI (uI (uI (uI s 65 59 (Int32.ofInt 1)) 65 111 (Int32.ofInt 0)) 65 113 (Int32.ofInt 0)) 65 114 (Int32.ofInt 0)) 65 115 (Int32.ofInt 0)) (fun s6 => (f_X10_qSums s6).bind (fun q7 => (if (q7.1 65 5) = 0 then gd (ib (Int32.ofInt 0) 2) (lt (uI q7 109 (Int32.ofInt 0).toNatClampNeg (q7.1 65 56)) (fun s10 => (f_X10_harmTold_L80 f_X10_harmTold_j119 fuel) (Int32.ofInt 0) s10)) else some q7))) else some s)
set_option maxHeartbeats 2000000 in
set_option maxRecDepth 20000 in
theorem e_X10_harmTold_j23 {l : Launch} {d : Nat} (hd : 8 ≤ d) (s : ST) (r : ST) (hf : f_X10_harmTold_j23 s = some r) : Ev l d mi_X10_harmTold 23 [some (.ref 65), none, none] [] (hp s) 0 0 (none, hp r) := by
  unfold f_X10_harmTold_j23 at hf
  refine Ev.blk (pc' := 27) [(.aload_n 0, 0, 0, 0), (.getfield 278, 0, 10, 5)] (by decide +kernel) ⟨kf_10_278, trivial⟩ rfl (And.intro (kc rfl rfl) (?_))
  show Ev l d mi_X10_harmTold 27 [some (.ref 65), none, none] [.int (s.1 65 5)] (hp s) 0 0 _
  refine Ev.if_eq (off := 4) (tgt := 31) (by decide +kernel) (by decide) (fun b5 => ?_) (fun b5 => ?_)
  · have hf := (if_pos b5).symm.trans hf
    obtain ⟨s6, hs6, hf⟩ := lt_some hf
    refine Ev.blk (pc' := 57) [(.aload_n 0, 0, 0, 0), (.iconst 1, 0, 0, 0), (.putfield 336, 0, 10, 59), (.aload_n 0, 0, 0, 0), (.iconst 0, 0, 0, 0), (.putfield 379, 0, 10, 111), (.aload_n 0, 0, 0, 0), (.iconst 0, 0, 0, 0), (.putfield 382, 0, 10, 113), (.aload_n 0, 0, 0, 0), (.iconst 0, 0, 0, 0), (.putfield 385, 0, 10, 114), (.aload_n 0, 0, 0, 0), (.iconst 0, 0, 0, 0), (.putfield 388, 0, 10, 115), (.aload_n 0, 0, 0, 0)] (by decide +kernel) ⟨⟨kf_10_336, Or.inl rfl⟩, ⟨⟨kf_10_379, Or.inl rfl⟩, ⟨⟨kf_10_382, Or.inl rfl⟩, ⟨⟨kf_10_385, Or.inl rfl⟩, ⟨⟨kf_10_388, Or.inl rfl⟩, trivial⟩⟩⟩⟩⟩ rfl (And.intro (kc rfl rfl) (And.intro (Or.inr rfl) (And.intro (kc rfl rfl) (And.intro (kc rfl rfl) (And.intro (kc rfl rfl) (And.intro (kc rfl rfl) (?_)))))))
    show Ev l d mi_X10_harmTold 57 [some (.ref 65), none, none] [.ref 65] (hp (uI (uI (uI (uI (uI s 65 59 (Int32.ofInt 1)) 65 111 (Int32.ofInt 0)) 65 113 (Int32.ofInt 0)) 65 114 (Int32.ofInt 0)) 65 115 (Int32.ofInt 0))) 0 0 _
    rw [← hs6]
    obtain ⟨q7, hq7, hf⟩ := bd_some hf
    refine Ev.callV (o := 65) (M' := mi_X10_qSums) (d' := d - 1) (As := []) (rest := []) (r' := (none, hp q7)) (e_X10_qSums (d := d - 1) (by omega) s6 _ hq7) (by omega) wm_X10_qSums wi_X10_qSums wv_X10_qSums km_10_391 (kc rfl rfl) (Nat.le_of_ble_eq_true rfl) rfl rfl rfl (Nat.le_of_ble_eq_true rfl) ⟨Nat.le_of_ble_eq_true rfl, Nat.le_of_ble_eq_true rfl⟩ (by decide +kernel) ?_
    show Ev l d mi_X10_harmTold 60 [some (.ref 65), none, none] [] (hp q7) 0 0 _
    refine Ev.blk (pc' := 64) [(.aload_n 0, 0, 0, 0), (.getfield 278, 0, 10, 5)] (by decide +kernel) ⟨kf_10_278, trivial⟩ rfl (And.intro (kc rfl rfl) (?_))
    show Ev l d mi_X10_harmTold 64 [some (.ref 65), none, none] [.int (q7.1 65 5)] (hp q7) 0 0 _
    refine Ev.if_eq (off := 4) (tgt := 68) (by decide +kernel) (by decide) (fun b8 => ?_) (fun b8 => ?_)
    · have hf := (if_pos b8).symm.trans hf
      obtain ⟨c9, hf⟩ := gd_some hf
      obtain ⟨s10, hs10, hf⟩ := lt_some hf
      refine Ev.blk (pc' := 80) [(.aload_n 0, 0, 0, 0), (.getfield 145, 0, 10, 53), (.iconst 0, 0, 0, 0), (.aload_n 0, 0, 0, 0), (.getfield 394, 0, 10, 56), (.iastore, 0, 0, 0), (.iconst 0, 0, 0, 0), (.istore_n 2, 0, 0, 0)] (by decide +kernel) ⟨kf_10_145, ⟨kf_10_394, trivial⟩⟩ rfl (And.intro (kc rfl rfl) (Exists.intro 109 (And.intro rfl (And.intro (kc rfl rfl) (And.intro (kc rfl rfl) (And.intro (ib_ok c9) (And.intro (Nat.le_of_ble_eq_true rfl) (?_))))))))
      show Ev l d mi_X10_harmTold 80 [some (.ref 65), none, some (.int (Int32.ofInt 0))] [] (hp (uI q7 109 (Int32.ofInt 0).toNatClampNeg (q7.1 65 56))) 0 0 _
      rw [← hs10]
      exact (e_X10_harmTold_L80 hd f_X10_harmTold_j119 (e_X10_harmTold_j119 hd) fuel) (Int32.ofInt 0) s10 _ hf
    · have hf := (if_neg b8).symm.trans hf
      cases hf
      exact Ev.vret rfl (by decide +kernel) (Nat.le_refl _) (Nat.le_refl _)
  · have hf := (if_neg b5).symm.trans hf
    cases hf
    exact Ev.vret rfl (by decide +kernel) (Nat.le_refl _) (Nat.le_refl _)
def f_X10_harmTold (p0 : Int32) (s : ST) : Option (ST) := (if (s.1 65 5) = 0 then gd (ib (Int32.ofInt 0) 2) ((if (s.1 109 (Int32.ofInt 0).toNatClampNeg) = (Int32.ofInt (-1)) then f_X10_harmTold_j23 s else (f_X10_fail (Int32.ofInt 5) p0 s).bind (fun q4 => f_X10_harmTold_j23 q4))) else f_X10_harmTold_j23 s)
set_option maxHeartbeats 2000000 in
set_option maxRecDepth 20000 in
theorem e_X10_harmTold {l : Launch} {d : Nat} (hd : 8 ≤ d) (p0 : Int32) (s : ST) (r : ST) (hf : f_X10_harmTold p0 s = some r) : Cl l d mi_X10_harmTold [.ref 65, .int p0] (hp s) (none, hp r) := by
  refine Ev.entry (by decide +kernel) rfl rfl ?_
  show Ev l d mi_X10_harmTold 0 [some (.ref 65), some (.int p0), none] [] (hp s) 0 0 _
  unfold f_X10_harmTold at hf
  refine Ev.blk (pc' := 4) [(.aload_n 0, 0, 0, 0), (.getfield 278, 0, 10, 5)] (by decide +kernel) ⟨kf_10_278, trivial⟩ rfl (And.intro (kc rfl rfl) (?_))
  show Ev l d mi_X10_harmTold 4 [some (.ref 65), some (.int p0), none] [.int (s.1 65 5)] (hp s) 0 0 _
  refine Ev.if_ne (off := 19) (tgt := 23) (by decide +kernel) (by decide) (fun b1 => ?_) (fun b1 => ?_)
  · have hf := (if_neg b1).symm.trans hf
    exact Ev.wk ((e_X10_harmTold_j23 hd) s _ hf) (And.intro (Or.inr rfl) (And.intro (Or.inl rfl) (And.intro (Or.inr rfl) (trivial))))
  · have hf := (if_pos b1).symm.trans hf
    obtain ⟨c2, hf⟩ := gd_some hf
    refine Ev.blk (pc' := 14) [(.aload_n 0, 0, 0, 0), (.getfield 145, 0, 10, 53), (.iconst 0, 0, 0, 0), (.iaload, 0, 0, 0), (.iconst (-1), 0, 0, 0)] (by decide +kernel) ⟨kf_10_145, trivial⟩ rfl (And.intro (kc rfl rfl) (Exists.intro 109 (And.intro rfl (And.intro (kc rfl rfl) (And.intro (ib_ok c2) (?_))))))
    show Ev l d mi_X10_harmTold 14 [some (.ref 65), some (.int p0), none] [.int (Int32.ofInt (-1)), .int (s.1 109 (Int32.ofInt 0).toNatClampNeg)] (hp s) 0 0 _
    refine Ev.icmp_eq (off := 9) (tgt := 23) (by decide +kernel) (by decide) (fun b3 => ?_) (fun b3 => ?_)
    · have hf := (if_pos b3).symm.trans hf
      exact Ev.wk ((e_X10_harmTold_j23 hd) s _ hf) (And.intro (Or.inr rfl) (And.intro (Or.inl rfl) (And.intro (Or.inr rfl) (trivial))))
    · have hf := (if_neg b3).symm.trans hf
      refine Ev.blk (pc' := 20) [(.aload_n 0, 0, 0, 0), (.iconst 5, 0, 0, 0), (.iload_n 1, 0, 0, 0)] (by decide +kernel) trivial rfl (?_)
      show Ev l d mi_X10_harmTold 20 [some (.ref 65), some (.int p0), none] [.int p0, .int (Int32.ofInt 5), .ref 65] (hp s) 0 0 _
      obtain ⟨q4, hq4, hf⟩ := bd_some hf
      refine Ev.callV (o := 65) (M' := mi_X10_fail) (d' := d - 1) (As := [.int (Int32.ofInt 5), .int p0]) (rest := []) (r' := (none, hp q4)) (e_X10_fail (d := d - 1) (by omega) (Int32.ofInt 5) p0 s _ hq4) (by omega) wm_X10_fail wi_X10_fail wv_X10_fail km_10_308 (kc rfl rfl) (Nat.le_of_ble_eq_true rfl) rfl rfl rfl (Nat.le_of_ble_eq_true rfl) ⟨Nat.le_of_ble_eq_true rfl, Nat.le_of_ble_eq_true rfl⟩ (by decide +kernel) ?_
      show Ev l d mi_X10_harmTold 23 [some (.ref 65), some (.int p0), none] [] (hp q4) 0 0 _
      exact Ev.wk ((e_X10_harmTold_j23 hd) q4 _ hf) (And.intro (Or.inr rfl) (And.intro (Or.inl rfl) (And.intro (Or.inr rfl) (trivial))))
def f_X10_statementTold_j145 (s : ST) : Option (ST) := (f_X10_asksSign ((Int8.ofInt 59).toInt32) s).bind (fun q24 => lt (uI q24 65 57 ((q24.1 65 57) + (Int32.ofInt 1))) (fun s25 => some s25))
set_option maxHeartbeats 2000000 in
set_option maxRecDepth 20000 in
theorem e_X10_statementTold_j145 {l : Launch} {d : Nat} (hd : 9 ≤ d) (s : ST) (r : ST) (hf : f_X10_statementTold_j145 s = some r) : Ev l d mi_X10_statementTold 145 [some (.ref 65), none] [] (hp s) 0 0 (none, hp r) := by
  unfold f_X10_statementTold_j145 at hf
  refine Ev.blk (pc' := 148) [(.aload_n 0, 0, 0, 0), (.bipush 59, 0, 0, 0)] (by decide +kernel) trivial rfl (?_)
  show Ev l d mi_X10_statementTold 148 [some (.ref 65), none] [.int ((Int8.ofInt 59).toInt32), .ref 65] (hp s) 0 0 _
  obtain ⟨q24, hq24, hf⟩ := bd_some hf
  refine Ev.callV (o := 65) (M' := mi_X10_asksSign) (d' := d - 1) (As := [.int ((Int8.ofInt 59).toInt32)]) (rest := []) (r' := (none, hp q24)) (e_X10_asksSign (d := d - 1) (by omega) ((Int8.ofInt 59).toInt32) s _ hq24) (by omega) wm_X10_asksSign wi_X10_asksSign wv_X10_asksSign km_10_356 (kc rfl rfl) (Nat.le_of_ble_eq_true rfl) rfl rfl rfl (Nat.le_of_ble_eq_true rfl) ⟨Nat.le_of_ble_eq_true rfl, Nat.le_of_ble_eq_true rfl⟩ (by decide +kernel) ?_
  show Ev l d mi_X10_statementTold 151 [some (.ref 65), none] [] (hp q24) 0 0 _
  obtain ⟨s25, hs25, hf⟩ := lt_some hf
  refine Ev.blk (pc' := 161) [(.aload_n 0, 0, 0, 0), (.dup, 0, 0, 0), (.getfield 397, 0, 10, 57), (.iconst 1, 0, 0, 0), (.iadd, 0, 0, 0), (.putfield 397, 0, 10, 57)] (by decide +kernel) ⟨kf_10_397, ⟨⟨kf_10_397, Or.inl rfl⟩, trivial⟩⟩ rfl (And.intro rfl (And.intro (kc rfl rfl) (And.intro (kc rfl rfl) (?_))))
  show Ev l d mi_X10_statementTold 161 [some (.ref 65), none] [] (hp (uI q24 65 57 ((q24.1 65 57) + (Int32.ofInt 1)))) 0 0 _
  rw [← hs25]
  cases hf
  exact Ev.vret rfl (by decide +kernel) (Nat.le_refl _) (Nat.le_refl _)
def f_X10_statementTold (s : ST) : Option (ST) := (if (s.1 65 57) = ((Int8.ofInt 60).toInt32) then (f_X10_fail (Int32.ofInt 5) (s.1 65 2) s).bind (fun q23 => some q23) else (f_X10_takes 72 s).bind (fun q2 => (if q2.1 = 0 then (f_X10_takes 77 q2.2).bind (fun q4 => (if q4.1 = 0 then (f_X10_takes 81 q4.2).bind (fun q6 => (if q6.1 = 0 then (f_X10_takes 83 q6.2).bind (fun q8 => (if q8.1 = 0 then (f_X10_takes 84 q8.2).bind (fun q10 => (if q10.1 = 0 then (f_X10_asks 85 q10.2).bind (fun q12 => (f_X10_number (Int32.ofInt 0) ((Int8.ofInt 100).toInt32) q12).bind (fun q13 => gd (ib (Int32.ofInt 1) 4) (lt (uI q13.2 108 (Int32.ofInt 1).toNatClampNeg q13.1) (fun s15 => f_X10_statementTold_j145 s15)))) else (f_X10_number (Int32.ofInt 0) ((Int8.ofInt 99).toInt32) q10.2).bind (fun q16 => gd (ib (Int32.ofInt 0) 4) (lt (uI q16.2 108 (Int32.ofInt 0).toNatClampNeg q16.1) (fun s18 => f_X10_statementTold_j145 s18))))) else (f_X10_harmTold (s.1 65 2) q8.2).bind (fun q19 => f_X10_statementTold_j145 q19))) else (f_X10_fieldTold (s.1 65 2) q6.2).bind (fun q20 => f_X10_statementTold_j145 q20))) else (f_X10_manTold (s.1 65 2) q4.2).bind (fun q21 => f_X10_statementTold_j145 q21))) else (f_X10_kindTold (s.1 65 2) q2.2).bind (fun q22 => f_X10_statementTold_j145 q22))))
set_option maxHeartbeats 2000000 in
set_option maxRecDepth 20000 in
theorem e_X10_statementTold {l : Launch} {d : Nat} (hd : 9 ≤ d) (s : ST) (r : ST) (hf : f_X10_statementTold s = some r) : Cl l d mi_X10_statementTold [.ref 65] (hp s) (none, hp r) := by
  refine Ev.entry (by decide +kernel) rfl rfl ?_
  show Ev l d mi_X10_statementTold 0 [some (.ref 65), none] [] (hp s) 0 0 _
  unfold f_X10_statementTold at hf
  refine Ev.blk (pc' := 11) [(.aload_n 0, 0, 0, 0), (.getfield 284, 0, 10, 2), (.istore_n 1, 0, 0, 0), (.aload_n 0, 0, 0, 0), (.getfield 397, 0, 10, 57), (.bipush 60, 0, 0, 0)] (by decide +kernel) ⟨kf_10_284, ⟨kf_10_397, trivial⟩⟩ rfl (And.intro (kc rfl rfl) (And.intro (Nat.le_of_ble_eq_true rfl) (And.intro (kc rfl rfl) (?_))))
  show Ev l d mi_X10_statementTold 11 [some (.ref 65), some (.int (s.1 65 2))] [.int ((Int8.ofInt 60).toInt32), .int (s.1 65 57)] (hp s) 0 0 _
  refine Ev.icmp_ne (off := 10) (tgt := 21) (by decide +kernel) (by decide) (fun b1 => ?_) (fun b1 => ?_)
  · have hf := (if_neg b1).symm.trans hf
    refine Ev.blk (pc' := 26) [(.aload_n 0, 0, 0, 0), (.aload_n 0, 0, 0, 0), (.getfield 33, 0, 10, 15)] (by decide +kernel) ⟨kf_10_33, trivial⟩ rfl (And.intro (kc rfl rfl) (Exists.intro 72 (And.intro rfl (?_))))
    show Ev l d mi_X10_statementTold 26 [some (.ref 65), some (.int (s.1 65 2))] [.ref 72, .ref 65] (hp s) 0 0 _
    obtain ⟨q2, hq2, hf⟩ := bd_some hf
    refine Ev.callV (o := 65) (M' := mi_X10_takes) (d' := d - 1) (As := [.ref 72]) (rest := []) (r' := (some (.int q2.1), hp q2.2)) (e_X10_takes (d := d - 1) (by omega) 72 s _ hq2) (by omega) wm_X10_takes wi_X10_takes wv_X10_takes km_10_305 (kc rfl rfl) (Nat.le_of_ble_eq_true rfl) rfl rfl rfl (Nat.le_of_ble_eq_true rfl) ⟨Nat.le_of_ble_eq_true rfl, Nat.le_of_ble_eq_true rfl⟩ (by decide +kernel) ?_
    show Ev l d mi_X10_statementTold 29 [some (.ref 65), some (.int (s.1 65 2))] [.int q2.1] (hp q2.2) 0 0 _
    refine Ev.if_eq (off := 11) (tgt := 40) (by decide +kernel) (by decide) (fun b3 => ?_) (fun b3 => ?_)
    · have hf := (if_pos b3).symm.trans hf
      refine Ev.blk (pc' := 45) [(.aload_n 0, 0, 0, 0), (.aload_n 0, 0, 0, 0), (.getfield 48, 0, 10, 20)] (by decide +kernel) ⟨kf_10_48, trivial⟩ rfl (And.intro (kc rfl rfl) (Exists.intro 77 (And.intro rfl (?_))))
      show Ev l d mi_X10_statementTold 45 [some (.ref 65), some (.int (s.1 65 2))] [.ref 77, .ref 65] (hp q2.2) 0 0 _
      obtain ⟨q4, hq4, hf⟩ := bd_some hf
      refine Ev.callV (o := 65) (M' := mi_X10_takes) (d' := d - 1) (As := [.ref 77]) (rest := []) (r' := (some (.int q4.1), hp q4.2)) (e_X10_takes (d := d - 1) (by omega) 77 q2.2 _ hq4) (by omega) wm_X10_takes wi_X10_takes wv_X10_takes km_10_305 (kc rfl rfl) (Nat.le_of_ble_eq_true rfl) rfl rfl rfl (Nat.le_of_ble_eq_true rfl) ⟨Nat.le_of_ble_eq_true rfl, Nat.le_of_ble_eq_true rfl⟩ (by decide +kernel) ?_
      show Ev l d mi_X10_statementTold 48 [some (.ref 65), some (.int (s.1 65 2))] [.int q4.1] (hp q4.2) 0 0 _
      refine Ev.if_eq (off := 11) (tgt := 59) (by decide +kernel) (by decide) (fun b5 => ?_) (fun b5 => ?_)
      · have hf := (if_pos b5).symm.trans hf
        refine Ev.blk (pc' := 64) [(.aload_n 0, 0, 0, 0), (.aload_n 0, 0, 0, 0), (.getfield 60, 0, 10, 24)] (by decide +kernel) ⟨kf_10_60, trivial⟩ rfl (And.intro (kc rfl rfl) (Exists.intro 81 (And.intro rfl (?_))))
        show Ev l d mi_X10_statementTold 64 [some (.ref 65), some (.int (s.1 65 2))] [.ref 81, .ref 65] (hp q4.2) 0 0 _
        obtain ⟨q6, hq6, hf⟩ := bd_some hf
        refine Ev.callV (o := 65) (M' := mi_X10_takes) (d' := d - 1) (As := [.ref 81]) (rest := []) (r' := (some (.int q6.1), hp q6.2)) (e_X10_takes (d := d - 1) (by omega) 81 q4.2 _ hq6) (by omega) wm_X10_takes wi_X10_takes wv_X10_takes km_10_305 (kc rfl rfl) (Nat.le_of_ble_eq_true rfl) rfl rfl rfl (Nat.le_of_ble_eq_true rfl) ⟨Nat.le_of_ble_eq_true rfl, Nat.le_of_ble_eq_true rfl⟩ (by decide +kernel) ?_
        show Ev l d mi_X10_statementTold 67 [some (.ref 65), some (.int (s.1 65 2))] [.int q6.1] (hp q6.2) 0 0 _
        refine Ev.if_eq (off := 11) (tgt := 78) (by decide +kernel) (by decide) (fun b7 => ?_) (fun b7 => ?_)
        · have hf := (if_pos b7).symm.trans hf
          refine Ev.blk (pc' := 83) [(.aload_n 0, 0, 0, 0), (.aload_n 0, 0, 0, 0), (.getfield 66, 0, 10, 26)] (by decide +kernel) ⟨kf_10_66, trivial⟩ rfl (And.intro (kc rfl rfl) (Exists.intro 83 (And.intro rfl (?_))))
          show Ev l d mi_X10_statementTold 83 [some (.ref 65), some (.int (s.1 65 2))] [.ref 83, .ref 65] (hp q6.2) 0 0 _
          obtain ⟨q8, hq8, hf⟩ := bd_some hf
          refine Ev.callV (o := 65) (M' := mi_X10_takes) (d' := d - 1) (As := [.ref 83]) (rest := []) (r' := (some (.int q8.1), hp q8.2)) (e_X10_takes (d := d - 1) (by omega) 83 q6.2 _ hq8) (by omega) wm_X10_takes wi_X10_takes wv_X10_takes km_10_305 (kc rfl rfl) (Nat.le_of_ble_eq_true rfl) rfl rfl rfl (Nat.le_of_ble_eq_true rfl) ⟨Nat.le_of_ble_eq_true rfl, Nat.le_of_ble_eq_true rfl⟩ (by decide +kernel) ?_
          show Ev l d mi_X10_statementTold 86 [some (.ref 65), some (.int (s.1 65 2))] [.int q8.1] (hp q8.2) 0 0 _
          refine Ev.if_eq (off := 11) (tgt := 97) (by decide +kernel) (by decide) (fun b9 => ?_) (fun b9 => ?_)
          · have hf := (if_pos b9).symm.trans hf
            refine Ev.blk (pc' := 102) [(.aload_n 0, 0, 0, 0), (.aload_n 0, 0, 0, 0), (.getfield 69, 0, 10, 27)] (by decide +kernel) ⟨kf_10_69, trivial⟩ rfl (And.intro (kc rfl rfl) (Exists.intro 84 (And.intro rfl (?_))))
            show Ev l d mi_X10_statementTold 102 [some (.ref 65), some (.int (s.1 65 2))] [.ref 84, .ref 65] (hp q8.2) 0 0 _
            obtain ⟨q10, hq10, hf⟩ := bd_some hf
            refine Ev.callV (o := 65) (M' := mi_X10_takes) (d' := d - 1) (As := [.ref 84]) (rest := []) (r' := (some (.int q10.1), hp q10.2)) (e_X10_takes (d := d - 1) (by omega) 84 q8.2 _ hq10) (by omega) wm_X10_takes wi_X10_takes wv_X10_takes km_10_305 (kc rfl rfl) (Nat.le_of_ble_eq_true rfl) rfl rfl rfl (Nat.le_of_ble_eq_true rfl) ⟨Nat.le_of_ble_eq_true rfl, Nat.le_of_ble_eq_true rfl⟩ (by decide +kernel) ?_
            show Ev l d mi_X10_statementTold 105 [some (.ref 65), some (.int (s.1 65 2))] [.int q10.1] (hp q10.2) 0 0 _
            refine Ev.if_eq (off := 19) (tgt := 124) (by decide +kernel) (by decide) (fun b11 => ?_) (fun b11 => ?_)
            · have hf := (if_pos b11).symm.trans hf
              refine Ev.blk (pc' := 129) [(.aload_n 0, 0, 0, 0), (.aload_n 0, 0, 0, 0), (.getfield 72, 0, 10, 28)] (by decide +kernel) ⟨kf_10_72, trivial⟩ rfl (And.intro (kc rfl rfl) (Exists.intro 85 (And.intro rfl (?_))))
              show Ev l d mi_X10_statementTold 129 [some (.ref 65), some (.int (s.1 65 2))] [.ref 85, .ref 65] (hp q10.2) 0 0 _
              obtain ⟨q12, hq12, hf⟩ := bd_some hf
              refine Ev.callV (o := 65) (M' := mi_X10_asks) (d' := d - 1) (As := [.ref 85]) (rest := []) (r' := (none, hp q12)) (e_X10_asks (d := d - 1) (by omega) 85 q10.2 _ hq12) (by omega) wm_X10_asks wi_X10_asks wv_X10_asks km_10_348 (kc rfl rfl) (Nat.le_of_ble_eq_true rfl) rfl rfl rfl (Nat.le_of_ble_eq_true rfl) ⟨Nat.le_of_ble_eq_true rfl, Nat.le_of_ble_eq_true rfl⟩ (by decide +kernel) ?_
              show Ev l d mi_X10_statementTold 132 [some (.ref 65), some (.int (s.1 65 2))] [] (hp q12) 0 0 _
              refine Ev.blk (pc' := 141) [(.aload_n 0, 0, 0, 0), (.getfield 142, 0, 10, 52), (.iconst 1, 0, 0, 0), (.aload_n 0, 0, 0, 0), (.iconst 0, 0, 0, 0), (.bipush 100, 0, 0, 0)] (by decide +kernel) ⟨kf_10_142, trivial⟩ rfl (And.intro (kc rfl rfl) (Exists.intro 108 (And.intro rfl (?_))))
              show Ev l d mi_X10_statementTold 141 [some (.ref 65), some (.int (s.1 65 2))] [.int ((Int8.ofInt 100).toInt32), .int (Int32.ofInt 0), .ref 65, .int (Int32.ofInt 1), .ref 108] (hp q12) 0 0 _
              obtain ⟨q13, hq13, hf⟩ := bd_some hf
              refine Ev.callV (o := 65) (M' := mi_X10_number) (d' := d - 1) (As := [.int (Int32.ofInt 0), .int ((Int8.ofInt 100).toInt32)]) (rest := [.int (Int32.ofInt 1), .ref 108]) (r' := (some (.int q13.1), hp q13.2)) (e_X10_number (d := d - 1) (by omega) (Int32.ofInt 0) ((Int8.ofInt 100).toInt32) q12 _ hq13) (by omega) wm_X10_number wi_X10_number wv_X10_number km_10_352 (kc rfl rfl) (Nat.le_of_ble_eq_true rfl) rfl rfl rfl (Nat.le_of_ble_eq_true rfl) ⟨Nat.le_of_ble_eq_true rfl, Nat.le_of_ble_eq_true rfl⟩ (by decide +kernel) ?_
              show Ev l d mi_X10_statementTold 144 [some (.ref 65), some (.int (s.1 65 2))] [.int q13.1, .int (Int32.ofInt 1), .ref 108] (hp q13.2) 0 0 _
              obtain ⟨c14, hf⟩ := gd_some hf
              obtain ⟨s15, hs15, hf⟩ := lt_some hf
              refine Ev.blk (pc' := 145) [(.iastore, 0, 0, 0)] (by decide +kernel) trivial rfl (And.intro (kc rfl rfl) (And.intro (ib_ok c14) (?_)))
              show Ev l d mi_X10_statementTold 145 [some (.ref 65), some (.int (s.1 65 2))] [] (hp (uI q13.2 108 (Int32.ofInt 1).toNatClampNeg q13.1)) 0 0 _
              rw [← hs15]
              exact Ev.wk ((e_X10_statementTold_j145 hd) s15 _ hf) (And.intro (Or.inr rfl) (And.intro (Or.inl rfl) (trivial)))
            · have hf := (if_neg b11).symm.trans hf
              refine Ev.blk (pc' := 117) [(.aload_n 0, 0, 0, 0), (.getfield 142, 0, 10, 52), (.iconst 0, 0, 0, 0), (.aload_n 0, 0, 0, 0), (.iconst 0, 0, 0, 0), (.bipush 99, 0, 0, 0)] (by decide +kernel) ⟨kf_10_142, trivial⟩ rfl (And.intro (kc rfl rfl) (Exists.intro 108 (And.intro rfl (?_))))
              show Ev l d mi_X10_statementTold 117 [some (.ref 65), some (.int (s.1 65 2))] [.int ((Int8.ofInt 99).toInt32), .int (Int32.ofInt 0), .ref 65, .int (Int32.ofInt 0), .ref 108] (hp q10.2) 0 0 _
              obtain ⟨q16, hq16, hf⟩ := bd_some hf
              refine Ev.callV (o := 65) (M' := mi_X10_number) (d' := d - 1) (As := [.int (Int32.ofInt 0), .int ((Int8.ofInt 99).toInt32)]) (rest := [.int (Int32.ofInt 0), .ref 108]) (r' := (some (.int q16.1), hp q16.2)) (e_X10_number (d := d - 1) (by omega) (Int32.ofInt 0) ((Int8.ofInt 99).toInt32) q10.2 _ hq16) (by omega) wm_X10_number wi_X10_number wv_X10_number km_10_352 (kc rfl rfl) (Nat.le_of_ble_eq_true rfl) rfl rfl rfl (Nat.le_of_ble_eq_true rfl) ⟨Nat.le_of_ble_eq_true rfl, Nat.le_of_ble_eq_true rfl⟩ (by decide +kernel) ?_
              show Ev l d mi_X10_statementTold 120 [some (.ref 65), some (.int (s.1 65 2))] [.int q16.1, .int (Int32.ofInt 0), .ref 108] (hp q16.2) 0 0 _
              obtain ⟨c17, hf⟩ := gd_some hf
              obtain ⟨s18, hs18, hf⟩ := lt_some hf
              refine Ev.blk (pc' := 121) [(.iastore, 0, 0, 0)] (by decide +kernel) trivial rfl (And.intro (kc rfl rfl) (And.intro (ib_ok c17) (?_)))
              show Ev l d mi_X10_statementTold 121 [some (.ref 65), some (.int (s.1 65 2))] [] (hp (uI q16.2 108 (Int32.ofInt 0).toNatClampNeg q16.1)) 0 0 _
              rw [← hs18]
              refine Ev.goto (off := 24) (tgt := 145) (by decide +kernel) (by decide) ?_
              exact Ev.wk ((e_X10_statementTold_j145 hd) s18 _ hf) (And.intro (Or.inr rfl) (And.intro (Or.inl rfl) (trivial)))
          · have hf := (if_neg b9).symm.trans hf
            refine Ev.blk (pc' := 91) [(.aload_n 0, 0, 0, 0), (.iload_n 1, 0, 0, 0)] (by decide +kernel) trivial rfl (?_)
            show Ev l d mi_X10_statementTold 91 [some (.ref 65), some (.int (s.1 65 2))] [.int (s.1 65 2), .ref 65] (hp q8.2) 0 0 _
            obtain ⟨q19, hq19, hf⟩ := bd_some hf
            refine Ev.callV (o := 65) (M' := mi_X10_harmTold) (d' := d - 1) (As := [.int (s.1 65 2)]) (rest := []) (r' := (none, hp q19)) (e_X10_harmTold (d := d - 1) (by omega) (s.1 65 2) q8.2 _ hq19) (by omega) wm_X10_harmTold wi_X10_harmTold wv_X10_harmTold km_10_409 (kc rfl rfl) (Nat.le_of_ble_eq_true rfl) rfl rfl rfl (Nat.le_of_ble_eq_true rfl) ⟨Nat.le_of_ble_eq_true rfl, Nat.le_of_ble_eq_true rfl⟩ (by decide +kernel) ?_
            show Ev l d mi_X10_statementTold 94 [some (.ref 65), some (.int (s.1 65 2))] [] (hp q19) 0 0 _
            refine Ev.goto (off := 51) (tgt := 145) (by decide +kernel) (by decide) ?_
            exact Ev.wk ((e_X10_statementTold_j145 hd) q19 _ hf) (And.intro (Or.inr rfl) (And.intro (Or.inl rfl) (trivial)))
        · have hf := (if_neg b7).symm.trans hf
          refine Ev.blk (pc' := 72) [(.aload_n 0, 0, 0, 0), (.iload_n 1, 0, 0, 0)] (by decide +kernel) trivial rfl (?_)
          show Ev l d mi_X10_statementTold 72 [some (.ref 65), some (.int (s.1 65 2))] [.int (s.1 65 2), .ref 65] (hp q6.2) 0 0 _
          obtain ⟨q20, hq20, hf⟩ := bd_some hf
          refine Ev.callV (o := 65) (M' := mi_X10_fieldTold) (d' := d - 1) (As := [.int (s.1 65 2)]) (rest := []) (r' := (none, hp q20)) (e_X10_fieldTold (d := d - 1) (by omega) (s.1 65 2) q6.2 _ hq20) (by omega) wm_X10_fieldTold wi_X10_fieldTold wv_X10_fieldTold km_10_406 (kc rfl rfl) (Nat.le_of_ble_eq_true rfl) rfl rfl rfl (Nat.le_of_ble_eq_true rfl) ⟨Nat.le_of_ble_eq_true rfl, Nat.le_of_ble_eq_true rfl⟩ (by decide +kernel) ?_
          show Ev l d mi_X10_statementTold 75 [some (.ref 65), some (.int (s.1 65 2))] [] (hp q20) 0 0 _
          refine Ev.goto (off := 70) (tgt := 145) (by decide +kernel) (by decide) ?_
          exact Ev.wk ((e_X10_statementTold_j145 hd) q20 _ hf) (And.intro (Or.inr rfl) (And.intro (Or.inl rfl) (trivial)))
      · have hf := (if_neg b5).symm.trans hf
        refine Ev.blk (pc' := 53) [(.aload_n 0, 0, 0, 0), (.iload_n 1, 0, 0, 0)] (by decide +kernel) trivial rfl (?_)
        show Ev l d mi_X10_statementTold 53 [some (.ref 65), some (.int (s.1 65 2))] [.int (s.1 65 2), .ref 65] (hp q4.2) 0 0 _
        obtain ⟨q21, hq21, hf⟩ := bd_some hf
        refine Ev.callV (o := 65) (M' := mi_X10_manTold) (d' := d - 1) (As := [.int (s.1 65 2)]) (rest := []) (r' := (none, hp q21)) (e_X10_manTold (d := d - 1) (by omega) (s.1 65 2) q4.2 _ hq21) (by omega) wm_X10_manTold wi_X10_manTold wv_X10_manTold km_10_403 (kc rfl rfl) (Nat.le_of_ble_eq_true rfl) rfl rfl rfl (Nat.le_of_ble_eq_true rfl) ⟨Nat.le_of_ble_eq_true rfl, Nat.le_of_ble_eq_true rfl⟩ (by decide +kernel) ?_
        show Ev l d mi_X10_statementTold 56 [some (.ref 65), some (.int (s.1 65 2))] [] (hp q21) 0 0 _
        refine Ev.goto (off := 89) (tgt := 145) (by decide +kernel) (by decide) ?_
        exact Ev.wk ((e_X10_statementTold_j145 hd) q21 _ hf) (And.intro (Or.inr rfl) (And.intro (Or.inl rfl) (trivial)))
    · have hf := (if_neg b3).symm.trans hf
      refine Ev.blk (pc' := 34) [(.aload_n 0, 0, 0, 0), (.iload_n 1, 0, 0, 0)] (by decide +kernel) trivial rfl (?_)
      show Ev l d mi_X10_statementTold 34 [some (.ref 65), some (.int (s.1 65 2))] [.int (s.1 65 2), .ref 65] (hp q2.2) 0 0 _
      obtain ⟨q22, hq22, hf⟩ := bd_some hf
      refine Ev.callV (o := 65) (M' := mi_X10_kindTold) (d' := d - 1) (As := [.int (s.1 65 2)]) (rest := []) (r' := (none, hp q22)) (e_X10_kindTold (d := d - 1) (by omega) (s.1 65 2) q2.2 _ hq22) (by omega) wm_X10_kindTold wi_X10_kindTold wv_X10_kindTold km_10_400 (kc rfl rfl) (Nat.le_of_ble_eq_true rfl) rfl rfl rfl (Nat.le_of_ble_eq_true rfl) ⟨Nat.le_of_ble_eq_true rfl, Nat.le_of_ble_eq_true rfl⟩ (by decide +kernel) ?_
      show Ev l d mi_X10_statementTold 37 [some (.ref 65), some (.int (s.1 65 2))] [] (hp q22) 0 0 _
      refine Ev.goto (off := 108) (tgt := 145) (by decide +kernel) (by decide) ?_
      exact Ev.wk ((e_X10_statementTold_j145 hd) q22 _ hf) (And.intro (Or.inr rfl) (And.intro (Or.inl rfl) (trivial)))
  · have hf := (if_pos b1).symm.trans hf
    refine Ev.blk (pc' := 17) [(.aload_n 0, 0, 0, 0), (.iconst 5, 0, 0, 0), (.iload_n 1, 0, 0, 0)] (by decide +kernel) trivial rfl (?_)
    show Ev l d mi_X10_statementTold 17 [some (.ref 65), some (.int (s.1 65 2))] [.int (s.1 65 2), .int (Int32.ofInt 5), .ref 65] (hp s) 0 0 _
    obtain ⟨q23, hq23, hf⟩ := bd_some hf
    refine Ev.callV (o := 65) (M' := mi_X10_fail) (d' := d - 1) (As := [.int (Int32.ofInt 5), .int (s.1 65 2)]) (rest := []) (r' := (none, hp q23)) (e_X10_fail (d := d - 1) (by omega) (Int32.ofInt 5) (s.1 65 2) s _ hq23) (by omega) wm_X10_fail wi_X10_fail wv_X10_fail km_10_308 (kc rfl rfl) (Nat.le_of_ble_eq_true rfl) rfl rfl rfl (Nat.le_of_ble_eq_true rfl) ⟨Nat.le_of_ble_eq_true rfl, Nat.le_of_ble_eq_true rfl⟩ (by decide +kernel) ?_
    show Ev l d mi_X10_statementTold 20 [some (.ref 65), some (.int (s.1 65 2))] [] (hp q23) 0 0 _
    cases hf
    exact Ev.vret rfl (by decide +kernel) (Nat.le_refl _) (Nat.le_refl _)
def f_X10_stands_L7 (k32 : ST → Option (ST)) : Nat → Int32 → ST → Option (ST)
  | 0, _, _ => none
  | n + 1, x1, s => (if (Int32.ofInt 3) ≤ x1 then k32 s else gd (ib x1 6) (gd (ib ((Int32.ofInt 3) + x1) 6) (lt (uI s 101 ((Int32.ofInt 3) + x1).toNatClampNeg (s.1 101 x1.toNatClampNeg)) (fun s5 => (f_X10_stands_L7 k32 n) (x1 + Int32.ofInt 1) s5))))
set_option maxHeartbeats 2000000 in
set_option maxRecDepth 20000 in
theorem e_X10_stands_L7 {l : Launch} {d : Nat} (hd : 1 ≤ d) (k32 : ST → Option (ST)) (hk32 : ∀ (s : ST) (r : ST), k32 s = some r → Ev l d mi_X10_stands 32 [some (.ref 65), none] [] (hp s) 0 0 (none, hp r)) : ∀ (n : Nat) (x1 : Int32) (s : ST) (r : ST), f_X10_stands_L7 k32 n x1 s = some r → Ev l d mi_X10_stands 7 [some (.ref 65), some (.int x1)] [] (hp s) 0 0 (none, hp r) := by
  intro n
  induction n with
  | zero =>
    intro x1 s r hf
    cases hf
  | succ n ih =>
    intro x1 s r hf
    unfold f_X10_stands_L7 at hf
    refine Ev.blk (pc' := 9) [(.iload_n 1, 0, 0, 0), (.iconst 3, 0, 0, 0)] (by decide +kernel) trivial rfl (?_)
    show Ev l d mi_X10_stands 9 [some (.ref 65), some (.int x1)] [.int (Int32.ofInt 3), .int x1] (hp s) 0 0 _
    refine Ev.icmp_ge (off := 23) (tgt := 32) (by decide +kernel) (by decide) (fun b2 => ?_) (fun b2 => ?_)
    · have hf := (if_pos b2).symm.trans hf
      exact Ev.wk (hk32 s _ hf) (And.intro (Or.inr rfl) (And.intro (Or.inl rfl) (trivial)))
    · have hf := (if_neg b2).symm.trans hf
      obtain ⟨c3, hf⟩ := gd_some hf
      obtain ⟨c4, hf⟩ := gd_some hf
      obtain ⟨s5, hs5, hf⟩ := lt_some hf
      refine Ev.blk (pc' := 29) [(.aload_n 0, 0, 0, 0), (.getfield 120, 0, 10, 45), (.iconst 3, 0, 0, 0), (.iload_n 1, 0, 0, 0), (.iadd, 0, 0, 0), (.aload_n 0, 0, 0, 0), (.getfield 120, 0, 10, 45), (.iload_n 1, 0, 0, 0), (.iaload, 0, 0, 0), (.iastore, 0, 0, 0), (.iinc 1 1, 0, 0, 0)] (by decide +kernel) ⟨kf_10_120, ⟨kf_10_120, trivial⟩⟩ rfl (And.intro (kc rfl rfl) (Exists.intro 101 (And.intro rfl (And.intro (kc rfl rfl) (Exists.intro 101 (And.intro rfl (And.intro (kc rfl rfl) (And.intro (ib_ok c3) (And.intro (kc rfl rfl) (And.intro (ib_ok c4) (And.intro (Nat.le_of_ble_eq_true rfl) (?_))))))))))))
      show Ev l d mi_X10_stands 29 [some (.ref 65), some (.int (x1 + Int32.ofInt 1))] [] (hp (uI s 101 ((Int32.ofInt 3) + x1).toNatClampNeg (s.1 101 x1.toNatClampNeg))) 0 0 _
      rw [← hs5]
      refine Ev.goto (off := -22) (tgt := 7) (by decide +kernel) (by decide) ?_
      exact ih (x1 + Int32.ofInt 1) s5 _ hf
def f_X10_stands_L34 (k61 : ST → Option (ST)) : Nat → Int32 → ST → Option (ST)
  | 0, _, _ => none
  | n + 1, x1, s => (if ((Int8.ofInt 24).toInt32) ≤ x1 then k61 s else gd (ib x1 48) (gd (ib (((Int8.ofInt 24).toInt32) + x1) 48) (lt (uJ s 102 (((Int8.ofInt 24).toInt32) + x1).toNatClampNeg (s.2.1 102 x1.toNatClampNeg)) (fun s9 => (f_X10_stands_L34 k61 n) (x1 + Int32.ofInt 1) s9))))
set_option maxHeartbeats 2000000 in
set_option maxRecDepth 20000 in
theorem e_X10_stands_L34 {l : Launch} {d : Nat} (hd : 1 ≤ d) (k61 : ST → Option (ST)) (hk61 : ∀ (s : ST) (r : ST), k61 s = some r → Ev l d mi_X10_stands 61 [some (.ref 65), none] [] (hp s) 0 0 (none, hp r)) : ∀ (n : Nat) (x1 : Int32) (s : ST) (r : ST), f_X10_stands_L34 k61 n x1 s = some r → Ev l d mi_X10_stands 34 [some (.ref 65), some (.int x1)] [] (hp s) 0 0 (none, hp r) := by
  intro n
  induction n with
  | zero =>
    intro x1 s r hf
    cases hf
  | succ n ih =>
    intro x1 s r hf
    unfold f_X10_stands_L34 at hf
    refine Ev.blk (pc' := 37) [(.iload_n 1, 0, 0, 0), (.bipush 24, 0, 0, 0)] (by decide +kernel) trivial rfl (?_)
    show Ev l d mi_X10_stands 37 [some (.ref 65), some (.int x1)] [.int ((Int8.ofInt 24).toInt32), .int x1] (hp s) 0 0 _
    refine Ev.icmp_ge (off := 24) (tgt := 61) (by decide +kernel) (by decide) (fun b6 => ?_) (fun b6 => ?_)
    · have hf := (if_pos b6).symm.trans hf
      exact Ev.wk (hk61 s _ hf) (And.intro (Or.inr rfl) (And.intro (Or.inl rfl) (trivial)))
    · have hf := (if_neg b6).symm.trans hf
      obtain ⟨c7, hf⟩ := gd_some hf
      obtain ⟨c8, hf⟩ := gd_some hf
      obtain ⟨s9, hs9, hf⟩ := lt_some hf
      refine Ev.blk (pc' := 58) [(.aload_n 0, 0, 0, 0), (.getfield 123, 0, 10, 46), (.bipush 24, 0, 0, 0), (.iload_n 1, 0, 0, 0), (.iadd, 0, 0, 0), (.aload_n 0, 0, 0, 0), (.getfield 123, 0, 10, 46), (.iload_n 1, 0, 0, 0), (.laload, 0, 0, 0), (.lastore, 0, 0, 0), (.iinc 1 1, 0, 0, 0)] (by decide +kernel) ⟨kf_10_123, ⟨kf_10_123, trivial⟩⟩ rfl (And.intro (kc rfl rfl) (Exists.intro 102 (And.intro rfl (And.intro (kc rfl rfl) (Exists.intro 102 (And.intro rfl (And.intro (kc rfl rfl) (And.intro (ib_ok c7) (And.intro (kc rfl rfl) (And.intro (ib_ok c8) (And.intro (Nat.le_of_ble_eq_true rfl) (?_))))))))))))
      show Ev l d mi_X10_stands 58 [some (.ref 65), some (.int (x1 + Int32.ofInt 1))] [] (hp (uJ s 102 (((Int8.ofInt 24).toInt32) + x1).toNatClampNeg (s.2.1 102 x1.toNatClampNeg))) 0 0 _
      rw [← hs9]
      refine Ev.goto (off := -24) (tgt := 34) (by decide +kernel) (by decide) ?_
      exact ih (x1 + Int32.ofInt 1) s9 _ hf
def f_X10_stands_L63 (k88 : ST → Option (ST)) : Nat → Int32 → ST → Option (ST)
  | 0, _, _ => none
  | n + 1, x1, s => (if (Int32.ofInt 4) ≤ x1 then k88 s else gd (ib x1 8) (gd (ib ((Int32.ofInt 4) + x1) 8) (lt (uI s 103 ((Int32.ofInt 4) + x1).toNatClampNeg (s.1 103 x1.toNatClampNeg)) (fun s13 => (f_X10_stands_L63 k88 n) (x1 + Int32.ofInt 1) s13))))
set_option maxHeartbeats 2000000 in
set_option maxRecDepth 20000 in
theorem e_X10_stands_L63 {l : Launch} {d : Nat} (hd : 1 ≤ d) (k88 : ST → Option (ST)) (hk88 : ∀ (s : ST) (r : ST), k88 s = some r → Ev l d mi_X10_stands 88 [some (.ref 65), none] [] (hp s) 0 0 (none, hp r)) : ∀ (n : Nat) (x1 : Int32) (s : ST) (r : ST), f_X10_stands_L63 k88 n x1 s = some r → Ev l d mi_X10_stands 63 [some (.ref 65), some (.int x1)] [] (hp s) 0 0 (none, hp r) := by
  intro n
  induction n with
  | zero =>
    intro x1 s r hf
    cases hf
  | succ n ih =>
    intro x1 s r hf
    unfold f_X10_stands_L63 at hf
    refine Ev.blk (pc' := 65) [(.iload_n 1, 0, 0, 0), (.iconst 4, 0, 0, 0)] (by decide +kernel) trivial rfl (?_)
    show Ev l d mi_X10_stands 65 [some (.ref 65), some (.int x1)] [.int (Int32.ofInt 4), .int x1] (hp s) 0 0 _
    refine Ev.icmp_ge (off := 23) (tgt := 88) (by decide +kernel) (by decide) (fun b10 => ?_) (fun b10 => ?_)
    · have hf := (if_pos b10).symm.trans hf
      exact Ev.wk (hk88 s _ hf) (And.intro (Or.inr rfl) (And.intro (Or.inl rfl) (trivial)))
    · have hf := (if_neg b10).symm.trans hf
      obtain ⟨c11, hf⟩ := gd_some hf
      obtain ⟨c12, hf⟩ := gd_some hf
      obtain ⟨s13, hs13, hf⟩ := lt_some hf
      refine Ev.blk (pc' := 85) [(.aload_n 0, 0, 0, 0), (.getfield 127, 0, 10, 47), (.iconst 4, 0, 0, 0), (.iload_n 1, 0, 0, 0), (.iadd, 0, 0, 0), (.aload_n 0, 0, 0, 0), (.getfield 127, 0, 10, 47), (.iload_n 1, 0, 0, 0), (.iaload, 0, 0, 0), (.iastore, 0, 0, 0), (.iinc 1 1, 0, 0, 0)] (by decide +kernel) ⟨kf_10_127, ⟨kf_10_127, trivial⟩⟩ rfl (And.intro (kc rfl rfl) (Exists.intro 103 (And.intro rfl (And.intro (kc rfl rfl) (Exists.intro 103 (And.intro rfl (And.intro (kc rfl rfl) (And.intro (ib_ok c11) (And.intro (kc rfl rfl) (And.intro (ib_ok c12) (And.intro (Nat.le_of_ble_eq_true rfl) (?_))))))))))))
      show Ev l d mi_X10_stands 85 [some (.ref 65), some (.int (x1 + Int32.ofInt 1))] [] (hp (uI s 103 ((Int32.ofInt 4) + x1).toNatClampNeg (s.1 103 x1.toNatClampNeg))) 0 0 _
      rw [← hs13]
      refine Ev.goto (off := -22) (tgt := 63) (by decide +kernel) (by decide) ?_
      exact ih (x1 + Int32.ofInt 1) s13 _ hf
def f_X10_stands_L90 (k117 : ST → Option (ST)) : Nat → Int32 → ST → Option (ST)
  | 0, _, _ => none
  | n + 1, x1, s => (if ((Int8.ofInt 20).toInt32) ≤ x1 then k117 s else gd (ib x1 40) (gd (ib (((Int8.ofInt 20).toInt32) + x1) 40) (lt (uI s 104 (((Int8.ofInt 20).toInt32) + x1).toNatClampNeg (s.1 104 x1.toNatClampNeg)) (fun s17 => (f_X10_stands_L90 k117 n) (x1 + Int32.ofInt 1) s17))))
set_option maxHeartbeats 2000000 in
set_option maxRecDepth 20000 in
theorem e_X10_stands_L90 {l : Launch} {d : Nat} (hd : 1 ≤ d) (k117 : ST → Option (ST)) (hk117 : ∀ (s : ST) (r : ST), k117 s = some r → Ev l d mi_X10_stands 117 [some (.ref 65), none] [] (hp s) 0 0 (none, hp r)) : ∀ (n : Nat) (x1 : Int32) (s : ST) (r : ST), f_X10_stands_L90 k117 n x1 s = some r → Ev l d mi_X10_stands 90 [some (.ref 65), some (.int x1)] [] (hp s) 0 0 (none, hp r) := by
  intro n
  induction n with
  | zero =>
    intro x1 s r hf
    cases hf
  | succ n ih =>
    intro x1 s r hf
    unfold f_X10_stands_L90 at hf
    refine Ev.blk (pc' := 93) [(.iload_n 1, 0, 0, 0), (.bipush 20, 0, 0, 0)] (by decide +kernel) trivial rfl (?_)
    show Ev l d mi_X10_stands 93 [some (.ref 65), some (.int x1)] [.int ((Int8.ofInt 20).toInt32), .int x1] (hp s) 0 0 _
    refine Ev.icmp_ge (off := 24) (tgt := 117) (by decide +kernel) (by decide) (fun b14 => ?_) (fun b14 => ?_)
    · have hf := (if_pos b14).symm.trans hf
      exact Ev.wk (hk117 s _ hf) (And.intro (Or.inr rfl) (And.intro (Or.inl rfl) (trivial)))
    · have hf := (if_neg b14).symm.trans hf
      obtain ⟨c15, hf⟩ := gd_some hf
      obtain ⟨c16, hf⟩ := gd_some hf
      obtain ⟨s17, hs17, hf⟩ := lt_some hf
      refine Ev.blk (pc' := 114) [(.aload_n 0, 0, 0, 0), (.getfield 130, 0, 10, 48), (.bipush 20, 0, 0, 0), (.iload_n 1, 0, 0, 0), (.iadd, 0, 0, 0), (.aload_n 0, 0, 0, 0), (.getfield 130, 0, 10, 48), (.iload_n 1, 0, 0, 0), (.iaload, 0, 0, 0), (.iastore, 0, 0, 0), (.iinc 1 1, 0, 0, 0)] (by decide +kernel) ⟨kf_10_130, ⟨kf_10_130, trivial⟩⟩ rfl (And.intro (kc rfl rfl) (Exists.intro 104 (And.intro rfl (And.intro (kc rfl rfl) (Exists.intro 104 (And.intro rfl (And.intro (kc rfl rfl) (And.intro (ib_ok c15) (And.intro (kc rfl rfl) (And.intro (ib_ok c16) (And.intro (Nat.le_of_ble_eq_true rfl) (?_))))))))))))
      show Ev l d mi_X10_stands 114 [some (.ref 65), some (.int (x1 + Int32.ofInt 1))] [] (hp (uI s 104 (((Int8.ofInt 20).toInt32) + x1).toNatClampNeg (s.1 104 x1.toNatClampNeg))) 0 0 _
      rw [← hs17]
      refine Ev.goto (off := -24) (tgt := 90) (by decide +kernel) (by decide) ?_
      exact ih (x1 + Int32.ofInt 1) s17 _ hf
def f_X10_stands_L119 (k146 : ST → Option (ST)) : Nat → Int32 → ST → Option (ST)
  | 0, _, _ => none
  | n + 1, x1, s => (if ((Int8.ofInt 16).toInt32) ≤ x1 then k146 s else gd (ib x1 32) (gd (ib (((Int8.ofInt 16).toInt32) + x1) 32) (lt (uI s 105 (((Int8.ofInt 16).toInt32) + x1).toNatClampNeg (s.1 105 x1.toNatClampNeg)) (fun s21 => (f_X10_stands_L119 k146 n) (x1 + Int32.ofInt 1) s21))))
set_option maxHeartbeats 2000000 in
set_option maxRecDepth 20000 in
theorem e_X10_stands_L119 {l : Launch} {d : Nat} (hd : 1 ≤ d) (k146 : ST → Option (ST)) (hk146 : ∀ (s : ST) (r : ST), k146 s = some r → Ev l d mi_X10_stands 146 [some (.ref 65), none] [] (hp s) 0 0 (none, hp r)) : ∀ (n : Nat) (x1 : Int32) (s : ST) (r : ST), f_X10_stands_L119 k146 n x1 s = some r → Ev l d mi_X10_stands 119 [some (.ref 65), some (.int x1)] [] (hp s) 0 0 (none, hp r) := by
  intro n
  induction n with
  | zero =>
    intro x1 s r hf
    cases hf
  | succ n ih =>
    intro x1 s r hf
    unfold f_X10_stands_L119 at hf
    refine Ev.blk (pc' := 122) [(.iload_n 1, 0, 0, 0), (.bipush 16, 0, 0, 0)] (by decide +kernel) trivial rfl (?_)
    show Ev l d mi_X10_stands 122 [some (.ref 65), some (.int x1)] [.int ((Int8.ofInt 16).toInt32), .int x1] (hp s) 0 0 _
    refine Ev.icmp_ge (off := 24) (tgt := 146) (by decide +kernel) (by decide) (fun b18 => ?_) (fun b18 => ?_)
    · have hf := (if_pos b18).symm.trans hf
      exact Ev.wk (hk146 s _ hf) (And.intro (Or.inr rfl) (And.intro (Or.inl rfl) (trivial)))
    · have hf := (if_neg b18).symm.trans hf
      obtain ⟨c19, hf⟩ := gd_some hf
      obtain ⟨c20, hf⟩ := gd_some hf
      obtain ⟨s21, hs21, hf⟩ := lt_some hf
      refine Ev.blk (pc' := 143) [(.aload_n 0, 0, 0, 0), (.getfield 133, 0, 10, 49), (.bipush 16, 0, 0, 0), (.iload_n 1, 0, 0, 0), (.iadd, 0, 0, 0), (.aload_n 0, 0, 0, 0), (.getfield 133, 0, 10, 49), (.iload_n 1, 0, 0, 0), (.iaload, 0, 0, 0), (.iastore, 0, 0, 0), (.iinc 1 1, 0, 0, 0)] (by decide +kernel) ⟨kf_10_133, ⟨kf_10_133, trivial⟩⟩ rfl (And.intro (kc rfl rfl) (Exists.intro 105 (And.intro rfl (And.intro (kc rfl rfl) (Exists.intro 105 (And.intro rfl (And.intro (kc rfl rfl) (And.intro (ib_ok c19) (And.intro (kc rfl rfl) (And.intro (ib_ok c20) (And.intro (Nat.le_of_ble_eq_true rfl) (?_))))))))))))
      show Ev l d mi_X10_stands 143 [some (.ref 65), some (.int (x1 + Int32.ofInt 1))] [] (hp (uI s 105 (((Int8.ofInt 16).toInt32) + x1).toNatClampNeg (s.1 105 x1.toNatClampNeg))) 0 0 _
      rw [← hs21]
      refine Ev.goto (off := -24) (tgt := 119) (by decide +kernel) (by decide) ?_
      exact ih (x1 + Int32.ofInt 1) s21 _ hf
def f_X10_stands_L148 (k175 : ST → Option (ST)) : Nat → Int32 → ST → Option (ST)
  | 0, _, _ => none
  | n + 1, x1, s => (if ((Int8.ofInt 18).toInt32) ≤ x1 then k175 s else gd (ib x1 36) (gd (ib (((Int8.ofInt 18).toInt32) + x1) 36) (lt (uI s 107 (((Int8.ofInt 18).toInt32) + x1).toNatClampNeg (s.1 107 x1.toNatClampNeg)) (fun s25 => (f_X10_stands_L148 k175 n) (x1 + Int32.ofInt 1) s25))))
set_option maxHeartbeats 2000000 in
set_option maxRecDepth 20000 in
theorem e_X10_stands_L148 {l : Launch} {d : Nat} (hd : 1 ≤ d) (k175 : ST → Option (ST)) (hk175 : ∀ (s : ST) (r : ST), k175 s = some r → Ev l d mi_X10_stands 175 [some (.ref 65), none] [] (hp s) 0 0 (none, hp r)) : ∀ (n : Nat) (x1 : Int32) (s : ST) (r : ST), f_X10_stands_L148 k175 n x1 s = some r → Ev l d mi_X10_stands 148 [some (.ref 65), some (.int x1)] [] (hp s) 0 0 (none, hp r) := by
  intro n
  induction n with
  | zero =>
    intro x1 s r hf
    cases hf
  | succ n ih =>
    intro x1 s r hf
    unfold f_X10_stands_L148 at hf
    refine Ev.blk (pc' := 151) [(.iload_n 1, 0, 0, 0), (.bipush 18, 0, 0, 0)] (by decide +kernel) trivial rfl (?_)
    show Ev l d mi_X10_stands 151 [some (.ref 65), some (.int x1)] [.int ((Int8.ofInt 18).toInt32), .int x1] (hp s) 0 0 _
    refine Ev.icmp_ge (off := 24) (tgt := 175) (by decide +kernel) (by decide) (fun b22 => ?_) (fun b22 => ?_)
    · have hf := (if_pos b22).symm.trans hf
      exact Ev.wk (hk175 s _ hf) (And.intro (Or.inr rfl) (And.intro (Or.inl rfl) (trivial)))
    · have hf := (if_neg b22).symm.trans hf
      obtain ⟨c23, hf⟩ := gd_some hf
      obtain ⟨c24, hf⟩ := gd_some hf
      obtain ⟨s25, hs25, hf⟩ := lt_some hf
      refine Ev.blk (pc' := 172) [(.aload_n 0, 0, 0, 0), (.getfield 139, 0, 10, 51), (.bipush 18, 0, 0, 0), (.iload_n 1, 0, 0, 0), (.iadd, 0, 0, 0), (.aload_n 0, 0, 0, 0), (.getfield 139, 0, 10, 51), (.iload_n 1, 0, 0, 0), (.iaload, 0, 0, 0), (.iastore, 0, 0, 0), (.iinc 1 1, 0, 0, 0)] (by decide +kernel) ⟨kf_10_139, ⟨kf_10_139, trivial⟩⟩ rfl (And.intro (kc rfl rfl) (Exists.intro 107 (And.intro rfl (And.intro (kc rfl rfl) (Exists.intro 107 (And.intro rfl (And.intro (kc rfl rfl) (And.intro (ib_ok c23) (And.intro (kc rfl rfl) (And.intro (ib_ok c24) (And.intro (Nat.le_of_ble_eq_true rfl) (?_))))))))))))
      show Ev l d mi_X10_stands 172 [some (.ref 65), some (.int (x1 + Int32.ofInt 1))] [] (hp (uI s 107 (((Int8.ofInt 18).toInt32) + x1).toNatClampNeg (s.1 107 x1.toNatClampNeg))) 0 0 _
      rw [← hs25]
      refine Ev.goto (off := -24) (tgt := 148) (by decide +kernel) (by decide) ?_
      exact ih (x1 + Int32.ofInt 1) s25 _ hf
def f_X10_stands_L177 (k202 : ST → Option (ST)) : Nat → Int32 → ST → Option (ST)
  | 0, _, _ => none
  | n + 1, x1, s => (if (Int32.ofInt 2) ≤ x1 then k202 s else gd (ib x1 4) (gd (ib ((Int32.ofInt 2) + x1) 4) (lt (uI s 108 ((Int32.ofInt 2) + x1).toNatClampNeg (s.1 108 x1.toNatClampNeg)) (fun s29 => (f_X10_stands_L177 k202 n) (x1 + Int32.ofInt 1) s29))))
set_option maxHeartbeats 2000000 in
set_option maxRecDepth 20000 in
theorem e_X10_stands_L177 {l : Launch} {d : Nat} (hd : 1 ≤ d) (k202 : ST → Option (ST)) (hk202 : ∀ (s : ST) (r : ST), k202 s = some r → Ev l d mi_X10_stands 202 [some (.ref 65), none] [] (hp s) 0 0 (none, hp r)) : ∀ (n : Nat) (x1 : Int32) (s : ST) (r : ST), f_X10_stands_L177 k202 n x1 s = some r → Ev l d mi_X10_stands 177 [some (.ref 65), some (.int x1)] [] (hp s) 0 0 (none, hp r) := by
  intro n
  induction n with
  | zero =>
    intro x1 s r hf
    cases hf
  | succ n ih =>
    intro x1 s r hf
    unfold f_X10_stands_L177 at hf
    refine Ev.blk (pc' := 179) [(.iload_n 1, 0, 0, 0), (.iconst 2, 0, 0, 0)] (by decide +kernel) trivial rfl (?_)
    show Ev l d mi_X10_stands 179 [some (.ref 65), some (.int x1)] [.int (Int32.ofInt 2), .int x1] (hp s) 0 0 _
    refine Ev.icmp_ge (off := 23) (tgt := 202) (by decide +kernel) (by decide) (fun b26 => ?_) (fun b26 => ?_)
    · have hf := (if_pos b26).symm.trans hf
      exact Ev.wk (hk202 s _ hf) (And.intro (Or.inr rfl) (And.intro (Or.inl rfl) (trivial)))
    · have hf := (if_neg b26).symm.trans hf
      obtain ⟨c27, hf⟩ := gd_some hf
      obtain ⟨c28, hf⟩ := gd_some hf
      obtain ⟨s29, hs29, hf⟩ := lt_some hf
      refine Ev.blk (pc' := 199) [(.aload_n 0, 0, 0, 0), (.getfield 142, 0, 10, 52), (.iconst 2, 0, 0, 0), (.iload_n 1, 0, 0, 0), (.iadd, 0, 0, 0), (.aload_n 0, 0, 0, 0), (.getfield 142, 0, 10, 52), (.iload_n 1, 0, 0, 0), (.iaload, 0, 0, 0), (.iastore, 0, 0, 0), (.iinc 1 1, 0, 0, 0)] (by decide +kernel) ⟨kf_10_142, ⟨kf_10_142, trivial⟩⟩ rfl (And.intro (kc rfl rfl) (Exists.intro 108 (And.intro rfl (And.intro (kc rfl rfl) (Exists.intro 108 (And.intro rfl (And.intro (kc rfl rfl) (And.intro (ib_ok c27) (And.intro (kc rfl rfl) (And.intro (ib_ok c28) (And.intro (Nat.le_of_ble_eq_true rfl) (?_))))))))))))
      show Ev l d mi_X10_stands 199 [some (.ref 65), some (.int (x1 + Int32.ofInt 1))] [] (hp (uI s 108 ((Int32.ofInt 2) + x1).toNatClampNeg (s.1 108 x1.toNatClampNeg))) 0 0 _
      rw [← hs29]
      refine Ev.goto (off := -22) (tgt := 177) (by decide +kernel) (by decide) ?_
      exact ih (x1 + Int32.ofInt 1) s29 _ hf
def f_X10_stands_L228 (k258 : ST → Option (ST)) : Nat → Int32 → ST → Option (ST)
  | 0, _, _ => none
  | n + 1, x1, s => (if (s.1 65 56) ≤ x1 then k258 s else gd (ib x1 3200) (gd (ib (((Int16.ofInt 1600).toInt32) + x1) 3200) (lt (uI s 111 (((Int16.ofInt 1600).toInt32) + x1).toNatClampNeg (s.1 111 x1.toNatClampNeg)) (fun s38 => (f_X10_stands_L228 k258 n) (x1 + Int32.ofInt 1) s38))))
set_option maxHeartbeats 2000000 in
set_option maxRecDepth 20000 in
theorem e_X10_stands_L228 {l : Launch} {d : Nat} (hd : 1 ≤ d) (k258 : ST → Option (ST)) (hk258 : ∀ (s : ST) (r : ST), k258 s = some r → Ev l d mi_X10_stands 258 [some (.ref 65), none] [] (hp s) 0 0 (none, hp r)) : ∀ (n : Nat) (x1 : Int32) (s : ST) (r : ST), f_X10_stands_L228 k258 n x1 s = some r → Ev l d mi_X10_stands 228 [some (.ref 65), some (.int x1)] [] (hp s) 0 0 (none, hp r) := by
  intro n
  induction n with
  | zero =>
    intro x1 s r hf
    cases hf
  | succ n ih =>
    intro x1 s r hf
    unfold f_X10_stands_L228 at hf
    refine Ev.blk (pc' := 233) [(.iload_n 1, 0, 0, 0), (.aload_n 0, 0, 0, 0), (.getfield 394, 0, 10, 56)] (by decide +kernel) ⟨kf_10_394, trivial⟩ rfl (And.intro (kc rfl rfl) (?_))
    show Ev l d mi_X10_stands 233 [some (.ref 65), some (.int x1)] [.int (s.1 65 56), .int x1] (hp s) 0 0 _
    refine Ev.icmp_ge (off := 25) (tgt := 258) (by decide +kernel) (by decide) (fun b35 => ?_) (fun b35 => ?_)
    · have hf := (if_pos b35).symm.trans hf
      exact Ev.wk (hk258 s _ hf) (And.intro (Or.inr rfl) (And.intro (Or.inl rfl) (trivial)))
    · have hf := (if_neg b35).symm.trans hf
      obtain ⟨c36, hf⟩ := gd_some hf
      obtain ⟨c37, hf⟩ := gd_some hf
      obtain ⟨s38, hs38, hf⟩ := lt_some hf
      refine Ev.blk (pc' := 255) [(.aload_n 0, 0, 0, 0), (.getfield 151, 0, 10, 55), (.sipush 1600, 0, 0, 0), (.iload_n 1, 0, 0, 0), (.iadd, 0, 0, 0), (.aload_n 0, 0, 0, 0), (.getfield 151, 0, 10, 55), (.iload_n 1, 0, 0, 0), (.iaload, 0, 0, 0), (.iastore, 0, 0, 0), (.iinc 1 1, 0, 0, 0)] (by decide +kernel) ⟨kf_10_151, ⟨kf_10_151, trivial⟩⟩ rfl (And.intro (kc rfl rfl) (Exists.intro 111 (And.intro rfl (And.intro (kc rfl rfl) (Exists.intro 111 (And.intro rfl (And.intro (kc rfl rfl) (And.intro (ib_ok c36) (And.intro (kc rfl rfl) (And.intro (ib_ok c37) (And.intro (Nat.le_of_ble_eq_true rfl) (?_))))))))))))
      show Ev l d mi_X10_stands 255 [some (.ref 65), some (.int (x1 + Int32.ofInt 1))] [] (hp (uI s 111 (((Int16.ofInt 1600).toInt32) + x1).toNatClampNeg (s.1 111 x1.toNatClampNeg))) 0 0 _
      rw [← hs38]
      refine Ev.goto (off := -27) (tgt := 228) (by decide +kernel) (by decide) ?_
      exact ih (x1 + Int32.ofInt 1) s38 _ hf
def f_X10_stands_L260 (k280 : ST → Option (ST)) : Nat → Int32 → ST → Option (ST)
  | 0, _, _ => none
  | n + 1, x1, s => (if ((Int16.ofInt 225).toInt32) ≤ x1 then k280 s else gd (ib x1 225) (lt (uI s 112 x1.toNatClampNeg (Int32.ofInt 0)) (fun s41 => (f_X10_stands_L260 k280 n) (x1 + Int32.ofInt 1) s41)))
set_option maxHeartbeats 2000000 in
set_option maxRecDepth 20000 in
theorem e_X10_stands_L260 {l : Launch} {d : Nat} (hd : 1 ≤ d) (k280 : ST → Option (ST)) (hk280 : ∀ (s : ST) (r : ST), k280 s = some r → Ev l d mi_X10_stands 280 [some (.ref 65), none] [] (hp s) 0 0 (none, hp r)) : ∀ (n : Nat) (x1 : Int32) (s : ST) (r : ST), f_X10_stands_L260 k280 n x1 s = some r → Ev l d mi_X10_stands 260 [some (.ref 65), some (.int x1)] [] (hp s) 0 0 (none, hp r) := by
  intro n
  induction n with
  | zero =>
    intro x1 s r hf
    cases hf
  | succ n ih =>
    intro x1 s r hf
    unfold f_X10_stands_L260 at hf
    refine Ev.blk (pc' := 264) [(.iload_n 1, 0, 0, 0), (.sipush 225, 0, 0, 0)] (by decide +kernel) trivial rfl (?_)
    show Ev l d mi_X10_stands 264 [some (.ref 65), some (.int x1)] [.int ((Int16.ofInt 225).toInt32), .int x1] (hp s) 0 0 _
    refine Ev.icmp_ge (off := 16) (tgt := 280) (by decide +kernel) (by decide) (fun b39 => ?_) (fun b39 => ?_)
    · have hf := (if_pos b39).symm.trans hf
      exact Ev.wk (hk280 s _ hf) (And.intro (Or.inr rfl) (And.intro (Or.inl rfl) (trivial)))
    · have hf := (if_neg b39).symm.trans hf
      obtain ⟨c40, hf⟩ := gd_some hf
      obtain ⟨s41, hs41, hf⟩ := lt_some hf
      refine Ev.blk (pc' := 277) [(.aload_n 0, 0, 0, 0), (.getfield 154, 0, 10, 62), (.iload_n 1, 0, 0, 0), (.iconst 0, 0, 0, 0), (.iastore, 0, 0, 0), (.iinc 1 1, 0, 0, 0)] (by decide +kernel) ⟨kf_10_154, trivial⟩ rfl (And.intro (kc rfl rfl) (Exists.intro 112 (And.intro rfl (And.intro (kc rfl rfl) (And.intro (ib_ok c40) (And.intro (Nat.le_of_ble_eq_true rfl) (?_)))))))
      show Ev l d mi_X10_stands 277 [some (.ref 65), some (.int (x1 + Int32.ofInt 1))] [] (hp (uI s 112 x1.toNatClampNeg (Int32.ofInt 0))) 0 0 _
      rw [← hs41]
      refine Ev.goto (off := -17) (tgt := 260) (by decide +kernel) (by decide) ?_
      exact ih (x1 + Int32.ofInt 1) s41 _ hf
def f_X10_stands_L282 (k314 : ST → Option (ST)) : Nat → Int32 → ST → Option (ST)
  | 0, _, _ => none
  | n + 1, x1, s => gd (ib (Int32.ofInt 1) 6) ((if ((Int32.ofInt 2) * (s.1 101 (Int32.ofInt 1).toNatClampNeg)) ≤ x1 then k314 s else gd (ib x1 16) (gd (ib ((Int32.ofInt 2) + x1) 225) (lt (uI s 112 ((Int32.ofInt 2) + x1).toNatClampNeg (s.1 106 x1.toNatClampNeg)) (fun s46 => (f_X10_stands_L282 k314 n) (x1 + Int32.ofInt 1) s46)))))
set_option maxHeartbeats 2000000 in
set_option maxRecDepth 20000 in
theorem e_X10_stands_L282 {l : Launch} {d : Nat} (hd : 1 ≤ d) (k314 : ST → Option (ST)) (hk314 : ∀ (s : ST) (r : ST), k314 s = some r → Ev l d mi_X10_stands 314 [some (.ref 65), none] [] (hp s) 0 0 (none, hp r)) : ∀ (n : Nat) (x1 : Int32) (s : ST) (r : ST), f_X10_stands_L282 k314 n x1 s = some r → Ev l d mi_X10_stands 282 [some (.ref 65), some (.int x1)] [] (hp s) 0 0 (none, hp r) := by
  intro n
  induction n with
  | zero =>
    intro x1 s r hf
    cases hf
  | succ n ih =>
    intro x1 s r hf
    unfold f_X10_stands_L282 at hf
    obtain ⟨c42, hf⟩ := gd_some hf
    refine Ev.blk (pc' := 291) [(.iload_n 1, 0, 0, 0), (.iconst 2, 0, 0, 0), (.aload_n 0, 0, 0, 0), (.getfield 120, 0, 10, 45), (.iconst 1, 0, 0, 0), (.iaload, 0, 0, 0), (.imul, 0, 0, 0)] (by decide +kernel) ⟨kf_10_120, trivial⟩ rfl (And.intro (kc rfl rfl) (Exists.intro 101 (And.intro rfl (And.intro (kc rfl rfl) (And.intro (ib_ok c42) (?_))))))
    show Ev l d mi_X10_stands 291 [some (.ref 65), some (.int x1)] [.int ((Int32.ofInt 2) * (s.1 101 (Int32.ofInt 1).toNatClampNeg)), .int x1] (hp s) 0 0 _
    refine Ev.icmp_ge (off := 23) (tgt := 314) (by decide +kernel) (by decide) (fun b43 => ?_) (fun b43 => ?_)
    · have hf := (if_pos b43).symm.trans hf
      exact Ev.wk (hk314 s _ hf) (And.intro (Or.inr rfl) (And.intro (Or.inl rfl) (trivial)))
    · have hf := (if_neg b43).symm.trans hf
      obtain ⟨c44, hf⟩ := gd_some hf
      obtain ⟨c45, hf⟩ := gd_some hf
      obtain ⟨s46, hs46, hf⟩ := lt_some hf
      refine Ev.blk (pc' := 311) [(.aload_n 0, 0, 0, 0), (.getfield 154, 0, 10, 62), (.iconst 2, 0, 0, 0), (.iload_n 1, 0, 0, 0), (.iadd, 0, 0, 0), (.aload_n 0, 0, 0, 0), (.getfield 136, 0, 10, 50), (.iload_n 1, 0, 0, 0), (.iaload, 0, 0, 0), (.iastore, 0, 0, 0), (.iinc 1 1, 0, 0, 0)] (by decide +kernel) ⟨kf_10_154, ⟨kf_10_136, trivial⟩⟩ rfl (And.intro (kc rfl rfl) (Exists.intro 112 (And.intro rfl (And.intro (kc rfl rfl) (Exists.intro 106 (And.intro rfl (And.intro (kc rfl rfl) (And.intro (ib_ok c44) (And.intro (kc rfl rfl) (And.intro (ib_ok c45) (And.intro (Nat.le_of_ble_eq_true rfl) (?_))))))))))))
      show Ev l d mi_X10_stands 311 [some (.ref 65), some (.int (x1 + Int32.ofInt 1))] [] (hp (uI s 112 ((Int32.ofInt 2) + x1).toNatClampNeg (s.1 106 x1.toNatClampNeg))) 0 0 _
      rw [← hs46]
      refine Ev.goto (off := -29) (tgt := 282) (by decide +kernel) (by decide) ?_
      exact ih (x1 + Int32.ofInt 1) s46 _ hf
def f_X10_stands_L316 (k351 : ST → Option (ST)) : Nat → Int32 → ST → Option (ST)
  | 0, _, _ => none
  | n + 1, x1, s => gd (ib (Int32.ofInt 2) 6) ((if (s.1 101 (Int32.ofInt 2).toNatClampNeg) ≤ x1 then k351 s else gd (ib (((Int32.ofInt 3) * x1) + (Int32.ofInt 2)) 36) (gd (ib (((Int8.ofInt 18).toInt32) + x1) 225) (lt (uI s 112 (((Int8.ofInt 18).toInt32) + x1).toNatClampNeg (s.1 107 (((Int32.ofInt 3) * x1) + (Int32.ofInt 2)).toNatClampNeg)) (fun s51 => (f_X10_stands_L316 k351 n) (x1 + Int32.ofInt 1) s51)))))
set_option maxHeartbeats 2000000 in
set_option maxRecDepth 20000 in
theorem e_X10_stands_L316 {l : Launch} {d : Nat} (hd : 1 ≤ d) (k351 : ST → Option (ST)) (hk351 : ∀ (s : ST) (r : ST), k351 s = some r → Ev l d mi_X10_stands 351 [some (.ref 65), none] [] (hp s) 0 0 (none, hp r)) : ∀ (n : Nat) (x1 : Int32) (s : ST) (r : ST), f_X10_stands_L316 k351 n x1 s = some r → Ev l d mi_X10_stands 316 [some (.ref 65), some (.int x1)] [] (hp s) 0 0 (none, hp r) := by
  intro n
  induction n with
  | zero =>
    intro x1 s r hf
    cases hf
  | succ n ih =>
    intro x1 s r hf
    unfold f_X10_stands_L316 at hf
    obtain ⟨c47, hf⟩ := gd_some hf
    refine Ev.blk (pc' := 323) [(.iload_n 1, 0, 0, 0), (.aload_n 0, 0, 0, 0), (.getfield 120, 0, 10, 45), (.iconst 2, 0, 0, 0), (.iaload, 0, 0, 0)] (by decide +kernel) ⟨kf_10_120, trivial⟩ rfl (And.intro (kc rfl rfl) (Exists.intro 101 (And.intro rfl (And.intro (kc rfl rfl) (And.intro (ib_ok c47) (?_))))))
    show Ev l d mi_X10_stands 323 [some (.ref 65), some (.int x1)] [.int (s.1 101 (Int32.ofInt 2).toNatClampNeg), .int x1] (hp s) 0 0 _
    refine Ev.icmp_ge (off := 28) (tgt := 351) (by decide +kernel) (by decide) (fun b48 => ?_) (fun b48 => ?_)
    · have hf := (if_pos b48).symm.trans hf
      exact Ev.wk (hk351 s _ hf) (And.intro (Or.inr rfl) (And.intro (Or.inl rfl) (trivial)))
    · have hf := (if_neg b48).symm.trans hf
      obtain ⟨c49, hf⟩ := gd_some hf
      obtain ⟨c50, hf⟩ := gd_some hf
      obtain ⟨s51, hs51, hf⟩ := lt_some hf
      refine Ev.blk (pc' := 348) [(.aload_n 0, 0, 0, 0), (.getfield 154, 0, 10, 62), (.bipush 18, 0, 0, 0), (.iload_n 1, 0, 0, 0), (.iadd, 0, 0, 0), (.aload_n 0, 0, 0, 0), (.getfield 139, 0, 10, 51), (.iconst 3, 0, 0, 0), (.iload_n 1, 0, 0, 0), (.imul, 0, 0, 0), (.iconst 2, 0, 0, 0), (.iadd, 0, 0, 0), (.iaload, 0, 0, 0), (.iastore, 0, 0, 0), (.iinc 1 1, 0, 0, 0)] (by decide +kernel) ⟨kf_10_154, ⟨kf_10_139, trivial⟩⟩ rfl (And.intro (kc rfl rfl) (Exists.intro 112 (And.intro rfl (And.intro (kc rfl rfl) (Exists.intro 107 (And.intro rfl (And.intro (kc rfl rfl) (And.intro (ib_ok c49) (And.intro (kc rfl rfl) (And.intro (ib_ok c50) (And.intro (Nat.le_of_ble_eq_true rfl) (?_))))))))))))
      show Ev l d mi_X10_stands 348 [some (.ref 65), some (.int (x1 + Int32.ofInt 1))] [] (hp (uI s 112 (((Int8.ofInt 18).toInt32) + x1).toNatClampNeg (s.1 107 (((Int32.ofInt 3) * x1) + (Int32.ofInt 2)).toNatClampNeg))) 0 0 _
      rw [← hs51]
      refine Ev.goto (off := -32) (tgt := 316) (by decide +kernel) (by decide) ?_
      exact ih (x1 + Int32.ofInt 1) s51 _ hf
def f_X10_stands_j351 (s : ST) : Option (ST) := lt (uI (uI s 65 84 (Int32.ofInt 0)) 65 80 (Int32.ofInt 0)) (fun s52 => some s52)
set_option maxHeartbeats 2000000 in
set_option maxRecDepth 20000 in
theorem e_X10_stands_j351 {l : Launch} {d : Nat} (hd : 1 ≤ d) (s : ST) (r : ST) (hf : f_X10_stands_j351 s = some r) : Ev l d mi_X10_stands 351 [some (.ref 65), none] [] (hp s) 0 0 (none, hp r) := by
  unfold f_X10_stands_j351 at hf
  obtain ⟨s52, hs52, hf⟩ := lt_some hf
  refine Ev.blk (pc' := 361) [(.aload_n 0, 0, 0, 0), (.iconst 0, 0, 0, 0), (.putfield 427, 0, 10, 84), (.aload_n 0, 0, 0, 0), (.iconst 0, 0, 0, 0), (.putfield 430, 0, 10, 80)] (by decide +kernel) ⟨⟨kf_10_427, Or.inl rfl⟩, ⟨⟨kf_10_430, Or.inl rfl⟩, trivial⟩⟩ rfl (And.intro (kc rfl rfl) (And.intro (kc rfl rfl) (?_)))
  show Ev l d mi_X10_stands 361 [some (.ref 65), none] [] (hp (uI (uI s 65 84 (Int32.ofInt 0)) 65 80 (Int32.ofInt 0))) 0 0 _
  rw [← hs52]
  cases hf
  exact Ev.vret rfl (by decide +kernel) (Nat.le_refl _) (Nat.le_refl _)
def f_X10_stands_j314 (s : ST) : Option (ST) := (f_X10_stands_L316 f_X10_stands_j351 fuel) (Int32.ofInt 0) s
set_option maxHeartbeats 2000000 in
set_option maxRecDepth 20000 in
theorem e_X10_stands_j314 {l : Launch} {d : Nat} (hd : 1 ≤ d) (s : ST) (r : ST) (hf : f_X10_stands_j314 s = some r) : Ev l d mi_X10_stands 314 [some (.ref 65), none] [] (hp s) 0 0 (none, hp r) := by
  unfold f_X10_stands_j314 at hf
  refine Ev.blk (pc' := 316) [(.iconst 0, 0, 0, 0), (.istore_n 1, 0, 0, 0)] (by decide +kernel) trivial rfl (And.intro (Nat.le_of_ble_eq_true rfl) (?_))
  show Ev l d mi_X10_stands 316 [some (.ref 65), some (.int (Int32.ofInt 0))] [] (hp s) 0 0 _
  exact (e_X10_stands_L316 hd f_X10_stands_j351 (e_X10_stands_j351 hd) fuel) (Int32.ofInt 0) s _ hf
def f_X10_stands_j280 (s : ST) : Option (ST) := (f_X10_stands_L282 f_X10_stands_j314 fuel) (Int32.ofInt 0) s
set_option maxHeartbeats 2000000 in
set_option maxRecDepth 20000 in
theorem e_X10_stands_j280 {l : Launch} {d : Nat} (hd : 1 ≤ d) (s : ST) (r : ST) (hf : f_X10_stands_j280 s = some r) : Ev l d mi_X10_stands 280 [some (.ref 65), none] [] (hp s) 0 0 (none, hp r) := by
  unfold f_X10_stands_j280 at hf
  refine Ev.blk (pc' := 282) [(.iconst 0, 0, 0, 0), (.istore_n 1, 0, 0, 0)] (by decide +kernel) trivial rfl (And.intro (Nat.le_of_ble_eq_true rfl) (?_))
  show Ev l d mi_X10_stands 282 [some (.ref 65), some (.int (Int32.ofInt 0))] [] (hp s) 0 0 _
  exact (e_X10_stands_L282 hd f_X10_stands_j314 (e_X10_stands_j314 hd) fuel) (Int32.ofInt 0) s _ hf
def f_X10_stands_j258 (s : ST) : Option (ST) := (f_X10_stands_L260 f_X10_stands_j280 fuel) (Int32.ofInt 0) s
set_option maxHeartbeats 2000000 in
set_option maxRecDepth 20000 in
theorem e_X10_stands_j258 {l : Launch} {d : Nat} (hd : 1 ≤ d) (s : ST) (r : ST) (hf : f_X10_stands_j258 s = some r) : Ev l d mi_X10_stands 258 [some (.ref 65), none] [] (hp s) 0 0 (none, hp r) := by
  unfold f_X10_stands_j258 at hf
  refine Ev.blk (pc' := 260) [(.iconst 0, 0, 0, 0), (.istore_n 1, 0, 0, 0)] (by decide +kernel) trivial rfl (And.intro (Nat.le_of_ble_eq_true rfl) (?_))
  show Ev l d mi_X10_stands 260 [some (.ref 65), some (.int (Int32.ofInt 0))] [] (hp s) 0 0 _
  exact (e_X10_stands_L260 hd f_X10_stands_j280 (e_X10_stands_j280 hd) fuel) (Int32.ofInt 0) s _ hf
def f_X10_stands_j202 (s : ST) : Option (ST) := gd (ib (Int32.ofInt 0) 2) (gd (ib (Int32.ofInt 1) 2) (gd (ib (Int32.ofInt 0) 2) (gd (ib (Int32.ofInt 1) 2) (lt (uI (uI s 109 (Int32.ofInt 1).toNatClampNeg (s.1 109 (Int32.ofInt 0).toNatClampNeg)) 110 (Int32.ofInt 1).toNatClampNeg ((uI s 109 (Int32.ofInt 1).toNatClampNeg (s.1 109 (Int32.ofInt 0).toNatClampNeg)).1 110 (Int32.ofInt 0).toNatClampNeg)) (fun s34 => (f_X10_stands_L228 f_X10_stands_j258 fuel) (Int32.ofInt 0) s34)))))
set_option maxHeartbeats 2000000 in
set_option maxRecDepth 20000 in
theorem e_X10_stands_j202 {l : Launch} {d : Nat} (hd : 1 ≤ d) (s : ST) (r : ST) (hf : f_X10_stands_j202 s = some r) : Ev l d mi_X10_stands 202 [some (.ref 65), none] [] (hp s) 0 0 (none, hp r) := by
  unfold f_X10_stands_j202 at hf
  obtain ⟨c30, hf⟩ := gd_some hf
  obtain ⟨c31, hf⟩ := gd_some hf
  obtain ⟨c32, hf⟩ := gd_some hf
  obtain ⟨c33, hf⟩ := gd_some hf
  obtain ⟨s34, hs34, hf⟩ := lt_some hf
  refine Ev.blk (pc' := 228) [(.aload_n 0, 0, 0, 0), (.getfield 145, 0, 10, 53), (.iconst 1, 0, 0, 0), (.aload_n 0, 0, 0, 0), (.getfield 145, 0, 10, 53), (.iconst 0, 0, 0, 0), (.iaload, 0, 0, 0), (.iastore, 0, 0, 0), (.aload_n 0, 0, 0, 0), (.getfield 148, 0, 10, 54), (.iconst 1, 0, 0, 0), (.aload_n 0, 0, 0, 0), (.getfield 148, 0, 10, 54), (.iconst 0, 0, 0, 0), (.iaload, 0, 0, 0), (.iastore, 0, 0, 0), (.iconst 0, 0, 0, 0), (.istore_n 1, 0, 0, 0)] (by decide +kernel) ⟨kf_10_145, ⟨kf_10_145, ⟨kf_10_148, ⟨kf_10_148, trivial⟩⟩⟩⟩ rfl (And.intro (kc rfl rfl) (Exists.intro 109 (And.intro rfl (And.intro (kc rfl rfl) (Exists.intro 109 (And.intro rfl (And.intro (kc rfl rfl) (And.intro (ib_ok c30) (And.intro (kc rfl rfl) (And.intro (ib_ok c31) (And.intro (kc rfl rfl) (Exists.intro 110 (And.intro rfl (And.intro (kc rfl rfl) (Exists.intro 110 (And.intro rfl (And.intro (kc rfl rfl) (And.intro (ib_ok c32) (And.intro (kc rfl rfl) (And.intro (ib_ok c33) (And.intro (Nat.le_of_ble_eq_true rfl) (?_))))))))))))))))))))))
  show Ev l d mi_X10_stands 228 [some (.ref 65), some (.int (Int32.ofInt 0))] [] (hp (uI (uI s 109 (Int32.ofInt 1).toNatClampNeg (s.1 109 (Int32.ofInt 0).toNatClampNeg)) 110 (Int32.ofInt 1).toNatClampNeg ((uI s 109 (Int32.ofInt 1).toNatClampNeg (s.1 109 (Int32.ofInt 0).toNatClampNeg)).1 110 (Int32.ofInt 0).toNatClampNeg))) 0 0 _
  rw [← hs34]
  exact (e_X10_stands_L228 hd f_X10_stands_j258 (e_X10_stands_j258 hd) fuel) (Int32.ofInt 0) s34 _ hf
def f_X10_stands_j175 (s : ST) : Option (ST) := (f_X10_stands_L177 f_X10_stands_j202 fuel) (Int32.ofInt 0) s
set_option maxHeartbeats 2000000 in
set_option maxRecDepth 20000 in
theorem e_X10_stands_j175 {l : Launch} {d : Nat} (hd : 1 ≤ d) (s : ST) (r : ST) (hf : f_X10_stands_j175 s = some r) : Ev l d mi_X10_stands 175 [some (.ref 65), none] [] (hp s) 0 0 (none, hp r) := by
  unfold f_X10_stands_j175 at hf
  refine Ev.blk (pc' := 177) [(.iconst 0, 0, 0, 0), (.istore_n 1, 0, 0, 0)] (by decide +kernel) trivial rfl (And.intro (Nat.le_of_ble_eq_true rfl) (?_))
  show Ev l d mi_X10_stands 177 [some (.ref 65), some (.int (Int32.ofInt 0))] [] (hp s) 0 0 _
  exact (e_X10_stands_L177 hd f_X10_stands_j202 (e_X10_stands_j202 hd) fuel) (Int32.ofInt 0) s _ hf
def f_X10_stands_j146 (s : ST) : Option (ST) := (f_X10_stands_L148 f_X10_stands_j175 fuel) (Int32.ofInt 0) s
set_option maxHeartbeats 2000000 in
set_option maxRecDepth 20000 in
theorem e_X10_stands_j146 {l : Launch} {d : Nat} (hd : 1 ≤ d) (s : ST) (r : ST) (hf : f_X10_stands_j146 s = some r) : Ev l d mi_X10_stands 146 [some (.ref 65), none] [] (hp s) 0 0 (none, hp r) := by
  unfold f_X10_stands_j146 at hf
  refine Ev.blk (pc' := 148) [(.iconst 0, 0, 0, 0), (.istore_n 1, 0, 0, 0)] (by decide +kernel) trivial rfl (And.intro (Nat.le_of_ble_eq_true rfl) (?_))
  show Ev l d mi_X10_stands 148 [some (.ref 65), some (.int (Int32.ofInt 0))] [] (hp s) 0 0 _
  exact (e_X10_stands_L148 hd f_X10_stands_j175 (e_X10_stands_j175 hd) fuel) (Int32.ofInt 0) s _ hf
def f_X10_stands_j117 (s : ST) : Option (ST) := (f_X10_stands_L119 f_X10_stands_j146 fuel) (Int32.ofInt 0) s
set_option maxHeartbeats 2000000 in
set_option maxRecDepth 20000 in
theorem e_X10_stands_j117 {l : Launch} {d : Nat} (hd : 1 ≤ d) (s : ST) (r : ST) (hf : f_X10_stands_j117 s = some r) : Ev l d mi_X10_stands 117 [some (.ref 65), none] [] (hp s) 0 0 (none, hp r) := by
  unfold f_X10_stands_j117 at hf
  refine Ev.blk (pc' := 119) [(.iconst 0, 0, 0, 0), (.istore_n 1, 0, 0, 0)] (by decide +kernel) trivial rfl (And.intro (Nat.le_of_ble_eq_true rfl) (?_))
  show Ev l d mi_X10_stands 119 [some (.ref 65), some (.int (Int32.ofInt 0))] [] (hp s) 0 0 _
  exact (e_X10_stands_L119 hd f_X10_stands_j146 (e_X10_stands_j146 hd) fuel) (Int32.ofInt 0) s _ hf
def f_X10_stands_j88 (s : ST) : Option (ST) := (f_X10_stands_L90 f_X10_stands_j117 fuel) (Int32.ofInt 0) s
set_option maxHeartbeats 2000000 in
set_option maxRecDepth 20000 in
theorem e_X10_stands_j88 {l : Launch} {d : Nat} (hd : 1 ≤ d) (s : ST) (r : ST) (hf : f_X10_stands_j88 s = some r) : Ev l d mi_X10_stands 88 [some (.ref 65), none] [] (hp s) 0 0 (none, hp r) := by
  unfold f_X10_stands_j88 at hf
  refine Ev.blk (pc' := 90) [(.iconst 0, 0, 0, 0), (.istore_n 1, 0, 0, 0)] (by decide +kernel) trivial rfl (And.intro (Nat.le_of_ble_eq_true rfl) (?_))
  show Ev l d mi_X10_stands 90 [some (.ref 65), some (.int (Int32.ofInt 0))] [] (hp s) 0 0 _
  exact (e_X10_stands_L90 hd f_X10_stands_j117 (e_X10_stands_j117 hd) fuel) (Int32.ofInt 0) s _ hf
def f_X10_stands_j61 (s : ST) : Option (ST) := (f_X10_stands_L63 f_X10_stands_j88 fuel) (Int32.ofInt 0) s
set_option maxHeartbeats 2000000 in
set_option maxRecDepth 20000 in
theorem e_X10_stands_j61 {l : Launch} {d : Nat} (hd : 1 ≤ d) (s : ST) (r : ST) (hf : f_X10_stands_j61 s = some r) : Ev l d mi_X10_stands 61 [some (.ref 65), none] [] (hp s) 0 0 (none, hp r) := by
  unfold f_X10_stands_j61 at hf
  refine Ev.blk (pc' := 63) [(.iconst 0, 0, 0, 0), (.istore_n 1, 0, 0, 0)] (by decide +kernel) trivial rfl (And.intro (Nat.le_of_ble_eq_true rfl) (?_))
  show Ev l d mi_X10_stands 63 [some (.ref 65), some (.int (Int32.ofInt 0))] [] (hp s) 0 0 _
  exact (e_X10_stands_L63 hd f_X10_stands_j88 (e_X10_stands_j88 hd) fuel) (Int32.ofInt 0) s _ hf
def f_X10_stands_j32 (s : ST) : Option (ST) := (f_X10_stands_L34 f_X10_stands_j61 fuel) (Int32.ofInt 0) s
set_option maxHeartbeats 2000000 in
set_option maxRecDepth 20000 in
theorem e_X10_stands_j32 {l : Launch} {d : Nat} (hd : 1 ≤ d) (s : ST) (r : ST) (hf : f_X10_stands_j32 s = some r) : Ev l d mi_X10_stands 32 [some (.ref 65), none] [] (hp s) 0 0 (none, hp r) := by
  unfold f_X10_stands_j32 at hf
  refine Ev.blk (pc' := 34) [(.iconst 0, 0, 0, 0), (.istore_n 1, 0, 0, 0)] (by decide +kernel) trivial rfl (And.intro (Nat.le_of_ble_eq_true rfl) (?_))
  show Ev l d mi_X10_stands 34 [some (.ref 65), some (.int (Int32.ofInt 0))] [] (hp s) 0 0 _
  exact (e_X10_stands_L34 hd f_X10_stands_j61 (e_X10_stands_j61 hd) fuel) (Int32.ofInt 0) s _ hf
def f_X10_stands (s : ST) : Option (ST) := lt (uI s 65 58 (Int32.ofInt 1)) (fun s1 => (f_X10_stands_L7 f_X10_stands_j32 fuel) (Int32.ofInt 0) s1)
set_option maxHeartbeats 2000000 in
set_option maxRecDepth 20000 in
theorem e_X10_stands {l : Launch} {d : Nat} (hd : 1 ≤ d) (s : ST) (r : ST) (hf : f_X10_stands s = some r) : Cl l d mi_X10_stands [.ref 65] (hp s) (none, hp r) := by
  refine Ev.entry (by decide +kernel) rfl rfl ?_
  show Ev l d mi_X10_stands 0 [some (.ref 65), none] [] (hp s) 0 0 _
  unfold f_X10_stands at hf
  obtain ⟨s1, hs1, hf⟩ := lt_some hf
  refine Ev.blk (pc' := 7) [(.aload_n 0, 0, 0, 0), (.iconst 1, 0, 0, 0), (.putfield 424, 0, 10, 58), (.iconst 0, 0, 0, 0), (.istore_n 1, 0, 0, 0)] (by decide +kernel) ⟨⟨kf_10_424, Or.inl rfl⟩, trivial⟩ rfl (And.intro (kc rfl rfl) (And.intro (Or.inr rfl) (And.intro (Nat.le_of_ble_eq_true rfl) (?_))))
  show Ev l d mi_X10_stands 7 [some (.ref 65), some (.int (Int32.ofInt 0))] [] (hp (uI s 65 58 (Int32.ofInt 1))) 0 0 _
  rw [← hs1]
  exact (e_X10_stands_L7 hd f_X10_stands_j32 (e_X10_stands_j32 hd) fuel) (Int32.ofInt 0) s1 _ hf
def f_X10_board_L40 (k58 : ST → Option (Int32 × ST)) : Nat → Int32 → ST → Option (Int32 × ST)
  | 0, _, _ => none
  | n + 1, x1, s => (if (Int32.ofInt 3) ≤ x1 then k58 s else gd (ib x1 6) (lt (uI s 101 x1.toNatClampNeg (Int32.ofInt 0)) (fun s4 => (f_X10_board_L40 k58 n) (x1 + Int32.ofInt 1) s4)))
set_option maxHeartbeats 2000000 in
set_option maxRecDepth 20000 in
theorem e_X10_board_L40 {l : Launch} {d : Nat} (hd : 10 ≤ d) (k58 : ST → Option (Int32 × ST)) (hk58 : ∀ (s : ST) (r : Int32 × ST), k58 s = some r → Ev l d mi_X10_board 58 [some (.ref 65), none] [] (hp s) 0 0 (some (.int r.1), hp r.2)) : ∀ (n : Nat) (x1 : Int32) (s : ST) (r : Int32 × ST), f_X10_board_L40 k58 n x1 s = some r → Ev l d mi_X10_board 40 [some (.ref 65), some (.int x1)] [] (hp s) 0 0 (some (.int r.1), hp r.2) := by
  intro n
  induction n with
  | zero =>
    intro x1 s r hf
    cases hf
  | succ n ih =>
    intro x1 s r hf
    unfold f_X10_board_L40 at hf
    refine Ev.blk (pc' := 42) [(.iload_n 1, 0, 0, 0), (.iconst 3, 0, 0, 0)] (by decide +kernel) trivial rfl (?_)
    show Ev l d mi_X10_board 42 [some (.ref 65), some (.int x1)] [.int (Int32.ofInt 3), .int x1] (hp s) 0 0 _
    refine Ev.icmp_ge (off := 16) (tgt := 58) (by decide +kernel) (by decide) (fun b2 => ?_) (fun b2 => ?_)
    · have hf := (if_pos b2).symm.trans hf
      exact Ev.wk (hk58 s _ hf) (And.intro (Or.inr rfl) (And.intro (Or.inl rfl) (trivial)))
    · have hf := (if_neg b2).symm.trans hf
      obtain ⟨c3, hf⟩ := gd_some hf
      obtain ⟨s4, hs4, hf⟩ := lt_some hf
      refine Ev.blk (pc' := 55) [(.aload_n 0, 0, 0, 0), (.getfield 120, 0, 10, 45), (.iload_n 1, 0, 0, 0), (.iconst 0, 0, 0, 0), (.iastore, 0, 0, 0), (.iinc 1 1, 0, 0, 0)] (by decide +kernel) ⟨kf_10_120, trivial⟩ rfl (And.intro (kc rfl rfl) (Exists.intro 101 (And.intro rfl (And.intro (kc rfl rfl) (And.intro (ib_ok c3) (And.intro (Nat.le_of_ble_eq_true rfl) (?_)))))))
      show Ev l d mi_X10_board 55 [some (.ref 65), some (.int (x1 + Int32.ofInt 1))] [] (hp (uI s 101 x1.toNatClampNeg (Int32.ofInt 0))) 0 0 _
      rw [← hs4]
      refine Ev.goto (off := -15) (tgt := 40) (by decide +kernel) (by decide) ?_
      exact ih (x1 + Int32.ofInt 1) s4 _ hf
def f_X10_board_L88 (k110 : ST → Option (Int32 × ST)) : Nat → ST → Option (Int32 × ST)
  | 0, _ => none
  | n + 1, s => (if (s.1 65 5) = 0 then (f_X10_look s).bind (fun q12 => (if q12.1 = (Int32.ofInt (-1)) then k110 q12.2 else (f_X10_statementTold q12.2).bind (fun q14 => (f_X10_board_L88 k110 n) q14))) else k110 s)
set_option maxHeartbeats 2000000 in
set_option maxRecDepth 20000 in
theorem e_X10_board_L88 {l : Launch} {d : Nat} (hd : 10 ≤ d) (k110 : ST → Option (Int32 × ST)) (hk110 : ∀ (s : ST) (r : Int32 × ST), k110 s = some r → Ev l d mi_X10_board 110 [some (.ref 65), none] [] (hp s) 0 0 (some (.int r.1), hp r.2)) : ∀ (n : Nat) (s : ST) (r : Int32 × ST), f_X10_board_L88 k110 n s = some r → Ev l d mi_X10_board 88 [some (.ref 65), none] [] (hp s) 0 0 (some (.int r.1), hp r.2) := by
  intro n
  induction n with
  | zero =>
    intro s r hf
    cases hf
  | succ n ih =>
    intro s r hf
    unfold f_X10_board_L88 at hf
    refine Ev.blk (pc' := 92) [(.aload_n 0, 0, 0, 0), (.getfield 278, 0, 10, 5)] (by decide +kernel) ⟨kf_10_278, trivial⟩ rfl (And.intro (kc rfl rfl) (?_))
    show Ev l d mi_X10_board 92 [some (.ref 65), none] [.int (s.1 65 5)] (hp s) 0 0 _
    refine Ev.if_ne (off := 18) (tgt := 110) (by decide +kernel) (by decide) (fun b11 => ?_) (fun b11 => ?_)
    · have hf := (if_neg b11).symm.trans hf
      exact hk110 s _ hf
    · have hf := (if_pos b11).symm.trans hf
      refine Ev.blk (pc' := 96) [(.aload_n 0, 0, 0, 0)] (by decide +kernel) trivial rfl (?_)
      show Ev l d mi_X10_board 96 [some (.ref 65), none] [.ref 65] (hp s) 0 0 _
      obtain ⟨q12, hq12, hf⟩ := bd_some hf
      refine Ev.callV (o := 65) (M' := mi_X10_look) (d' := d - 1) (As := []) (rest := []) (r' := (some (.int q12.1), hp q12.2)) (e_X10_look (d := d - 1) (by omega) s _ hq12) (by omega) wm_X10_look wi_X10_look wv_X10_look km_10_290 (kc rfl rfl) (Nat.le_of_ble_eq_true rfl) rfl rfl rfl (Nat.le_of_ble_eq_true rfl) ⟨Nat.le_of_ble_eq_true rfl, Nat.le_of_ble_eq_true rfl⟩ (by decide +kernel) ?_
      show Ev l d mi_X10_board 99 [some (.ref 65), none] [.int q12.1] (hp q12.2) 0 0 _
      refine Ev.blk (pc' := 100) [(.iconst (-1), 0, 0, 0)] (by decide +kernel) trivial rfl (?_)
      show Ev l d mi_X10_board 100 [some (.ref 65), none] [.int (Int32.ofInt (-1)), .int q12.1] (hp q12.2) 0 0 _
      refine Ev.icmp_eq (off := 10) (tgt := 110) (by decide +kernel) (by decide) (fun b13 => ?_) (fun b13 => ?_)
      · have hf := (if_pos b13).symm.trans hf
        exact hk110 q12.2 _ hf
      · have hf := (if_neg b13).symm.trans hf
        refine Ev.blk (pc' := 104) [(.aload_n 0, 0, 0, 0)] (by decide +kernel) trivial rfl (?_)
        show Ev l d mi_X10_board 104 [some (.ref 65), none] [.ref 65] (hp q12.2) 0 0 _
        obtain ⟨q14, hq14, hf⟩ := bd_some hf
        refine Ev.callV (o := 65) (M' := mi_X10_statementTold) (d' := d - 1) (As := []) (rest := []) (r' := (none, hp q14)) (e_X10_statementTold (d := d - 1) (by omega) q12.2 _ hq14) (by omega) wm_X10_statementTold wi_X10_statementTold wv_X10_statementTold km_10_415 (kc rfl rfl) (Nat.le_of_ble_eq_true rfl) rfl rfl rfl (Nat.le_of_ble_eq_true rfl) ⟨Nat.le_of_ble_eq_true rfl, Nat.le_of_ble_eq_true rfl⟩ (by decide +kernel) ?_
        show Ev l d mi_X10_board 107 [some (.ref 65), none] [] (hp q14) 0 0 _
        refine Ev.goto (off := -19) (tgt := 88) (by decide +kernel) (by decide) ?_
        exact ih q14 _ hf
def f_X10_board_j110 (s : ST) : Option (Int32 × ST) := lt (uI (uI s 65 7 (s.1 65 5)) 65 8 ((uI s 65 7 (s.1 65 5)).1 65 6)) (fun s15 => (if (s15.1 65 5) = 0 then (f_X10_stands s15).bind (fun q17 => some ((q17.1 65 57), q17)) else gd (ib (Int32.ofInt 1) 6) (gd (ib (Int32.ofInt 1) 6) (lt (uI s15 67 (Int32.ofInt 1).toNatClampNeg ((s15.1 67 (Int32.ofInt 1).toNatClampNeg) + (Int32.ofInt 1))) (fun s20 => some ((Int32.ofInt (-1)), s20))))))
set_option maxHeartbeats 2000000 in
set_option maxRecDepth 20000 in
theorem e_X10_board_j110 {l : Launch} {d : Nat} (hd : 10 ≤ d) (s : ST) (r : Int32 × ST) (hf : f_X10_board_j110 s = some r) : Ev l d mi_X10_board 110 [some (.ref 65), none] [] (hp s) 0 0 (some (.int r.1), hp r.2) := by
  unfold f_X10_board_j110 at hf
  obtain ⟨s15, hs15, hf⟩ := lt_some hf
  refine Ev.blk (pc' := 130) [(.aload_n 0, 0, 0, 0), (.aload_n 0, 0, 0, 0), (.getfield 278, 0, 10, 5), (.putfield 418, 0, 10, 7), (.aload_n 0, 0, 0, 0), (.aload_n 0, 0, 0, 0), (.getfield 281, 0, 10, 6), (.putfield 13, 0, 10, 8), (.aload_n 0, 0, 0, 0), (.getfield 278, 0, 10, 5)] (by decide +kernel) ⟨kf_10_278, ⟨⟨kf_10_418, Or.inl rfl⟩, ⟨kf_10_281, ⟨⟨kf_10_13, Or.inl rfl⟩, ⟨kf_10_278, trivial⟩⟩⟩⟩⟩ rfl (And.intro (kc rfl rfl) (And.intro (kc rfl rfl) (And.intro (kc rfl rfl) (And.intro (kc rfl rfl) (And.intro (kc rfl rfl) (?_))))))
  show Ev l d mi_X10_board 130 [some (.ref 65), none] [.int ((uI (uI s 65 7 (s.1 65 5)) 65 8 ((uI s 65 7 (s.1 65 5)).1 65 6)).1 65 5)] (hp (uI (uI s 65 7 (s.1 65 5)) 65 8 ((uI s 65 7 (s.1 65 5)).1 65 6))) 0 0 _
  rw [← hs15]
  refine Ev.if_eq (off := 15) (tgt := 145) (by decide +kernel) (by decide) (fun b16 => ?_) (fun b16 => ?_)
  · have hf := (if_pos b16).symm.trans hf
    refine Ev.blk (pc' := 146) [(.aload_n 0, 0, 0, 0)] (by decide +kernel) trivial rfl (?_)
    show Ev l d mi_X10_board 146 [some (.ref 65), none] [.ref 65] (hp s15) 0 0 _
    obtain ⟨q17, hq17, hf⟩ := bd_some hf
    refine Ev.callV (o := 65) (M' := mi_X10_stands) (d' := d - 1) (As := []) (rest := []) (r' := (none, hp q17)) (e_X10_stands (d := d - 1) (by omega) s15 _ hq17) (by omega) wm_X10_stands wi_X10_stands wv_X10_stands km_10_421 (kc rfl rfl) (Nat.le_of_ble_eq_true rfl) rfl rfl rfl (Nat.le_of_ble_eq_true rfl) ⟨Nat.le_of_ble_eq_true rfl, Nat.le_of_ble_eq_true rfl⟩ (by decide +kernel) ?_
    show Ev l d mi_X10_board 149 [some (.ref 65), none] [] (hp q17) 0 0 _
    refine Ev.blk (pc' := 153) [(.aload_n 0, 0, 0, 0), (.getfield 397, 0, 10, 57)] (by decide +kernel) ⟨kf_10_397, trivial⟩ rfl (And.intro (kc rfl rfl) (?_))
    show Ev l d mi_X10_board 153 [some (.ref 65), none] [.int (q17.1 65 57)] (hp q17) 0 0 _
    cases hf
    exact Ev.iret .int rfl rfl (by decide +kernel) (Nat.le_refl _) (Nat.le_refl _)
  · have hf := (if_neg b16).symm.trans hf
    obtain ⟨c18, hf⟩ := gd_some hf
    obtain ⟨c19, hf⟩ := gd_some hf
    obtain ⟨s20, hs20, hf⟩ := lt_some hf
    refine Ev.blk (pc' := 144) [(.aload_n 0, 0, 0, 0), (.getfield 17, 0, 10, 9), (.iconst 1, 0, 0, 0), (.dup2, 0, 0, 0), (.iaload, 0, 0, 0), (.iconst 1, 0, 0, 0), (.iadd, 0, 0, 0), (.iastore, 0, 0, 0), (.iconst (-1), 0, 0, 0)] (by decide +kernel) ⟨kf_10_17, trivial⟩ rfl (And.intro (kc rfl rfl) (Exists.intro 67 (And.intro rfl (And.intro (And.intro rfl rfl) (And.intro (kc rfl rfl) (And.intro (ib_ok c18) (And.intro (kc rfl rfl) (And.intro (ib_ok c19) (?_)))))))))
    show Ev l d mi_X10_board 144 [some (.ref 65), none] [.int (Int32.ofInt (-1))] (hp (uI s15 67 (Int32.ofInt 1).toNatClampNeg ((s15.1 67 (Int32.ofInt 1).toNatClampNeg) + (Int32.ofInt 1)))) 0 0 _
    rw [← hs20]
    cases hf
    exact Ev.iret .int rfl rfl (by decide +kernel) (Nat.le_refl _) (Nat.le_refl _)
def f_X10_board_j58 (s : ST) : Option (Int32 × ST) := gd (ib (Int32.ofInt 0) 4) (gd (ib (Int32.ofInt 1) 4) (gd (ib (Int32.ofInt 0) 2) (lt (uI (uI (uI s 108 (Int32.ofInt 0).toNatClampNeg (Int32.ofInt 0)) 108 (Int32.ofInt 1).toNatClampNeg (Int32.ofInt 0)) 109 (Int32.ofInt 0).toNatClampNeg (Int32.ofInt (-1))) (fun s8 => (f_X10_boardTold s8).bind (fun q9 => lt (uI q9 65 57 (Int32.ofInt 1)) (fun s10 => (f_X10_board_L88 f_X10_board_j110 fuel) s10))))))
set_option maxHeartbeats 2000000 in
set_option maxRecDepth 20000 in
theorem e_X10_board_j58 {l : Launch} {d : Nat} (hd : 10 ≤ d) (s : ST) (r : Int32 × ST) (hf : f_X10_board_j58 s = some r) : Ev l d mi_X10_board 58 [some (.ref 65), none] [] (hp s) 0 0 (some (.int r.1), hp r.2) := by
  unfold f_X10_board_j58 at hf
  obtain ⟨c5, hf⟩ := gd_some hf
  obtain ⟨c6, hf⟩ := gd_some hf
  obtain ⟨c7, hf⟩ := gd_some hf
  obtain ⟨s8, hs8, hf⟩ := lt_some hf
  refine Ev.blk (pc' := 80) [(.aload_n 0, 0, 0, 0), (.getfield 142, 0, 10, 52), (.iconst 0, 0, 0, 0), (.iconst 0, 0, 0, 0), (.iastore, 0, 0, 0), (.aload_n 0, 0, 0, 0), (.getfield 142, 0, 10, 52), (.iconst 1, 0, 0, 0), (.iconst 0, 0, 0, 0), (.iastore, 0, 0, 0), (.aload_n 0, 0, 0, 0), (.getfield 145, 0, 10, 53), (.iconst 0, 0, 0, 0), (.iconst (-1), 0, 0, 0), (.iastore, 0, 0, 0), (.aload_n 0, 0, 0, 0)] (by decide +kernel) ⟨kf_10_142, ⟨kf_10_142, ⟨kf_10_145, trivial⟩⟩⟩ rfl (And.intro (kc rfl rfl) (Exists.intro 108 (And.intro rfl (And.intro (kc rfl rfl) (And.intro (ib_ok c5) (And.intro (kc rfl rfl) (Exists.intro 108 (And.intro rfl (And.intro (kc rfl rfl) (And.intro (ib_ok c6) (And.intro (kc rfl rfl) (Exists.intro 109 (And.intro rfl (And.intro (kc rfl rfl) (And.intro (ib_ok c7) (?_))))))))))))))))
  show Ev l d mi_X10_board 80 [some (.ref 65), none] [.ref 65] (hp (uI (uI (uI s 108 (Int32.ofInt 0).toNatClampNeg (Int32.ofInt 0)) 108 (Int32.ofInt 1).toNatClampNeg (Int32.ofInt 0)) 109 (Int32.ofInt 0).toNatClampNeg (Int32.ofInt (-1)))) 0 0 _
  rw [← hs8]
  obtain ⟨q9, hq9, hf⟩ := bd_some hf
  refine Ev.callV (o := 65) (M' := mi_X10_boardTold) (d' := d - 1) (As := []) (rest := []) (r' := (none, hp q9)) (e_X10_boardTold (d := d - 1) (by omega) s8 _ hq9) (by omega) wm_X10_boardTold wi_X10_boardTold wv_X10_boardTold km_10_412 (kc rfl rfl) (Nat.le_of_ble_eq_true rfl) rfl rfl rfl (Nat.le_of_ble_eq_true rfl) ⟨Nat.le_of_ble_eq_true rfl, Nat.le_of_ble_eq_true rfl⟩ (by decide +kernel) ?_
  show Ev l d mi_X10_board 83 [some (.ref 65), none] [] (hp q9) 0 0 _
  obtain ⟨s10, hs10, hf⟩ := lt_some hf
  refine Ev.blk (pc' := 88) [(.aload_n 0, 0, 0, 0), (.iconst 1, 0, 0, 0), (.putfield 397, 0, 10, 57)] (by decide +kernel) ⟨⟨kf_10_397, Or.inl rfl⟩, trivial⟩ rfl (And.intro (kc rfl rfl) (?_))
  show Ev l d mi_X10_board 88 [some (.ref 65), none] [] (hp (uI q9 65 57 (Int32.ofInt 1))) 0 0 _
  rw [← hs10]
  exact (e_X10_board_L88 hd f_X10_board_j110 (e_X10_board_j110 hd) fuel) s10 _ hf
def f_X10_board (s : ST) : Option (Int32 × ST) := lt (uI (uI (uI (uI (uI (uI (uI s 65 3 (s.1 65 1)) 65 1 (Int32.ofInt 0)) 65 2 (Int32.ofInt 0)) 65 4 (Int32.ofInt (-1))) 65 5 (Int32.ofInt 0)) 65 6 (Int32.ofInt (-1))) 65 56 (Int32.ofInt 0)) (fun s1 => (f_X10_board_L40 f_X10_board_j58 fuel) (Int32.ofInt 0) s1)
set_option maxHeartbeats 2000000 in
set_option maxRecDepth 20000 in
theorem e_X10_board {l : Launch} {d : Nat} (hd : 10 ≤ d) (s : ST) (r : Int32 × ST) (hf : f_X10_board s = some r) : Cl l d mi_X10_board [.ref 65] (hp s) (some (.int r.1), hp r.2) := by
  refine Ev.entry (by decide +kernel) rfl rfl ?_
  show Ev l d mi_X10_board 0 [some (.ref 65), none] [] (hp s) 0 0 _
  unfold f_X10_board at hf
  obtain ⟨s1, hs1, hf⟩ := lt_some hf
  refine Ev.blk (pc' := 40) [(.aload_n 0, 0, 0, 0), (.aload_n 0, 0, 0, 0), (.getfield 275, 0, 10, 1), (.putfield 287, 0, 10, 3), (.aload_n 0, 0, 0, 0), (.iconst 0, 0, 0, 0), (.putfield 275, 0, 10, 1), (.aload_n 0, 0, 0, 0), (.iconst 0, 0, 0, 0), (.putfield 284, 0, 10, 2), (.aload_n 0, 0, 0, 0), (.iconst (-1), 0, 0, 0), (.putfield 298, 0, 10, 4), (.aload_n 0, 0, 0, 0), (.iconst 0, 0, 0, 0), (.putfield 278, 0, 10, 5), (.aload_n 0, 0, 0, 0), (.iconst (-1), 0, 0, 0), (.putfield 281, 0, 10, 6), (.aload_n 0, 0, 0, 0), (.iconst 0, 0, 0, 0), (.putfield 394, 0, 10, 56), (.iconst 0, 0, 0, 0), (.istore_n 1, 0, 0, 0)] (by decide +kernel) ⟨kf_10_275, ⟨⟨kf_10_287, Or.inl rfl⟩, ⟨⟨kf_10_275, Or.inl rfl⟩, ⟨⟨kf_10_284, Or.inl rfl⟩, ⟨⟨kf_10_298, Or.inl rfl⟩, ⟨⟨kf_10_278, Or.inl rfl⟩, ⟨⟨kf_10_281, Or.inl rfl⟩, ⟨⟨kf_10_394, Or.inl rfl⟩, trivial⟩⟩⟩⟩⟩⟩⟩⟩ rfl (And.intro (kc rfl rfl) (And.intro (kc rfl rfl) (And.intro (kc rfl rfl) (And.intro (kc rfl rfl) (And.intro (kc rfl rfl) (And.intro (kc rfl rfl) (And.intro (kc rfl rfl) (And.intro (kc rfl rfl) (And.intro (Nat.le_of_ble_eq_true rfl) (?_))))))))))
  show Ev l d mi_X10_board 40 [some (.ref 65), some (.int (Int32.ofInt 0))] [] (hp (uI (uI (uI (uI (uI (uI (uI s 65 3 (s.1 65 1)) 65 1 (Int32.ofInt 0)) 65 2 (Int32.ofInt 0)) 65 4 (Int32.ofInt (-1))) 65 5 (Int32.ofInt 0)) 65 6 (Int32.ofInt (-1))) 65 56 (Int32.ofInt 0))) 0 0 _
  rw [← hs1]
  exact (e_X10_board_L40 hd f_X10_board_j58 (e_X10_board_j58 hd) fuel) (Int32.ofInt 0) s1 _ hf
def f_X10_fault (p0 : Int32) (s : ST) : Option (Int32 × ST) := (if p0 = 0 then some ((s.1 65 7), s) else (if p0 = (Int32.ofInt 1) then some ((s.1 65 8), s) else some ((Int32.ofInt (-1)), s)))
set_option maxHeartbeats 2000000 in
set_option maxRecDepth 20000 in
theorem e_X10_fault {l : Launch} {d : Nat} (hd : 1 ≤ d) (p0 : Int32) (s : ST) (r : Int32 × ST) (hf : f_X10_fault p0 s = some r) : Cl l d mi_X10_fault [.ref 65, .int p0] (hp s) (some (.int r.1), hp r.2) := by
  refine Ev.entry (by decide +kernel) rfl rfl ?_
  show Ev l d mi_X10_fault 0 [some (.ref 65), some (.int p0)] [] (hp s) 0 0 _
  unfold f_X10_fault at hf
  refine Ev.blk (pc' := 1) [(.iload_n 1, 0, 0, 0)] (by decide +kernel) trivial rfl (?_)
  show Ev l d mi_X10_fault 1 [some (.ref 65), some (.int p0)] [.int p0] (hp s) 0 0 _
  refine Ev.if_ne (off := 10) (tgt := 11) (by decide +kernel) (by decide) (fun b1 => ?_) (fun b1 => ?_)
  · have hf := (if_neg b1).symm.trans hf
    refine Ev.blk (pc' := 13) [(.iload_n 1, 0, 0, 0), (.iconst 1, 0, 0, 0)] (by decide +kernel) trivial rfl (?_)
    show Ev l d mi_X10_fault 13 [some (.ref 65), some (.int p0)] [.int (Int32.ofInt 1), .int p0] (hp s) 0 0 _
    refine Ev.icmp_ne (off := 10) (tgt := 23) (by decide +kernel) (by decide) (fun b2 => ?_) (fun b2 => ?_)
    · have hf := (if_neg b2).symm.trans hf
      refine Ev.blk (pc' := 24) [(.iconst (-1), 0, 0, 0)] (by decide +kernel) trivial rfl (?_)
      show Ev l d mi_X10_fault 24 [some (.ref 65), some (.int p0)] [.int (Int32.ofInt (-1))] (hp s) 0 0 _
      cases hf
      exact Ev.iret .int rfl rfl (by decide +kernel) (Nat.le_refl _) (Nat.le_refl _)
    · have hf := (if_pos b2).symm.trans hf
      refine Ev.blk (pc' := 20) [(.aload_n 0, 0, 0, 0), (.getfield 13, 0, 10, 8)] (by decide +kernel) ⟨kf_10_13, trivial⟩ rfl (And.intro (kc rfl rfl) (?_))
      show Ev l d mi_X10_fault 20 [some (.ref 65), some (.int p0)] [.int (s.1 65 8)] (hp s) 0 0 _
      refine Ev.goto (off := 4) (tgt := 24) (by decide +kernel) (by decide) ?_
      cases hf
      exact Ev.iret .int rfl rfl (by decide +kernel) (Nat.le_refl _) (Nat.le_refl _)
  · have hf := (if_pos b1).symm.trans hf
    refine Ev.blk (pc' := 8) [(.aload_n 0, 0, 0, 0), (.getfield 418, 0, 10, 7)] (by decide +kernel) ⟨kf_10_418, trivial⟩ rfl (And.intro (kc rfl rfl) (?_))
    show Ev l d mi_X10_fault 8 [some (.ref 65), some (.int p0)] [.int (s.1 65 7)] (hp s) 0 0 _
    refine Ev.goto (off := 16) (tgt := 24) (by decide +kernel) (by decide) ?_
    cases hf
    exact Ev.iret .int rfl rfl (by decide +kernel) (Nat.le_refl _) (Nat.le_refl _)
def f_X10_manMany (s : ST) : Option (Int32 × ST) := gd (ib (Int32.ofInt 4) 6) (some ((s.1 101 (Int32.ofInt 4).toNatClampNeg), s))
set_option maxHeartbeats 2000000 in
set_option maxRecDepth 20000 in
theorem e_X10_manMany {l : Launch} {d : Nat} (hd : 1 ≤ d) (s : ST) (r : Int32 × ST) (hf : f_X10_manMany s = some r) : Cl l d mi_X10_manMany [.ref 65] (hp s) (some (.int r.1), hp r.2) := by
  refine Ev.entry (by decide +kernel) rfl rfl ?_
  show Ev l d mi_X10_manMany 0 [some (.ref 65)] [] (hp s) 0 0 _
  unfold f_X10_manMany at hf
  obtain ⟨c1, hf⟩ := gd_some hf
  refine Ev.blk (pc' := 6) [(.aload_n 0, 0, 0, 0), (.getfield 120, 0, 10, 45), (.iconst 4, 0, 0, 0), (.iaload, 0, 0, 0)] (by decide +kernel) ⟨kf_10_120, trivial⟩ rfl (And.intro (kc rfl rfl) (Exists.intro 101 (And.intro rfl (And.intro (kc rfl rfl) (And.intro (ib_ok c1) (?_))))))
  show Ev l d mi_X10_manMany 6 [some (.ref 65)] [.int (s.1 101 (Int32.ofInt 4).toNatClampNeg)] (hp s) 0 0 _
  cases hf
  exact Ev.iret .int rfl rfl (by decide +kernel) (Nat.le_refl _) (Nat.le_refl _)
def f_X10_fieldMany (s : ST) : Option (Int32 × ST) := gd (ib (Int32.ofInt 5) 6) (some ((s.1 101 (Int32.ofInt 5).toNatClampNeg), s))
set_option maxHeartbeats 2000000 in
set_option maxRecDepth 20000 in
theorem e_X10_fieldMany {l : Launch} {d : Nat} (hd : 1 ≤ d) (s : ST) (r : Int32 × ST) (hf : f_X10_fieldMany s = some r) : Cl l d mi_X10_fieldMany [.ref 65] (hp s) (some (.int r.1), hp r.2) := by
  refine Ev.entry (by decide +kernel) rfl rfl ?_
  show Ev l d mi_X10_fieldMany 0 [some (.ref 65)] [] (hp s) 0 0 _
  unfold f_X10_fieldMany at hf
  obtain ⟨c1, hf⟩ := gd_some hf
  refine Ev.blk (pc' := 6) [(.aload_n 0, 0, 0, 0), (.getfield 120, 0, 10, 45), (.iconst 5, 0, 0, 0), (.iaload, 0, 0, 0)] (by decide +kernel) ⟨kf_10_120, trivial⟩ rfl (And.intro (kc rfl rfl) (Exists.intro 101 (And.intro rfl (And.intro (kc rfl rfl) (And.intro (ib_ok c1) (?_))))))
  show Ev l d mi_X10_fieldMany 6 [some (.ref 65)] [.int (s.1 101 (Int32.ofInt 5).toNatClampNeg)] (hp s) 0 0 _
  cases hf
  exact Ev.iret .int rfl rfl (by decide +kernel) (Nat.le_refl _) (Nat.le_refl _)
def f_X10_isMan (p0 : Int32) (s : ST) : Option (Int32 × ST) := (f_X10_manMany s).bind (fun q1 => (f_X10_isIn ((p0).toInt64) (Int64.ofNat ((0 : Fin 2) : Nat)) ((q1.1 - (Int32.ofInt 1)).toInt64) q1.2).bind (fun q2 => gd (nb q2.1) (some (q2.1, q2.2))))
set_option maxHeartbeats 2000000 in
set_option maxRecDepth 20000 in
theorem e_X10_isMan {l : Launch} {d : Nat} (hd : 2 ≤ d) (p0 : Int32) (s : ST) (r : Int32 × ST) (hf : f_X10_isMan p0 s = some r) : Cl l d mi_X10_isMan [.ref 65, .int p0] (hp s) (some (.int r.1), hp r.2) := by
  refine Ev.entry (by decide +kernel) rfl rfl ?_
  show Ev l d mi_X10_isMan 0 [some (.ref 65), some (.int p0)] [] (hp s) 0 0 _
  unfold f_X10_isMan at hf
  refine Ev.blk (pc' := 4) [(.iload_n 1, 0, 0, 0), (.i2l, 0, 0, 0), (.lconst 0, 0, 0, 0), (.aload_n 0, 0, 0, 0)] (by decide +kernel) trivial rfl (?_)
  show Ev l d mi_X10_isMan 4 [some (.ref 65), some (.int p0)] [.ref 65, .long (Int64.ofNat ((0 : Fin 2) : Nat)), .long (p0).toInt64] (hp s) 0 0 _
  obtain ⟨q1, hq1, hf⟩ := bd_some hf
  refine Ev.callV (o := 65) (M' := mi_X10_manMany) (d' := d - 1) (As := []) (rest := [.long (Int64.ofNat ((0 : Fin 2) : Nat)), .long (p0).toInt64]) (r' := (some (.int q1.1), hp q1.2)) (e_X10_manMany (d := d - 1) (by omega) s _ hq1) (by omega) wm_X10_manMany wi_X10_manMany wv_X10_manMany km_10_433 (kc rfl rfl) (Nat.le_of_ble_eq_true rfl) rfl rfl rfl (Nat.le_of_ble_eq_true rfl) ⟨Nat.le_of_ble_eq_true rfl, Nat.le_of_ble_eq_true rfl⟩ (by decide +kernel) ?_
  show Ev l d mi_X10_isMan 7 [some (.ref 65), some (.int p0)] [.int q1.1, .long (Int64.ofNat ((0 : Fin 2) : Nat)), .long (p0).toInt64] (hp q1.2) 0 0 _
  refine Ev.blk (pc' := 10) [(.iconst 1, 0, 0, 0), (.isub, 0, 0, 0), (.i2l, 0, 0, 0)] (by decide +kernel) trivial rfl (?_)
  show Ev l d mi_X10_isMan 10 [some (.ref 65), some (.int p0)] [.long (q1.1 - (Int32.ofInt 1)).toInt64, .long (Int64.ofNat ((0 : Fin 2) : Nat)), .long (p0).toInt64] (hp q1.2) 0 0 _
  obtain ⟨q2, hq2, hf⟩ := bd_some hf
  refine Ev.callS (M' := mi_X10_isIn) (d' := d - 1) (As := [.long (p0).toInt64, .long (Int64.ofNat ((0 : Fin 2) : Nat)), .long (q1.1 - (Int32.ofInt 1)).toInt64]) (rest := []) (r' := (some (.int q2.1), hp q2.2)) (e_X10_isIn (d := d - 1) (by omega) ((p0).toInt64) (Int64.ofNat ((0 : Fin 2) : Nat)) ((q1.1 - (Int32.ofInt 1)).toInt64) q1.2 _ hq2) (by omega) wm_X10_isIn wt_X10_isIn km_10_321 rfl rfl rfl (Nat.le_of_ble_eq_true rfl) ⟨Nat.le_of_ble_eq_true rfl, Nat.le_of_ble_eq_true rfl⟩ (by decide +kernel) ?_
  show Ev l d mi_X10_isMan 13 [some (.ref 65), some (.int p0)] [.int q2.1] (hp q2.2) 0 0 _
  obtain ⟨c3, hf⟩ := gd_some hf
  cases hf
  exact Ev.iret .boolean rfl (nb_ok c3) (by decide +kernel) (Nat.le_refl _) (Nat.le_refl _)
def f_X10_isField (p0 : Int32) (s : ST) : Option (Int32 × ST) := (f_X10_fieldMany s).bind (fun q1 => (f_X10_isIn ((p0).toInt64) (Int64.ofNat ((0 : Fin 2) : Nat)) ((q1.1 - (Int32.ofInt 1)).toInt64) q1.2).bind (fun q2 => gd (nb q2.1) (some (q2.1, q2.2))))
set_option maxHeartbeats 2000000 in
set_option maxRecDepth 20000 in
theorem e_X10_isField {l : Launch} {d : Nat} (hd : 2 ≤ d) (p0 : Int32) (s : ST) (r : Int32 × ST) (hf : f_X10_isField p0 s = some r) : Cl l d mi_X10_isField [.ref 65, .int p0] (hp s) (some (.int r.1), hp r.2) := by
  refine Ev.entry (by decide +kernel) rfl rfl ?_
  show Ev l d mi_X10_isField 0 [some (.ref 65), some (.int p0)] [] (hp s) 0 0 _
  unfold f_X10_isField at hf
  refine Ev.blk (pc' := 4) [(.iload_n 1, 0, 0, 0), (.i2l, 0, 0, 0), (.lconst 0, 0, 0, 0), (.aload_n 0, 0, 0, 0)] (by decide +kernel) trivial rfl (?_)
  show Ev l d mi_X10_isField 4 [some (.ref 65), some (.int p0)] [.ref 65, .long (Int64.ofNat ((0 : Fin 2) : Nat)), .long (p0).toInt64] (hp s) 0 0 _
  obtain ⟨q1, hq1, hf⟩ := bd_some hf
  refine Ev.callV (o := 65) (M' := mi_X10_fieldMany) (d' := d - 1) (As := []) (rest := [.long (Int64.ofNat ((0 : Fin 2) : Nat)), .long (p0).toInt64]) (r' := (some (.int q1.1), hp q1.2)) (e_X10_fieldMany (d := d - 1) (by omega) s _ hq1) (by omega) wm_X10_fieldMany wi_X10_fieldMany wv_X10_fieldMany km_10_436 (kc rfl rfl) (Nat.le_of_ble_eq_true rfl) rfl rfl rfl (Nat.le_of_ble_eq_true rfl) ⟨Nat.le_of_ble_eq_true rfl, Nat.le_of_ble_eq_true rfl⟩ (by decide +kernel) ?_
  show Ev l d mi_X10_isField 7 [some (.ref 65), some (.int p0)] [.int q1.1, .long (Int64.ofNat ((0 : Fin 2) : Nat)), .long (p0).toInt64] (hp q1.2) 0 0 _
  refine Ev.blk (pc' := 10) [(.iconst 1, 0, 0, 0), (.isub, 0, 0, 0), (.i2l, 0, 0, 0)] (by decide +kernel) trivial rfl (?_)
  show Ev l d mi_X10_isField 10 [some (.ref 65), some (.int p0)] [.long (q1.1 - (Int32.ofInt 1)).toInt64, .long (Int64.ofNat ((0 : Fin 2) : Nat)), .long (p0).toInt64] (hp q1.2) 0 0 _
  obtain ⟨q2, hq2, hf⟩ := bd_some hf
  refine Ev.callS (M' := mi_X10_isIn) (d' := d - 1) (As := [.long (p0).toInt64, .long (Int64.ofNat ((0 : Fin 2) : Nat)), .long (q1.1 - (Int32.ofInt 1)).toInt64]) (rest := []) (r' := (some (.int q2.1), hp q2.2)) (e_X10_isIn (d := d - 1) (by omega) ((p0).toInt64) (Int64.ofNat ((0 : Fin 2) : Nat)) ((q1.1 - (Int32.ofInt 1)).toInt64) q1.2 _ hq2) (by omega) wm_X10_isIn wt_X10_isIn km_10_321 rfl rfl rfl (Nat.le_of_ble_eq_true rfl) ⟨Nat.le_of_ble_eq_true rfl, Nat.le_of_ble_eq_true rfl⟩ (by decide +kernel) ?_
  show Ev l d mi_X10_isField 13 [some (.ref 65), some (.int p0)] [.int q2.1] (hp q2.2) 0 0 _
  obtain ⟨c3, hf⟩ := gd_some hf
  cases hf
  exact Ev.iret .boolean rfl (nb_ok c3) (by decide +kernel) (Nat.le_refl _) (Nat.le_refl _)
def f_X10_columnOf (p0 : Int32) (s : ST) : Option (Int32 × ST) := gd (ib ((Int32.ofInt 2) + ((Int32.ofInt 2) * p0)) 225) (lt (s.1 112 ((Int32.ofInt 2) + ((Int32.ofInt 2) * p0)).toNatClampNeg) (fun v2 => some (v2, s)))
set_option maxHeartbeats 2000000 in
set_option maxRecDepth 20000 in
theorem e_X10_columnOf {l : Launch} {d : Nat} (hd : 1 ≤ d) (p0 : Int32) (s : ST) (r : Int32 × ST) (hf : f_X10_columnOf p0 s = some r) : Cl l d mi_X10_columnOf [.ref 65, .int p0] (hp s) (some (.int r.1), hp r.2) := by
  refine Ev.entry (by decide +kernel) rfl rfl ?_
  show Ev l d mi_X10_columnOf 0 [some (.ref 65), some (.int p0)] [] (hp s) 0 0 _
  unfold f_X10_columnOf at hf
  obtain ⟨c1, hf⟩ := gd_some hf
  obtain ⟨v2, hv2, hf⟩ := lt_some hf
  refine Ev.blk (pc' := 10) [(.aload_n 0, 0, 0, 0), (.getfield 154, 0, 10, 62), (.iconst 2, 0, 0, 0), (.iconst 2, 0, 0, 0), (.iload_n 1, 0, 0, 0), (.imul, 0, 0, 0), (.iadd, 0, 0, 0), (.iaload, 0, 0, 0)] (by decide +kernel) ⟨kf_10_154, trivial⟩ rfl (And.intro (kc rfl rfl) (Exists.intro 112 (And.intro rfl (And.intro (kc rfl rfl) (And.intro (ib_ok c1) (?_))))))
  show Ev l d mi_X10_columnOf 10 [some (.ref 65), some (.int p0)] [.int (s.1 112 ((Int32.ofInt 2) + ((Int32.ofInt 2) * p0)).toNatClampNeg)] (hp s) 0 0 _
  rw [← hv2]
  cases hf
  exact Ev.iret .int rfl rfl (by decide +kernel) (Nat.le_refl _) (Nat.le_refl _)
def f_X10_rowOf (p0 : Int32) (s : ST) : Option (Int32 × ST) := gd (ib (((Int32.ofInt 2) + ((Int32.ofInt 2) * p0)) + (Int32.ofInt 1)) 225) (lt (s.1 112 (((Int32.ofInt 2) + ((Int32.ofInt 2) * p0)) + (Int32.ofInt 1)).toNatClampNeg) (fun v2 => some (v2, s)))
set_option maxHeartbeats 2000000 in
set_option maxRecDepth 20000 in
theorem e_X10_rowOf {l : Launch} {d : Nat} (hd : 1 ≤ d) (p0 : Int32) (s : ST) (r : Int32 × ST) (hf : f_X10_rowOf p0 s = some r) : Cl l d mi_X10_rowOf [.ref 65, .int p0] (hp s) (some (.int r.1), hp r.2) := by
  refine Ev.entry (by decide +kernel) rfl rfl ?_
  show Ev l d mi_X10_rowOf 0 [some (.ref 65), some (.int p0)] [] (hp s) 0 0 _
  unfold f_X10_rowOf at hf
  obtain ⟨c1, hf⟩ := gd_some hf
  obtain ⟨v2, hv2, hf⟩ := lt_some hf
  refine Ev.blk (pc' := 12) [(.aload_n 0, 0, 0, 0), (.getfield 154, 0, 10, 62), (.iconst 2, 0, 0, 0), (.iconst 2, 0, 0, 0), (.iload_n 1, 0, 0, 0), (.imul, 0, 0, 0), (.iadd, 0, 0, 0), (.iconst 1, 0, 0, 0), (.iadd, 0, 0, 0), (.iaload, 0, 0, 0)] (by decide +kernel) ⟨kf_10_154, trivial⟩ rfl (And.intro (kc rfl rfl) (Exists.intro 112 (And.intro rfl (And.intro (kc rfl rfl) (And.intro (ib_ok c1) (?_))))))
  show Ev l d mi_X10_rowOf 12 [some (.ref 65), some (.int p0)] [.int (s.1 112 (((Int32.ofInt 2) + ((Int32.ofInt 2) * p0)) + (Int32.ofInt 1)).toNatClampNeg)] (hp s) 0 0 _
  rw [← hv2]
  cases hf
  exact Ev.iret .int rfl rfl (by decide +kernel) (Nat.le_refl _) (Nat.le_refl _)
def f_X10_isTaken (p0 : Int32) (s : ST) : Option (Int32 × ST) := (f_X10_columnOf p0 s).bind (fun q1 => (if q1.1 = (Int32.ofInt (-1)) then some ((Int32.ofInt 1), q1.2) else some ((Int32.ofInt 0), q1.2)))
set_option maxHeartbeats 2000000 in
set_option maxRecDepth 20000 in
theorem e_X10_isTaken {l : Launch} {d : Nat} (hd : 2 ≤ d) (p0 : Int32) (s : ST) (r : Int32 × ST) (hf : f_X10_isTaken p0 s = some r) : Cl l d mi_X10_isTaken [.ref 65, .int p0] (hp s) (some (.int r.1), hp r.2) := by
  refine Ev.entry (by decide +kernel) rfl rfl ?_
  show Ev l d mi_X10_isTaken 0 [some (.ref 65), some (.int p0)] [] (hp s) 0 0 _
  unfold f_X10_isTaken at hf
  refine Ev.blk (pc' := 2) [(.aload_n 0, 0, 0, 0), (.iload_n 1, 0, 0, 0)] (by decide +kernel) trivial rfl (?_)
  show Ev l d mi_X10_isTaken 2 [some (.ref 65), some (.int p0)] [.int p0, .ref 65] (hp s) 0 0 _
  obtain ⟨q1, hq1, hf⟩ := bd_some hf
  refine Ev.callV (o := 65) (M' := mi_X10_columnOf) (d' := d - 1) (As := [.int p0]) (rest := []) (r' := (some (.int q1.1), hp q1.2)) (e_X10_columnOf (d := d - 1) (by omega) p0 s _ hq1) (by omega) wm_X10_columnOf wi_X10_columnOf wv_X10_columnOf km_10_439 (kc rfl rfl) (Nat.le_of_ble_eq_true rfl) rfl rfl rfl (Nat.le_of_ble_eq_true rfl) ⟨Nat.le_of_ble_eq_true rfl, Nat.le_of_ble_eq_true rfl⟩ (by decide +kernel) ?_
  show Ev l d mi_X10_isTaken 5 [some (.ref 65), some (.int p0)] [.int q1.1] (hp q1.2) 0 0 _
  refine Ev.blk (pc' := 6) [(.iconst (-1), 0, 0, 0)] (by decide +kernel) trivial rfl (?_)
  show Ev l d mi_X10_isTaken 6 [some (.ref 65), some (.int p0)] [.int (Int32.ofInt (-1)), .int q1.1] (hp q1.2) 0 0 _
  refine Ev.icmp_ne (off := 7) (tgt := 13) (by decide +kernel) (by decide) (fun b2 => ?_) (fun b2 => ?_)
  · have hf := (if_neg b2).symm.trans hf
    refine Ev.blk (pc' := 14) [(.iconst 0, 0, 0, 0)] (by decide +kernel) trivial rfl (?_)
    show Ev l d mi_X10_isTaken 14 [some (.ref 65), some (.int p0)] [.int (Int32.ofInt 0)] (hp q1.2) 0 0 _
    cases hf
    exact Ev.iret .boolean rfl rfl (by decide +kernel) (Nat.le_refl _) (Nat.le_refl _)
  · have hf := (if_pos b2).symm.trans hf
    refine Ev.blk (pc' := 10) [(.iconst 1, 0, 0, 0)] (by decide +kernel) trivial rfl (?_)
    show Ev l d mi_X10_isTaken 10 [some (.ref 65), some (.int p0)] [.int (Int32.ofInt 1)] (hp q1.2) 0 0 _
    refine Ev.goto (off := 4) (tgt := 14) (by decide +kernel) (by decide) ?_
    cases hf
    exact Ev.iret .boolean rfl rfl (by decide +kernel) (Nat.le_refl _) (Nat.le_refl _)
def f_X10_kindOf (p0 : Int32) (s : ST) : Option (Int32 × ST) := gd (ib (((Int8.ofInt 16).toInt32) + ((Int32.ofInt 2) * p0)) 32) (lt (s.1 105 (((Int8.ofInt 16).toInt32) + ((Int32.ofInt 2) * p0)).toNatClampNeg) (fun v2 => some (v2, s)))
set_option maxHeartbeats 2000000 in
set_option maxRecDepth 20000 in
theorem e_X10_kindOf {l : Launch} {d : Nat} (hd : 1 ≤ d) (p0 : Int32) (s : ST) (r : Int32 × ST) (hf : f_X10_kindOf p0 s = some r) : Cl l d mi_X10_kindOf [.ref 65, .int p0] (hp s) (some (.int r.1), hp r.2) := by
  refine Ev.entry (by decide +kernel) rfl rfl ?_
  show Ev l d mi_X10_kindOf 0 [some (.ref 65), some (.int p0)] [] (hp s) 0 0 _
  unfold f_X10_kindOf at hf
  obtain ⟨c1, hf⟩ := gd_some hf
  obtain ⟨v2, hv2, hf⟩ := lt_some hf
  refine Ev.blk (pc' := 11) [(.aload_n 0, 0, 0, 0), (.getfield 133, 0, 10, 49), (.bipush 16, 0, 0, 0), (.iconst 2, 0, 0, 0), (.iload_n 1, 0, 0, 0), (.imul, 0, 0, 0), (.iadd, 0, 0, 0), (.iaload, 0, 0, 0)] (by decide +kernel) ⟨kf_10_133, trivial⟩ rfl (And.intro (kc rfl rfl) (Exists.intro 105 (And.intro rfl (And.intro (kc rfl rfl) (And.intro (ib_ok c1) (?_))))))
  show Ev l d mi_X10_kindOf 11 [some (.ref 65), some (.int p0)] [.int (s.1 105 (((Int8.ofInt 16).toInt32) + ((Int32.ofInt 2) * p0)).toNatClampNeg)] (hp s) 0 0 _
  rw [← hv2]
  cases hf
  exact Ev.iret .int rfl rfl (by decide +kernel) (Nat.le_refl _) (Nat.le_refl _)
def f_X10_sideOf (p0 : Int32) (s : ST) : Option (Int32 × ST) := gd (ib (((Int8.ofInt 17).toInt32) + ((Int32.ofInt 2) * p0)) 32) (lt (s.1 105 (((Int8.ofInt 17).toInt32) + ((Int32.ofInt 2) * p0)).toNatClampNeg) (fun v2 => some (v2, s)))
set_option maxHeartbeats 2000000 in
set_option maxRecDepth 20000 in
theorem e_X10_sideOf {l : Launch} {d : Nat} (hd : 1 ≤ d) (p0 : Int32) (s : ST) (r : Int32 × ST) (hf : f_X10_sideOf p0 s = some r) : Cl l d mi_X10_sideOf [.ref 65, .int p0] (hp s) (some (.int r.1), hp r.2) := by
  refine Ev.entry (by decide +kernel) rfl rfl ?_
  show Ev l d mi_X10_sideOf 0 [some (.ref 65), some (.int p0)] [] (hp s) 0 0 _
  unfold f_X10_sideOf at hf
  obtain ⟨c1, hf⟩ := gd_some hf
  obtain ⟨v2, hv2, hf⟩ := lt_some hf
  refine Ev.blk (pc' := 11) [(.aload_n 0, 0, 0, 0), (.getfield 133, 0, 10, 49), (.bipush 17, 0, 0, 0), (.iconst 2, 0, 0, 0), (.iload_n 1, 0, 0, 0), (.imul, 0, 0, 0), (.iadd, 0, 0, 0), (.iaload, 0, 0, 0)] (by decide +kernel) ⟨kf_10_133, trivial⟩ rfl (And.intro (kc rfl rfl) (Exists.intro 105 (And.intro rfl (And.intro (kc rfl rfl) (And.intro (ib_ok c1) (?_))))))
  show Ev l d mi_X10_sideOf 11 [some (.ref 65), some (.int p0)] [.int (s.1 105 (((Int8.ofInt 17).toInt32) + ((Int32.ofInt 2) * p0)).toNatClampNeg)] (hp s) 0 0 _
  rw [← hv2]
  cases hf
  exact Ev.iret .int rfl rfl (by decide +kernel) (Nat.le_refl _) (Nat.le_refl _)
def f_X10_worthOf (p0 : Int32) (s : ST) : Option (Int32 × ST) := (f_X10_kindOf p0 s).bind (fun q1 => gd (ib (((Int8.ofInt 22).toInt32) + ((Int32.ofInt 4) * q1.1)) 40) (lt (q1.2.1 104 (((Int8.ofInt 22).toInt32) + ((Int32.ofInt 4) * q1.1)).toNatClampNeg) (fun v3 => some (v3, q1.2))))
set_option maxHeartbeats 2000000 in
set_option maxRecDepth 20000 in
theorem e_X10_worthOf {l : Launch} {d : Nat} (hd : 2 ≤ d) (p0 : Int32) (s : ST) (r : Int32 × ST) (hf : f_X10_worthOf p0 s = some r) : Cl l d mi_X10_worthOf [.ref 65, .int p0] (hp s) (some (.int r.1), hp r.2) := by
  refine Ev.entry (by decide +kernel) rfl rfl ?_
  show Ev l d mi_X10_worthOf 0 [some (.ref 65), some (.int p0)] [] (hp s) 0 0 _
  unfold f_X10_worthOf at hf
  refine Ev.blk (pc' := 9) [(.aload_n 0, 0, 0, 0), (.getfield 130, 0, 10, 48), (.bipush 22, 0, 0, 0), (.iconst 4, 0, 0, 0), (.aload_n 0, 0, 0, 0), (.iload_n 1, 0, 0, 0)] (by decide +kernel) ⟨kf_10_130, trivial⟩ rfl (And.intro (kc rfl rfl) (Exists.intro 104 (And.intro rfl (?_))))
  show Ev l d mi_X10_worthOf 9 [some (.ref 65), some (.int p0)] [.int p0, .ref 65, .int (Int32.ofInt 4), .int ((Int8.ofInt 22).toInt32), .ref 104] (hp s) 0 0 _
  obtain ⟨q1, hq1, hf⟩ := bd_some hf
  refine Ev.callV (o := 65) (M' := mi_X10_kindOf) (d' := d - 1) (As := [.int p0]) (rest := [.int (Int32.ofInt 4), .int ((Int8.ofInt 22).toInt32), .ref 104]) (r' := (some (.int q1.1), hp q1.2)) (e_X10_kindOf (d := d - 1) (by omega) p0 s _ hq1) (by omega) wm_X10_kindOf wi_X10_kindOf wv_X10_kindOf km_10_443 (kc rfl rfl) (Nat.le_of_ble_eq_true rfl) rfl rfl rfl (Nat.le_of_ble_eq_true rfl) ⟨Nat.le_of_ble_eq_true rfl, Nat.le_of_ble_eq_true rfl⟩ (by decide +kernel) ?_
  show Ev l d mi_X10_worthOf 12 [some (.ref 65), some (.int p0)] [.int q1.1, .int (Int32.ofInt 4), .int ((Int8.ofInt 22).toInt32), .ref 104] (hp q1.2) 0 0 _
  obtain ⟨c2, hf⟩ := gd_some hf
  obtain ⟨v3, hv3, hf⟩ := lt_some hf
  refine Ev.blk (pc' := 15) [(.imul, 0, 0, 0), (.iadd, 0, 0, 0), (.iaload, 0, 0, 0)] (by decide +kernel) trivial rfl (And.intro (kc rfl rfl) (And.intro (ib_ok c2) (?_)))
  show Ev l d mi_X10_worthOf 15 [some (.ref 65), some (.int p0)] [.int (q1.2.1 104 (((Int8.ofInt 22).toInt32) + ((Int32.ofInt 4) * q1.1)).toNatClampNeg)] (hp q1.2) 0 0 _
  rw [← hv3]
  cases hf
  exact Ev.iret .int rfl rfl (by decide +kernel) (Nat.le_refl _) (Nat.le_refl _)
