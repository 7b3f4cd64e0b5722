/-! THE REFERENCE: functions and proofs, by program (wip/gen_model.py): X10_isForcedNow X10_forced X10_later X10_crop X10_spare X10_sow X10_deeper X10_refuses X10_see X10_isAsSeen X10_played X10_ways0 X10_ways1 X10_ways2 X10_ways3 X10_areMen X10_reached X10_keeps X10_undo X10_play -/
def f_X10_isForcedNow_j76 (k14 : Int32 → Int32 → Int32 → ST → Option (Int32 × ST)) (x1 : Int32) (x2 : Int32) (x3 : Int32) (y0 : Int32) (s : ST) : Option (Int32 × ST) := (f_X10_undoes (Int32.ofInt 1) s).bind (fun q16 => (if y0 = 0 then some ((Int32.ofInt 0), q16) else k14 x1 x2 (x3 + Int32.ofInt 1) q16))
set_option maxHeartbeats 2000000 in
set_option maxRecDepth 20000 in
theorem e_X10_isForcedNow_j76 {l : Launch} {d : Nat} (hd : 7 ≤ d) (k14 : Int32 → Int32 → Int32 → ST → Option (Int32 × ST)) (hk14 : ∀ (x1 : Int32) (x2 : Int32) (x3 : Int32) (s : ST) (r : Int32 × ST), k14 x1 x2 x3 s = some r → Ev l d mi_X10_isForcedNow 14 [some (.ref 65), some (.int x1), some (.int x2), some (.int x3), none] [] (hp s) 0 0 (some (.int r.1), hp r.2)) (x1 : Int32) (x2 : Int32) (x3 : Int32) (y0 : Int32) (s : ST) (r : Int32 × ST) (hf : f_X10_isForcedNow_j76 k14 x1 x2 x3 y0 s = some r) : Ev l d mi_X10_isForcedNow 76 [some (.ref 65), some (.int x1), some (.int x2), some (.int x3), none] [.int y0] (hp s) 0 0 (some (.int r.1), hp r.2) := by
  unfold f_X10_isForcedNow_j76 at hf
  refine Ev.blk (pc' := 80) [(.istore 4, 0, 0, 0), (.aload_n 0, 0, 0, 0), (.iconst 1, 0, 0, 0)] (by decide +kernel) trivial rfl (And.intro (Nat.le_of_ble_eq_true rfl) (?_))
  show Ev l d mi_X10_isForcedNow 80 [some (.ref 65), some (.int x1), some (.int x2), some (.int x3), some (.int y0)] [.int (Int32.ofInt 1), .ref 65] (hp s) 0 0 _
  obtain ⟨q16, hq16, hf⟩ := bd_some hf
  refine Ev.callV (o := 65) (M' := mi_X10_undoes) (d' := d - 1) (As := [.int (Int32.ofInt 1)]) (rest := []) (r' := (none, hp q16)) (e_X10_undoes (d := d - 1) (by omega) (Int32.ofInt 1) s _ hq16) (by omega) wm_X10_undoes wi_X10_undoes wv_X10_undoes km_10_503 (kc rfl rfl) (Nat.le_of_ble_eq_true rfl) rfl rfl rfl (Nat.le_of_ble_eq_true rfl) ⟨Nat.le_of_ble_eq_true rfl, Nat.le_of_ble_eq_true rfl⟩ (by decide +kernel) ?_
  show Ev l d mi_X10_isForcedNow 83 [some (.ref 65), some (.int x1), some (.int x2), some (.int x3), some (.int y0)] [] (hp q16) 0 0 _
  refine Ev.blk (pc' := 85) [(.iload 4, 0, 0, 0)] (by decide +kernel) trivial rfl (?_)
  show Ev l d mi_X10_isForcedNow 85 [some (.ref 65), some (.int x1), some (.int x2), some (.int x3), some (.int y0)] [.int y0] (hp q16) 0 0 _
  refine Ev.if_ne (off := 5) (tgt := 90) (by decide +kernel) (by decide) (fun b17 => ?_) (fun b17 => ?_)
  · have hf := (if_neg b17).symm.trans hf
    refine Ev.blk (pc' := 93) [(.iinc 3 1, 0, 0, 0)] (by decide +kernel) trivial rfl (And.intro (Nat.le_of_ble_eq_true rfl) (?_))
    show Ev l d mi_X10_isForcedNow 93 [some (.ref 65), some (.int x1), some (.int x2), some (.int (x3 + Int32.ofInt 1)), some (.int y0)] [] (hp q16) 0 0 _
    refine Ev.goto (off := -79) (tgt := 14) (by decide +kernel) (by decide) ?_
    exact Ev.wk (hk14 x1 x2 (x3 + Int32.ofInt 1) q16 _ hf) (And.intro (Or.inr rfl) (And.intro (Or.inr rfl) (And.intro (Or.inr rfl) (And.intro (Or.inr rfl) (And.intro (Or.inl rfl) (trivial))))))
  · have hf := (if_pos b17).symm.trans hf
    refine Ev.blk (pc' := 89) [(.iconst 0, 0, 0, 0)] (by decide +kernel) trivial rfl (?_)
    show Ev l d mi_X10_isForcedNow 89 [some (.ref 65), some (.int x1), some (.int x2), some (.int x3), some (.int y0)] [.int (Int32.ofInt 0)] (hp q16) 0 0 _
    cases hf
    exact Ev.iret .boolean rfl rfl (by decide +kernel) (Nat.le_refl _) (Nat.le_refl _)
def f_X10_isForcedNow_j75 (k14 : Int32 → Int32 → Int32 → ST → Option (Int32 × ST)) (x1 : Int32) (x2 : Int32) (x3 : Int32) (s : ST) : Option (Int32 × ST) := (f_X10_isForcedNow_j76 k14) x1 x2 x3 (Int32.ofInt 0) s
set_option maxHeartbeats 2000000 in
set_option maxRecDepth 20000 in
theorem e_X10_isForcedNow_j75 {l : Launch} {d : Nat} (hd : 7 ≤ d) (k14 : Int32 → Int32 → Int32 → ST → Option (Int32 × ST)) (hk14 : ∀ (x1 : Int32) (x2 : Int32) (x3 : Int32) (s : ST) (r : Int32 × ST), k14 x1 x2 x3 s = some r → Ev l d mi_X10_isForcedNow 14 [some (.ref 65), some (.int x1), some (.int x2), some (.int x3), none] [] (hp s) 0 0 (some (.int r.1), hp r.2)) (x1 : Int32) (x2 : Int32) (x3 : Int32) (s : ST) (r : Int32 × ST) (hf : f_X10_isForcedNow_j75 k14 x1 x2 x3 s = some r) : Ev l d mi_X10_isForcedNow 75 [some (.ref 65), some (.int x1), some (.int x2), some (.int x3), none] [] (hp s) 0 0 (some (.int r.1), hp r.2) := by
  unfold f_X10_isForcedNow_j75 at hf
  refine Ev.blk (pc' := 76) [(.iconst 0, 0, 0, 0)] (by decide +kernel) trivial rfl (?_)
  show Ev l d mi_X10_isForcedNow 76 [some (.ref 65), some (.int x1), some (.int x2), some (.int x3), none] [.int (Int32.ofInt 0)] (hp s) 0 0 _
  exact (e_X10_isForcedNow_j76 hd k14 hk14) x1 x2 x3 (Int32.ofInt 0) s _ hf
def f_X10_isForcedNow_L14 (k4 : Int32 → Int32 → ST → Option (Int32 × ST)) : Nat → Int32 → Int32 → Int32 → ST → Option (Int32 × ST)
  | 0, _, _, _, _ => none
  | n + 1, x1, x2, x3, s => (f_X10_places s).bind (fun q4 => (if q4.1 ≤ x3 then k4 x1 (x2 + Int32.ofInt 1) q4.2 else (f_X10_sideOf x2 q4.2).bind (fun q6 => gd (ib (Int32.ofInt 1) 225) ((if q6.1 = (q6.2.1 112 (Int32.ofInt 1).toNatClampNeg) then (f_X10_canGo x2 x3 q6.2).bind (fun q9 => (if q9.1 = 0 then (f_X10_isForcedNow_L14 k4 n) x1 x2 (x3 + Int32.ofInt 1) q9.2 else (f_X10_does (Int32.ofInt 1) x2 x3 q9.2).bind (fun q11 => (f_X10_isCrownTaken q11).bind (fun q12 => (if q12.1 = 0 then (f_X10_takesCrown q12.2).bind (fun q14 => (if q14.1 = 0 then (f_X10_isForcedNow_j75 (f_X10_isForcedNow_L14 k4 n)) (Int32.ofInt 1) x2 x3 q14.2 else (f_X10_isForcedNow_j76 (f_X10_isForcedNow_L14 k4 n)) (Int32.ofInt 1) x2 x3 (Int32.ofInt 1) q14.2)) else (f_X10_isForcedNow_j75 (f_X10_isForcedNow_L14 k4 n)) (Int32.ofInt 1) x2 x3 q12.2))))) else (f_X10_isForcedNow_L14 k4 n) x1 x2 (x3 + Int32.ofInt 1) q6.2)))))
set_option maxHeartbeats 2000000 in
set_option maxRecDepth 20000 in
theorem e_X10_isForcedNow_L14 {l : Launch} {d : Nat} (hd : 7 ≤ d) (k4 : Int32 → Int32 → ST → Option (Int32 × ST)) (hk4 : ∀ (x1 : Int32) (x2 : Int32) (s : ST) (r : Int32 × ST), k4 x1 x2 s = some r → Ev l d mi_X10_isForcedNow 4 [some (.ref 65), some (.int x1), some (.int x2), none, none] [] (hp s) 0 0 (some (.int r.1), hp r.2)) : ∀ (n : Nat) (x1 : Int32) (x2 : Int32) (x3 : Int32) (s : ST) (r : Int32 × ST), f_X10_isForcedNow_L14 k4 n x1 x2 x3 s = some r → Ev l d mi_X10_isForcedNow 14 [some (.ref 65), some (.int x1), some (.int x2), some (.int x3), none] [] (hp s) 0 0 (some (.int r.1), hp r.2) := by
  intro n
  induction n with
  | zero =>
    intro x1 x2 x3 s r hf
    cases hf
  | succ n ih =>
    intro x1 x2 x3 s r hf
    unfold f_X10_isForcedNow_L14 at hf
    refine Ev.blk (pc' := 16) [(.iload_n 3, 0, 0, 0), (.aload_n 0, 0, 0, 0)] (by decide +kernel) trivial rfl (?_)
    show Ev l d mi_X10_isForcedNow 16 [some (.ref 65), some (.int x1), some (.int x2), some (.int x3), none] [.ref 65, .int x3] (hp s) 0 0 _
    obtain ⟨q4, hq4, hf⟩ := bd_some hf
    refine Ev.callV (o := 65) (M' := mi_X10_places) (d' := d - 1) (As := []) (rest := [.int x3]) (r' := (some (.int q4.1), hp q4.2)) (e_X10_places (d := d - 1) (by omega) s _ hq4) (by omega) wm_X10_places wi_X10_places wv_X10_places km_10_471 (kc rfl rfl) (Nat.le_of_ble_eq_true rfl) rfl rfl rfl (Nat.le_of_ble_eq_true rfl) ⟨Nat.le_of_ble_eq_true rfl, Nat.le_of_ble_eq_true rfl⟩ (by decide +kernel) ?_
    show Ev l d mi_X10_isForcedNow 19 [some (.ref 65), some (.int x1), some (.int x2), some (.int x3), none] [.int q4.1, .int x3] (hp q4.2) 0 0 _
    refine Ev.icmp_ge (off := 77) (tgt := 96) (by decide +kernel) (by decide) (fun b5 => ?_) (fun b5 => ?_)
    · have hf := (if_pos b5).symm.trans hf
      refine Ev.blk (pc' := 99) [(.iinc 2 1, 0, 0, 0)] (by decide +kernel) trivial rfl (And.intro (Nat.le_of_ble_eq_true rfl) (?_))
      show Ev l d mi_X10_isForcedNow 99 [some (.ref 65), some (.int x1), some (.int (x2 + Int32.ofInt 1)), some (.int x3), none] [] (hp q4.2) 0 0 _
      refine Ev.goto (off := -95) (tgt := 4) (by decide +kernel) (by decide) ?_
      exact Ev.wk (hk4 x1 (x2 + Int32.ofInt 1) q4.2 _ hf) (And.intro (Or.inr rfl) (And.intro (Or.inr rfl) (And.intro (Or.inr rfl) (And.intro (Or.inl rfl) (And.intro (Or.inr rfl) (trivial))))))
    · have hf := (if_neg b5).symm.trans hf
      refine Ev.blk (pc' := 24) [(.aload_n 0, 0, 0, 0), (.iload_n 2, 0, 0, 0)] (by decide +kernel) trivial rfl (?_)
      show Ev l d mi_X10_isForcedNow 24 [some (.ref 65), some (.int x1), some (.int x2), some (.int x3), none] [.int x2, .ref 65] (hp q4.2) 0 0 _
      obtain ⟨q6, hq6, hf⟩ := bd_some hf
      refine Ev.callV (o := 65) (M' := mi_X10_sideOf) (d' := d - 1) (As := [.int x2]) (rest := []) (r' := (some (.int q6.1), hp q6.2)) (e_X10_sideOf (d := d - 1) (by omega) x2 q4.2 _ hq6) (by omega) wm_X10_sideOf wi_X10_sideOf wv_X10_sideOf km_10_468 (kc rfl rfl) (Nat.le_of_ble_eq_true rfl) rfl rfl rfl (Nat.le_of_ble_eq_true rfl) ⟨Nat.le_of_ble_eq_true rfl, Nat.le_of_ble_eq_true rfl⟩ (by decide +kernel) ?_
      show Ev l d mi_X10_isForcedNow 27 [some (.ref 65), some (.int x1), some (.int x2), some (.int x3), none] [.int q6.1] (hp q6.2) 0 0 _
      obtain ⟨c7, hf⟩ := gd_some hf
      refine Ev.blk (pc' := 33) [(.aload_n 0, 0, 0, 0), (.getfield 154, 0, 10, 62), (.iconst 1, 0, 0, 0), (.iaload, 0, 0, 0)] (by decide +kernel) ⟨kf_10_154, trivial⟩ rfl (And.intro (kc rfl rfl) (Exists.intro 112 (And.intro rfl (And.intro (kc rfl rfl) (And.intro (ib_ok c7) (?_))))))
      show Ev l d mi_X10_isForcedNow 33 [some (.ref 65), some (.int x1), some (.int x2), some (.int x3), none] [.int (q6.2.1 112 (Int32.ofInt 1).toNatClampNeg), .int q6.1] (hp q6.2) 0 0 _
      refine Ev.icmp_ne (off := 57) (tgt := 90) (by decide +kernel) (by decide) (fun b8 => ?_) (fun b8 => ?_)
      · have hf := (if_neg b8).symm.trans hf
        refine Ev.blk (pc' := 93) [(.iinc 3 1, 0, 0, 0)] (by decide +kernel) trivial rfl (And.intro (Nat.le_of_ble_eq_true rfl) (?_))
        show Ev l d mi_X10_isForcedNow 93 [some (.ref 65), some (.int x1), some (.int x2), some (.int (x3 + Int32.ofInt 1)), none] [] (hp q6.2) 0 0 _
        refine Ev.goto (off := -79) (tgt := 14) (by decide +kernel) (by decide) ?_
        exact ih x1 x2 (x3 + Int32.ofInt 1) q6.2 _ hf
      · have hf := (if_pos b8).symm.trans hf
        refine Ev.blk (pc' := 39) [(.aload_n 0, 0, 0, 0), (.iload_n 2, 0, 0, 0), (.iload_n 3, 0, 0, 0)] (by decide +kernel) trivial rfl (?_)
        show Ev l d mi_X10_isForcedNow 39 [some (.ref 65), some (.int x1), some (.int x2), some (.int x3), none] [.int x3, .int x2, .ref 65] (hp q6.2) 0 0 _
        obtain ⟨q9, hq9, hf⟩ := bd_some hf
        refine Ev.callV (o := 65) (M' := mi_X10_canGo) (d' := d - 1) (As := [.int x2, .int x3]) (rest := []) (r' := (some (.int q9.1), hp q9.2)) (e_X10_canGo (d := d - 1) (by omega) x2 x3 q6.2 _ hq9) (by omega) wm_X10_canGo wi_X10_canGo wv_X10_canGo km_10_474 (kc rfl rfl) (Nat.le_of_ble_eq_true rfl) rfl rfl rfl (Nat.le_of_ble_eq_true rfl) ⟨Nat.le_of_ble_eq_true rfl, Nat.le_of_ble_eq_true rfl⟩ (by decide +kernel) ?_
        show Ev l d mi_X10_isForcedNow 42 [some (.ref 65), some (.int x1), some (.int x2), some (.int x3), none] [.int q9.1] (hp q9.2) 0 0 _
        refine Ev.if_ne (off := 6) (tgt := 48) (by decide +kernel) (by decide) (fun b10 => ?_) (fun b10 => ?_)
        · have hf := (if_neg b10).symm.trans hf
          refine Ev.blk (pc' := 54) [(.iconst 1, 0, 0, 0), (.istore_n 1, 0, 0, 0), (.aload_n 0, 0, 0, 0), (.iconst 1, 0, 0, 0), (.iload_n 2, 0, 0, 0), (.iload_n 3, 0, 0, 0)] (by decide +kernel) trivial rfl (And.intro (Nat.le_of_ble_eq_true rfl) (?_))
          show Ev l d mi_X10_isForcedNow 54 [some (.ref 65), some (.int (Int32.ofInt 1)), some (.int x2), some (.int x3), none] [.int x3, .int x2, .int (Int32.ofInt 1), .ref 65] (hp q9.2) 0 0 _
          obtain ⟨q11, hq11, hf⟩ := bd_some hf
          refine Ev.callV (o := 65) (M' := mi_X10_does) (d' := d - 1) (As := [.int (Int32.ofInt 1), .int x2, .int x3]) (rest := []) (r' := (none, hp q11)) (e_X10_does (d := d - 1) (by omega) (Int32.ofInt 1) x2 x3 q9.2 _ hq11) (by omega) wm_X10_does wi_X10_does wv_X10_does km_10_496 (kc rfl rfl) (Nat.le_of_ble_eq_true rfl) rfl rfl rfl (Nat.le_of_ble_eq_true rfl) ⟨Nat.le_of_ble_eq_true rfl, Nat.le_of_ble_eq_true rfl⟩ (by decide +kernel) ?_
          show Ev l d mi_X10_isForcedNow 57 [some (.ref 65), some (.int (Int32.ofInt 1)), some (.int x2), some (.int x3), none] [] (hp q11) 0 0 _
          refine Ev.blk (pc' := 58) [(.aload_n 0, 0, 0, 0)] (by decide +kernel) trivial rfl (?_)
          show Ev l d mi_X10_isForcedNow 58 [some (.ref 65), some (.int (Int32.ofInt 1)), some (.int x2), some (.int x3), none] [.ref 65] (hp q11) 0 0 _
          obtain ⟨q12, hq12, hf⟩ := bd_some hf
          refine Ev.callV (o := 65) (M' := mi_X10_isCrownTaken) (d' := d - 1) (As := []) (rest := []) (r' := (some (.int q12.1), hp q12.2)) (e_X10_isCrownTaken (d := d - 1) (by omega) q11 _ hq12) (by omega) wm_X10_isCrownTaken wi_X10_isCrownTaken wv_X10_isCrownTaken km_10_484 (kc rfl rfl) (Nat.le_of_ble_eq_true rfl) rfl rfl rfl (Nat.le_of_ble_eq_true rfl) ⟨Nat.le_of_ble_eq_true rfl, Nat.le_of_ble_eq_true rfl⟩ (by decide +kernel) ?_
          show Ev l d mi_X10_isForcedNow 61 [some (.ref 65), some (.int (Int32.ofInt 1)), some (.int x2), some (.int x3), none] [.int q12.1] (hp q12.2) 0 0 _
          refine Ev.if_ne (off := 14) (tgt := 75) (by decide +kernel) (by decide) (fun b13 => ?_) (fun b13 => ?_)
          · have hf := (if_neg b13).symm.trans hf
            exact (e_X10_isForcedNow_j75 hd (f_X10_isForcedNow_L14 k4 n) ih) (Int32.ofInt 1) x2 x3 q12.2 _ hf
          · have hf := (if_pos b13).symm.trans hf
            refine Ev.blk (pc' := 65) [(.aload_n 0, 0, 0, 0)] (by decide +kernel) trivial rfl (?_)
            show Ev l d mi_X10_isForcedNow 65 [some (.ref 65), some (.int (Int32.ofInt 1)), some (.int x2), some (.int x3), none] [.ref 65] (hp q12.2) 0 0 _
            obtain ⟨q14, hq14, hf⟩ := bd_some hf
            refine Ev.callV (o := 65) (M' := mi_X10_takesCrown) (d' := d - 1) (As := []) (rest := []) (r' := (some (.int q14.1), hp q14.2)) (e_X10_takesCrown (d := d - 1) (by omega) q12.2 _ hq14) (by omega) wm_X10_takesCrown wi_X10_takesCrown wv_X10_takesCrown km_10_612 (kc rfl rfl) (Nat.le_of_ble_eq_true rfl) rfl rfl rfl (Nat.le_of_ble_eq_true rfl) ⟨Nat.le_of_ble_eq_true rfl, Nat.le_of_ble_eq_true rfl⟩ (by decide +kernel) ?_
            show Ev l d mi_X10_isForcedNow 68 [some (.ref 65), some (.int (Int32.ofInt 1)), some (.int x2), some (.int x3), none] [.int q14.1] (hp q14.2) 0 0 _
            refine Ev.if_eq (off := 7) (tgt := 75) (by decide +kernel) (by decide) (fun b15 => ?_) (fun b15 => ?_)
            · have hf := (if_pos b15).symm.trans hf
              exact (e_X10_isForcedNow_j75 hd (f_X10_isForcedNow_L14 k4 n) ih) (Int32.ofInt 1) x2 x3 q14.2 _ hf
            · have hf := (if_neg b15).symm.trans hf
              refine Ev.blk (pc' := 72) [(.iconst 1, 0, 0, 0)] (by decide +kernel) trivial rfl (?_)
              show Ev l d mi_X10_isForcedNow 72 [some (.ref 65), some (.int (Int32.ofInt 1)), some (.int x2), some (.int x3), none] [.int (Int32.ofInt 1)] (hp q14.2) 0 0 _
              refine Ev.goto (off := 4) (tgt := 76) (by decide +kernel) (by decide) ?_
              exact (e_X10_isForcedNow_j76 hd (f_X10_isForcedNow_L14 k4 n) ih) (Int32.ofInt 1) x2 x3 (Int32.ofInt 1) q14.2 _ hf
        · have hf := (if_pos b10).symm.trans hf
          refine Ev.goto (off := 45) (tgt := 90) (by decide +kernel) (by decide) ?_
          refine Ev.blk (pc' := 93) [(.iinc 3 1, 0, 0, 0)] (by decide +kernel) trivial rfl (And.intro (Nat.le_of_ble_eq_true rfl) (?_))
          show Ev l d mi_X10_isForcedNow 93 [some (.ref 65), some (.int x1), some (.int x2), some (.int (x3 + Int32.ofInt 1)), none] [] (hp q9.2) 0 0 _
          refine Ev.goto (off := -79) (tgt := 14) (by decide +kernel) (by decide) ?_
          exact ih x1 x2 (x3 + Int32.ofInt 1) q9.2 _ hf
def f_X10_isForcedNow_L4 : Nat → Int32 → Int32 → ST → Option (Int32 × ST)
  | 0, _, _, _ => none
  | n + 1, x1, x2, s => (f_X10_manMany s).bind (fun q1 => (if q1.1 ≤ x2 then gd (nb x1) (some (x1, q1.2)) else (f_X10_isForcedNow_L14 (f_X10_isForcedNow_L4 n) fuel) x1 x2 (Int32.ofInt 0) q1.2))
set_option maxHeartbeats 2000000 in
set_option maxRecDepth 20000 in
theorem e_X10_isForcedNow_L4 {l : Launch} {d : Nat} (hd : 7 ≤ d) : ∀ (n : Nat) (x1 : Int32) (x2 : Int32) (s : ST) (r : Int32 × ST), f_X10_isForcedNow_L4 n x1 x2 s = some r → Ev l d mi_X10_isForcedNow 4 [some (.ref 65), some (.int x1), some (.int x2), none, none] [] (hp s) 0 0 (some (.int r.1), hp r.2) := by
  intro n
  induction n with
  | zero =>
    intro x1 x2 s r hf
    cases hf
  | succ n ih =>
    intro x1 x2 s r hf
    unfold f_X10_isForcedNow_L4 at hf
    refine Ev.blk (pc' := 6) [(.iload_n 2, 0, 0, 0), (.aload_n 0, 0, 0, 0)] (by decide +kernel) trivial rfl (?_)
    show Ev l d mi_X10_isForcedNow 6 [some (.ref 65), some (.int x1), some (.int x2), none, none] [.ref 65, .int x2] (hp s) 0 0 _
    obtain ⟨q1, hq1, hf⟩ := bd_some hf
    refine Ev.callV (o := 65) (M' := mi_X10_manMany) (d' := d - 1) (As := []) (rest := [.int x2]) (r' := (some (.int q1.1), hp q1.2)) (e_X10_manMany (d := d - 1) (by omega) s _ hq1) (by omega) wm_X10_manMany wi_X10_manMany wv_X10_manMany km_10_433 (kc rfl rfl) (Nat.le_of_ble_eq_true rfl) rfl rfl rfl (Nat.le_of_ble_eq_true rfl) ⟨Nat.le_of_ble_eq_true rfl, Nat.le_of_ble_eq_true rfl⟩ (by decide +kernel) ?_
    show Ev l d mi_X10_isForcedNow 9 [some (.ref 65), some (.int x1), some (.int x2), none, none] [.int q1.1, .int x2] (hp q1.2) 0 0 _
    refine Ev.icmp_ge (off := 93) (tgt := 102) (by decide +kernel) (by decide) (fun b2 => ?_) (fun b2 => ?_)
    · have hf := (if_pos b2).symm.trans hf
      refine Ev.blk (pc' := 103) [(.iload_n 1, 0, 0, 0)] (by decide +kernel) trivial rfl (?_)
      show Ev l d mi_X10_isForcedNow 103 [some (.ref 65), some (.int x1), some (.int x2), none, none] [.int x1] (hp q1.2) 0 0 _
      obtain ⟨c3, hf⟩ := gd_some hf
      cases hf
      exact Ev.iret .boolean rfl (nb_ok c3) (by decide +kernel) (Nat.le_refl _) (Nat.le_refl _)
    · have hf := (if_neg b2).symm.trans hf
      refine Ev.blk (pc' := 14) [(.iconst 0, 0, 0, 0), (.istore_n 3, 0, 0, 0)] (by decide +kernel) trivial rfl (And.intro (Nat.le_of_ble_eq_true rfl) (?_))
      show Ev l d mi_X10_isForcedNow 14 [some (.ref 65), some (.int x1), some (.int x2), some (.int (Int32.ofInt 0)), none] [] (hp q1.2) 0 0 _
      exact (e_X10_isForcedNow_L14 hd (f_X10_isForcedNow_L4 n) ih fuel) x1 x2 (Int32.ofInt 0) q1.2 _ hf
def f_X10_isForcedNow (s : ST) : Option (Int32 × ST) := (f_X10_isForcedNow_L4 fuel) (Int32.ofInt 0) (Int32.ofInt 0) s
set_option maxHeartbeats 2000000 in
set_option maxRecDepth 20000 in
theorem e_X10_isForcedNow {l : Launch} {d : Nat} (hd : 7 ≤ d) (s : ST) (r : Int32 × ST) (hf : f_X10_isForcedNow s = some r) : Cl l d mi_X10_isForcedNow [.ref 65] (hp s) (some (.int r.1), hp r.2) := by
  refine Ev.entry (by decide +kernel) rfl rfl ?_
  show Ev l d mi_X10_isForcedNow 0 [some (.ref 65), none, none, none, none] [] (hp s) 0 0 _
  unfold f_X10_isForcedNow at hf
  refine Ev.blk (pc' := 4) [(.iconst 0, 0, 0, 0), (.istore_n 1, 0, 0, 0), (.iconst 0, 0, 0, 0), (.istore_n 2, 0, 0, 0)] (by decide +kernel) trivial rfl (And.intro (Nat.le_of_ble_eq_true rfl) (And.intro (Nat.le_of_ble_eq_true rfl) (?_)))
  show Ev l d mi_X10_isForcedNow 4 [some (.ref 65), some (.int (Int32.ofInt 0)), some (.int (Int32.ofInt 0)), none, none] [] (hp s) 0 0 _
  exact (e_X10_isForcedNow_L4 hd fuel) (Int32.ofInt 0) (Int32.ofInt 0) s _ hf
def f_X10_forced_j107 (k43 : Int32 → Int32 → Int32 → ST → Option (Int32 × ST)) (x2 : Int32) (x3 : Int32) (y0 : Int32) (s : ST) : Option (Int32 × ST) := (f_X10_undoes (Int32.ofInt 0) s).bind (fun q23 => k43 y0 x2 (x3 + Int32.ofInt 1) q23)
set_option maxHeartbeats 2000000 in
set_option maxRecDepth 20000 in
theorem e_X10_forced_j107 {l : Launch} {d : Nat} (hd : 8 ≤ d) (k43 : Int32 → Int32 → Int32 → ST → Option (Int32 × ST)) (hk43 : ∀ (x1 : Int32) (x2 : Int32) (x3 : Int32) (s : ST) (r : Int32 × ST), k43 x1 x2 x3 s = some r → Ev l d mi_X10_forced 43 [some (.ref 65), some (.int x1), some (.int x2), some (.int x3)] [] (hp s) 0 0 (some (.int r.1), hp r.2)) (x2 : Int32) (x3 : Int32) (y0 : Int32) (s : ST) (r : Int32 × ST) (hf : f_X10_forced_j107 k43 x2 x3 y0 s = some r) : Ev l d mi_X10_forced 107 [some (.ref 65), none, some (.int x2), some (.int x3)] [.int y0] (hp s) 0 0 (some (.int r.1), hp r.2) := by
  unfold f_X10_forced_j107 at hf
  refine Ev.blk (pc' := 110) [(.istore_n 1, 0, 0, 0), (.aload_n 0, 0, 0, 0), (.iconst 0, 0, 0, 0)] (by decide +kernel) trivial rfl (And.intro (Nat.le_of_ble_eq_true rfl) (?_))
  show Ev l d mi_X10_forced 110 [some (.ref 65), some (.int y0), some (.int x2), some (.int x3)] [.int (Int32.ofInt 0), .ref 65] (hp s) 0 0 _
  obtain ⟨q23, hq23, hf⟩ := bd_some hf
  refine Ev.callV (o := 65) (M' := mi_X10_undoes) (d' := d - 1) (As := [.int (Int32.ofInt 0)]) (rest := []) (r' := (none, hp q23)) (e_X10_undoes (d := d - 1) (by omega) (Int32.ofInt 0) s _ hq23) (by omega) wm_X10_undoes wi_X10_undoes wv_X10_undoes km_10_503 (kc rfl rfl) (Nat.le_of_ble_eq_true rfl) rfl rfl rfl (Nat.le_of_ble_eq_true rfl) ⟨Nat.le_of_ble_eq_true rfl, Nat.le_of_ble_eq_true rfl⟩ (by decide +kernel) ?_
  show Ev l d mi_X10_forced 113 [some (.ref 65), some (.int y0), some (.int x2), some (.int x3)] [] (hp q23) 0 0 _
  refine Ev.blk (pc' := 116) [(.iinc 3 1, 0, 0, 0)] (by decide +kernel) trivial rfl (And.intro (Nat.le_of_ble_eq_true rfl) (?_))
  show Ev l d mi_X10_forced 116 [some (.ref 65), some (.int y0), some (.int x2), some (.int (x3 + Int32.ofInt 1))] [] (hp q23) 0 0 _
  refine Ev.goto (off := -73) (tgt := 43) (by decide +kernel) (by decide) ?_
  exact hk43 y0 x2 (x3 + Int32.ofInt 1) q23 _ hf
def f_X10_forced_j106 (k43 : Int32 → Int32 → Int32 → ST → Option (Int32 × ST)) (x2 : Int32) (x3 : Int32) (s : ST) : Option (Int32 × ST) := (f_X10_forced_j107 k43) x2 x3 (Int32.ofInt 0) s
set_option maxHeartbeats 2000000 in
set_option maxRecDepth 20000 in
theorem e_X10_forced_j106 {l : Launch} {d : Nat} (hd : 8 ≤ d) (k43 : Int32 → Int32 → Int32 → ST → Option (Int32 × ST)) (hk43 : ∀ (x1 : Int32) (x2 : Int32) (x3 : Int32) (s : ST) (r : Int32 × ST), k43 x1 x2 x3 s = some r → Ev l d mi_X10_forced 43 [some (.ref 65), some (.int x1), some (.int x2), some (.int x3)] [] (hp s) 0 0 (some (.int r.1), hp r.2)) (x2 : Int32) (x3 : Int32) (s : ST) (r : Int32 × ST) (hf : f_X10_forced_j106 k43 x2 x3 s = some r) : Ev l d mi_X10_forced 106 [some (.ref 65), none, some (.int x2), some (.int x3)] [] (hp s) 0 0 (some (.int r.1), hp r.2) := by
  unfold f_X10_forced_j106 at hf
  refine Ev.blk (pc' := 107) [(.iconst 0, 0, 0, 0)] (by decide +kernel) trivial rfl (?_)
  show Ev l d mi_X10_forced 107 [some (.ref 65), none, some (.int x2), some (.int x3)] [.int (Int32.ofInt 0)] (hp s) 0 0 _
  exact (e_X10_forced_j107 hd k43 hk43) x2 x3 (Int32.ofInt 0) s _ hf
def f_X10_forced_L43 (k29 : Int32 → Int32 → ST → Option (Int32 × ST)) : Nat → Int32 → Int32 → Int32 → ST → Option (Int32 × ST)
  | 0, _, _, _, _ => none
  | n + 1, x1, x2, x3, s => (f_X10_places s).bind (fun q9 => (if q9.1 ≤ x3 then k29 x1 (x2 + Int32.ofInt 1) q9.2 else (if x1 = 0 then (f_X10_sideOf x2 q9.2).bind (fun q12 => gd (ib (Int32.ofInt 1) 225) ((if q12.1 = (q12.2.1 112 (Int32.ofInt 1).toNatClampNeg) then (f_X10_canGo x2 x3 q12.2).bind (fun q15 => (if q15.1 = 0 then (f_X10_forced_L43 k29 n) x1 x2 (x3 + Int32.ofInt 1) q15.2 else (f_X10_does (Int32.ofInt 0) x2 x3 q15.2).bind (fun q17 => (f_X10_isCrownTaken q17).bind (fun q18 => (if q18.1 = 0 then (f_X10_isForcedNow q18.2).bind (fun q20 => (if q20.1 = 0 then (f_X10_forced_j106 (f_X10_forced_L43 k29 n)) x2 x3 q20.2 else (f_X10_forced_j107 (f_X10_forced_L43 k29 n)) x2 x3 (Int32.ofInt 1) q20.2)) else (f_X10_forced_j106 (f_X10_forced_L43 k29 n)) x2 x3 q18.2))))) else (f_X10_forced_L43 k29 n) x1 x2 (x3 + Int32.ofInt 1) q12.2))) else k29 x1 (x2 + Int32.ofInt 1) q9.2)))
set_option maxHeartbeats 2000000 in
set_option maxRecDepth 20000 in
theorem e_X10_forced_L43 {l : Launch} {d : Nat} (hd : 8 ≤ d) (k29 : Int32 → Int32 → ST → Option (Int32 × ST)) (hk29 : ∀ (x1 : Int32) (x2 : Int32) (s : ST) (r : Int32 × ST), k29 x1 x2 s = some r → Ev l d mi_X10_forced 29 [some (.ref 65), some (.int x1), some (.int x2), none] [] (hp s) 0 0 (some (.int r.1), hp r.2)) : ∀ (n : Nat) (x1 : Int32) (x2 : Int32) (x3 : Int32) (s : ST) (r : Int32 × ST), f_X10_forced_L43 k29 n x1 x2 x3 s = some r → Ev l d mi_X10_forced 43 [some (.ref 65), some (.int x1), some (.int x2), some (.int x3)] [] (hp s) 0 0 (some (.int r.1), hp r.2) := by
  intro n
  induction n with
  | zero =>
    intro x1 x2 x3 s r hf
    cases hf
  | succ n ih =>
    intro x1 x2 x3 s r hf
    unfold f_X10_forced_L43 at hf
    refine Ev.blk (pc' := 45) [(.iload_n 3, 0, 0, 0), (.aload_n 0, 0, 0, 0)] (by decide +kernel) trivial rfl (?_)
    show Ev l d mi_X10_forced 45 [some (.ref 65), some (.int x1), some (.int x2), some (.int x3)] [.ref 65, .int x3] (hp s) 0 0 _
    obtain ⟨q9, hq9, hf⟩ := bd_some hf
    refine Ev.callV (o := 65) (M' := mi_X10_places) (d' := d - 1) (As := []) (rest := [.int x3]) (r' := (some (.int q9.1), hp q9.2)) (e_X10_places (d := d - 1) (by omega) s _ hq9) (by omega) wm_X10_places wi_X10_places wv_X10_places km_10_471 (kc rfl rfl) (Nat.le_of_ble_eq_true rfl) rfl rfl rfl (Nat.le_of_ble_eq_true rfl) ⟨Nat.le_of_ble_eq_true rfl, Nat.le_of_ble_eq_true rfl⟩ (by decide +kernel) ?_
    show Ev l d mi_X10_forced 48 [some (.ref 65), some (.int x1), some (.int x2), some (.int x3)] [.int q9.1, .int x3] (hp q9.2) 0 0 _
    refine Ev.icmp_ge (off := 71) (tgt := 119) (by decide +kernel) (by decide) (fun b10 => ?_) (fun b10 => ?_)
    · have hf := (if_pos b10).symm.trans hf
      refine Ev.blk (pc' := 122) [(.iinc 2 1, 0, 0, 0)] (by decide +kernel) trivial rfl (And.intro (Nat.le_of_ble_eq_true rfl) (?_))
      show Ev l d mi_X10_forced 122 [some (.ref 65), some (.int x1), some (.int (x2 + Int32.ofInt 1)), some (.int x3)] [] (hp q9.2) 0 0 _
      refine Ev.goto (off := -93) (tgt := 29) (by decide +kernel) (by decide) ?_
      exact Ev.wk (hk29 x1 (x2 + Int32.ofInt 1) q9.2 _ hf) (And.intro (Or.inr rfl) (And.intro (Or.inr rfl) (And.intro (Or.inr rfl) (And.intro (Or.inl rfl) (trivial)))))
    · have hf := (if_neg b10).symm.trans hf
      refine Ev.blk (pc' := 52) [(.iload_n 1, 0, 0, 0)] (by decide +kernel) trivial rfl (?_)
      show Ev l d mi_X10_forced 52 [some (.ref 65), some (.int x1), some (.int x2), some (.int x3)] [.int x1] (hp q9.2) 0 0 _
      refine Ev.if_ne (off := 67) (tgt := 119) (by decide +kernel) (by decide) (fun b11 => ?_) (fun b11 => ?_)
      · have hf := (if_neg b11).symm.trans hf
        refine Ev.blk (pc' := 122) [(.iinc 2 1, 0, 0, 0)] (by decide +kernel) trivial rfl (And.intro (Nat.le_of_ble_eq_true rfl) (?_))
        show Ev l d mi_X10_forced 122 [some (.ref 65), some (.int x1), some (.int (x2 + Int32.ofInt 1)), some (.int x3)] [] (hp q9.2) 0 0 _
        refine Ev.goto (off := -93) (tgt := 29) (by decide +kernel) (by decide) ?_
        exact Ev.wk (hk29 x1 (x2 + Int32.ofInt 1) q9.2 _ hf) (And.intro (Or.inr rfl) (And.intro (Or.inr rfl) (And.intro (Or.inr rfl) (And.intro (Or.inl rfl) (trivial)))))
      · have hf := (if_pos b11).symm.trans hf
        refine Ev.blk (pc' := 57) [(.aload_n 0, 0, 0, 0), (.iload_n 2, 0, 0, 0)] (by decide +kernel) trivial rfl (?_)
        show Ev l d mi_X10_forced 57 [some (.ref 65), some (.int x1), some (.int x2), some (.int x3)] [.int x2, .ref 65] (hp q9.2) 0 0 _
        obtain ⟨q12, hq12, hf⟩ := bd_some hf
        refine Ev.callV (o := 65) (M' := mi_X10_sideOf) (d' := d - 1) (As := [.int x2]) (rest := []) (r' := (some (.int q12.1), hp q12.2)) (e_X10_sideOf (d := d - 1) (by omega) x2 q9.2 _ hq12) (by omega) wm_X10_sideOf wi_X10_sideOf wv_X10_sideOf km_10_468 (kc rfl rfl) (Nat.le_of_ble_eq_true rfl) rfl rfl rfl (Nat.le_of_ble_eq_true rfl) ⟨Nat.le_of_ble_eq_true rfl, Nat.le_of_ble_eq_true rfl⟩ (by decide +kernel) ?_
        show Ev l d mi_X10_forced 60 [some (.ref 65), some (.int x1), some (.int x2), some (.int x3)] [.int q12.1] (hp q12.2) 0 0 _
        obtain ⟨c13, hf⟩ := gd_some hf
        refine Ev.blk (pc' := 66) [(.aload_n 0, 0, 0, 0), (.getfield 154, 0, 10, 62), (.iconst 1, 0, 0, 0), (.iaload, 0, 0, 0)] (by decide +kernel) ⟨kf_10_154, trivial⟩ rfl (And.intro (kc rfl rfl) (Exists.intro 112 (And.intro rfl (And.intro (kc rfl rfl) (And.intro (ib_ok c13) (?_))))))
        show Ev l d mi_X10_forced 66 [some (.ref 65), some (.int x1), some (.int x2), some (.int x3)] [.int (q12.2.1 112 (Int32.ofInt 1).toNatClampNeg), .int q12.1] (hp q12.2) 0 0 _
        refine Ev.icmp_ne (off := 47) (tgt := 113) (by decide +kernel) (by decide) (fun b14 => ?_) (fun b14 => ?_)
        · have hf := (if_neg b14).symm.trans hf
          refine Ev.blk (pc' := 116) [(.iinc 3 1, 0, 0, 0)] (by decide +kernel) trivial rfl (And.intro (Nat.le_of_ble_eq_true rfl) (?_))
          show Ev l d mi_X10_forced 116 [some (.ref 65), some (.int x1), some (.int x2), some (.int (x3 + Int32.ofInt 1))] [] (hp q12.2) 0 0 _
          refine Ev.goto (off := -73) (tgt := 43) (by decide +kernel) (by decide) ?_
          exact ih x1 x2 (x3 + Int32.ofInt 1) q12.2 _ hf
        · have hf := (if_pos b14).symm.trans hf
          refine Ev.blk (pc' := 72) [(.aload_n 0, 0, 0, 0), (.iload_n 2, 0, 0, 0), (.iload_n 3, 0, 0, 0)] (by decide +kernel) trivial rfl (?_)
          show Ev l d mi_X10_forced 72 [some (.ref 65), some (.int x1), some (.int x2), some (.int x3)] [.int x3, .int x2, .ref 65] (hp q12.2) 0 0 _
          obtain ⟨q15, hq15, hf⟩ := bd_some hf
          refine Ev.callV (o := 65) (M' := mi_X10_canGo) (d' := d - 1) (As := [.int x2, .int x3]) (rest := []) (r' := (some (.int q15.1), hp q15.2)) (e_X10_canGo (d := d - 1) (by omega) x2 x3 q12.2 _ hq15) (by omega) wm_X10_canGo wi_X10_canGo wv_X10_canGo km_10_474 (kc rfl rfl) (Nat.le_of_ble_eq_true rfl) rfl rfl rfl (Nat.le_of_ble_eq_true rfl) ⟨Nat.le_of_ble_eq_true rfl, Nat.le_of_ble_eq_true rfl⟩ (by decide +kernel) ?_
          show Ev l d mi_X10_forced 75 [some (.ref 65), some (.int x1), some (.int x2), some (.int x3)] [.int q15.1] (hp q15.2) 0 0 _
          refine Ev.if_ne (off := 6) (tgt := 81) (by decide +kernel) (by decide) (fun b16 => ?_) (fun b16 => ?_)
          · have hf := (if_neg b16).symm.trans hf
            refine Ev.blk (pc' := 85) [(.aload_n 0, 0, 0, 0), (.iconst 0, 0, 0, 0), (.iload_n 2, 0, 0, 0), (.iload_n 3, 0, 0, 0)] (by decide +kernel) trivial rfl (?_)
            show Ev l d mi_X10_forced 85 [some (.ref 65), some (.int x1), some (.int x2), some (.int x3)] [.int x3, .int x2, .int (Int32.ofInt 0), .ref 65] (hp q15.2) 0 0 _
            obtain ⟨q17, hq17, hf⟩ := bd_some hf
            refine Ev.callV (o := 65) (M' := mi_X10_does) (d' := d - 1) (As := [.int (Int32.ofInt 0), .int x2, .int x3]) (rest := []) (r' := (none, hp q17)) (e_X10_does (d := d - 1) (by omega) (Int32.ofInt 0) x2 x3 q15.2 _ hq17) (by omega) wm_X10_does wi_X10_does wv_X10_does km_10_496 (kc rfl rfl) (Nat.le_of_ble_eq_true rfl) rfl rfl rfl (Nat.le_of_ble_eq_true rfl) ⟨Nat.le_of_ble_eq_true rfl, Nat.le_of_ble_eq_true rfl⟩ (by decide +kernel) ?_
            show Ev l d mi_X10_forced 88 [some (.ref 65), some (.int x1), some (.int x2), some (.int x3)] [] (hp q17) 0 0 _
            refine Ev.blk (pc' := 89) [(.aload_n 0, 0, 0, 0)] (by decide +kernel) trivial rfl (?_)
            show Ev l d mi_X10_forced 89 [some (.ref 65), some (.int x1), some (.int x2), some (.int x3)] [.ref 65] (hp q17) 0 0 _
            obtain ⟨q18, hq18, hf⟩ := bd_some hf
            refine Ev.callV (o := 65) (M' := mi_X10_isCrownTaken) (d' := d - 1) (As := []) (rest := []) (r' := (some (.int q18.1), hp q18.2)) (e_X10_isCrownTaken (d := d - 1) (by omega) q17 _ hq18) (by omega) wm_X10_isCrownTaken wi_X10_isCrownTaken wv_X10_isCrownTaken km_10_484 (kc rfl rfl) (Nat.le_of_ble_eq_true rfl) rfl rfl rfl (Nat.le_of_ble_eq_true rfl) ⟨Nat.le_of_ble_eq_true rfl, Nat.le_of_ble_eq_true rfl⟩ (by decide +kernel) ?_
            show Ev l d mi_X10_forced 92 [some (.ref 65), some (.int x1), some (.int x2), some (.int x3)] [.int q18.1] (hp q18.2) 0 0 _
            refine Ev.if_ne (off := 14) (tgt := 106) (by decide +kernel) (by decide) (fun b19 => ?_) (fun b19 => ?_)
            · have hf := (if_neg b19).symm.trans hf
              exact Ev.wk ((e_X10_forced_j106 hd (f_X10_forced_L43 k29 n) ih) x2 x3 q18.2 _ hf) (And.intro (Or.inr rfl) (And.intro (Or.inl rfl) (And.intro (Or.inr rfl) (And.intro (Or.inr rfl) (trivial)))))
            · have hf := (if_pos b19).symm.trans hf
              refine Ev.blk (pc' := 96) [(.aload_n 0, 0, 0, 0)] (by decide +kernel) trivial rfl (?_)
              show Ev l d mi_X10_forced 96 [some (.ref 65), some (.int x1), some (.int x2), some (.int x3)] [.ref 65] (hp q18.2) 0 0 _
              obtain ⟨q20, hq20, hf⟩ := bd_some hf
              refine Ev.callV (o := 65) (M' := mi_X10_isForcedNow) (d' := d - 1) (As := []) (rest := []) (r' := (some (.int q20.1), hp q20.2)) (e_X10_isForcedNow (d := d - 1) (by omega) q18.2 _ hq20) (by omega) wm_X10_isForcedNow wi_X10_isForcedNow wv_X10_isForcedNow km_10_615 (kc rfl rfl) (Nat.le_of_ble_eq_true rfl) rfl rfl rfl (Nat.le_of_ble_eq_true rfl) ⟨Nat.le_of_ble_eq_true rfl, Nat.le_of_ble_eq_true rfl⟩ (by decide +kernel) ?_
              show Ev l d mi_X10_forced 99 [some (.ref 65), some (.int x1), some (.int x2), some (.int x3)] [.int q20.1] (hp q20.2) 0 0 _
              refine Ev.if_eq (off := 7) (tgt := 106) (by decide +kernel) (by decide) (fun b21 => ?_) (fun b21 => ?_)
              · have hf := (if_pos b21).symm.trans hf
                exact Ev.wk ((e_X10_forced_j106 hd (f_X10_forced_L43 k29 n) ih) x2 x3 q20.2 _ hf) (And.intro (Or.inr rfl) (And.intro (Or.inl rfl) (And.intro (Or.inr rfl) (And.intro (Or.inr rfl) (trivial)))))
              · have hf := (if_neg b21).symm.trans hf
                refine Ev.blk (pc' := 103) [(.iconst 1, 0, 0, 0)] (by decide +kernel) trivial rfl (?_)
                show Ev l d mi_X10_forced 103 [some (.ref 65), some (.int x1), some (.int x2), some (.int x3)] [.int (Int32.ofInt 1)] (hp q20.2) 0 0 _
                refine Ev.goto (off := 4) (tgt := 107) (by decide +kernel) (by decide) ?_
                exact Ev.wk ((e_X10_forced_j107 hd (f_X10_forced_L43 k29 n) ih) x2 x3 (Int32.ofInt 1) q20.2 _ hf) (And.intro (Or.inr rfl) (And.intro (Or.inl rfl) (And.intro (Or.inr rfl) (And.intro (Or.inr rfl) (trivial)))))
          · have hf := (if_pos b16).symm.trans hf
            refine Ev.goto (off := 35) (tgt := 113) (by decide +kernel) (by decide) ?_
            refine Ev.blk (pc' := 116) [(.iinc 3 1, 0, 0, 0)] (by decide +kernel) trivial rfl (And.intro (Nat.le_of_ble_eq_true rfl) (?_))
            show Ev l d mi_X10_forced 116 [some (.ref 65), some (.int x1), some (.int x2), some (.int (x3 + Int32.ofInt 1))] [] (hp q15.2) 0 0 _
            refine Ev.goto (off := -73) (tgt := 43) (by decide +kernel) (by decide) ?_
            exact ih x1 x2 (x3 + Int32.ofInt 1) q15.2 _ hf
def f_X10_forced_L29 (k125 : Int32 → ST → Option (Int32 × ST)) : Nat → Int32 → Int32 → ST → Option (Int32 × ST)
  | 0, _, _, _ => none
  | n + 1, x1, x2, s => (f_X10_manMany s).bind (fun q6 => (if q6.1 ≤ x2 then k125 x1 q6.2 else (if x1 = 0 then (f_X10_forced_L43 (f_X10_forced_L29 k125 n) fuel) x1 x2 (Int32.ofInt 0) q6.2 else k125 x1 q6.2)))
set_option maxHeartbeats 2000000 in
set_option maxRecDepth 20000 in
theorem e_X10_forced_L29 {l : Launch} {d : Nat} (hd : 8 ≤ d) (k125 : Int32 → ST → Option (Int32 × ST)) (hk125 : ∀ (x1 : Int32) (s : ST) (r : Int32 × ST), k125 x1 s = some r → Ev l d mi_X10_forced 125 [none, some (.int x1), none, none] [] (hp s) 0 0 (some (.int r.1), hp r.2)) : ∀ (n : Nat) (x1 : Int32) (x2 : Int32) (s : ST) (r : Int32 × ST), f_X10_forced_L29 k125 n x1 x2 s = some r → Ev l d mi_X10_forced 29 [some (.ref 65), some (.int x1), some (.int x2), none] [] (hp s) 0 0 (some (.int r.1), hp r.2) := by
  intro n
  induction n with
  | zero =>
    intro x1 x2 s r hf
    cases hf
  | succ n ih =>
    intro x1 x2 s r hf
    unfold f_X10_forced_L29 at hf
    refine Ev.blk (pc' := 31) [(.iload_n 2, 0, 0, 0), (.aload_n 0, 0, 0, 0)] (by decide +kernel) trivial rfl (?_)
    show Ev l d mi_X10_forced 31 [some (.ref 65), some (.int x1), some (.int x2), none] [.ref 65, .int x2] (hp s) 0 0 _
    obtain ⟨q6, hq6, hf⟩ := bd_some hf
    refine Ev.callV (o := 65) (M' := mi_X10_manMany) (d' := d - 1) (As := []) (rest := [.int x2]) (r' := (some (.int q6.1), hp q6.2)) (e_X10_manMany (d := d - 1) (by omega) s _ hq6) (by omega) wm_X10_manMany wi_X10_manMany wv_X10_manMany km_10_433 (kc rfl rfl) (Nat.le_of_ble_eq_true rfl) rfl rfl rfl (Nat.le_of_ble_eq_true rfl) ⟨Nat.le_of_ble_eq_true rfl, Nat.le_of_ble_eq_true rfl⟩ (by decide +kernel) ?_
    show Ev l d mi_X10_forced 34 [some (.ref 65), some (.int x1), some (.int x2), none] [.int q6.1, .int x2] (hp q6.2) 0 0 _
    refine Ev.icmp_ge (off := 91) (tgt := 125) (by decide +kernel) (by decide) (fun b7 => ?_) (fun b7 => ?_)
    · have hf := (if_pos b7).symm.trans hf
      exact Ev.wk (hk125 x1 q6.2 _ hf) (And.intro (Or.inl rfl) (And.intro (Or.inr rfl) (And.intro (Or.inl rfl) (And.intro (Or.inr rfl) (trivial)))))
    · have hf := (if_neg b7).symm.trans hf
      refine Ev.blk (pc' := 38) [(.iload_n 1, 0, 0, 0)] (by decide +kernel) trivial rfl (?_)
      show Ev l d mi_X10_forced 38 [some (.ref 65), some (.int x1), some (.int x2), none] [.int x1] (hp q6.2) 0 0 _
      refine Ev.if_ne (off := 87) (tgt := 125) (by decide +kernel) (by decide) (fun b8 => ?_) (fun b8 => ?_)
      · have hf := (if_neg b8).symm.trans hf
        exact Ev.wk (hk125 x1 q6.2 _ hf) (And.intro (Or.inl rfl) (And.intro (Or.inr rfl) (And.intro (Or.inl rfl) (And.intro (Or.inr rfl) (trivial)))))
      · have hf := (if_pos b8).symm.trans hf
        refine Ev.blk (pc' := 43) [(.iconst 0, 0, 0, 0), (.istore_n 3, 0, 0, 0)] (by decide +kernel) trivial rfl (And.intro (Nat.le_of_ble_eq_true rfl) (?_))
        show Ev l d mi_X10_forced 43 [some (.ref 65), some (.int x1), some (.int x2), some (.int (Int32.ofInt 0))] [] (hp q6.2) 0 0 _
        exact (e_X10_forced_L43 hd (f_X10_forced_L29 k125 n) ih fuel) x1 x2 (Int32.ofInt 0) q6.2 _ hf
def f_X10_forced_j125 (x1 : Int32) (s : ST) : Option (Int32 × ST) := (if x1 = 0 then some ((Int32.ofInt (-1)), s) else some ((Int32.ofInt 2), s))
set_option maxHeartbeats 2000000 in
set_option maxRecDepth 20000 in
theorem e_X10_forced_j125 {l : Launch} {d : Nat} (hd : 8 ≤ d) (x1 : Int32) (s : ST) (r : Int32 × ST) (hf : f_X10_forced_j125 x1 s = some r) : Ev l d mi_X10_forced 125 [none, some (.int x1), none, none] [] (hp s) 0 0 (some (.int r.1), hp r.2) := by
  unfold f_X10_forced_j125 at hf
  refine Ev.blk (pc' := 126) [(.iload_n 1, 0, 0, 0)] (by decide +kernel) trivial rfl (?_)
  show Ev l d mi_X10_forced 126 [none, some (.int x1), none, none] [.int x1] (hp s) 0 0 _
  refine Ev.if_eq (off := 7) (tgt := 133) (by decide +kernel) (by decide) (fun b22 => ?_) (fun b22 => ?_)
  · have hf := (if_pos b22).symm.trans hf
    refine Ev.blk (pc' := 134) [(.iconst (-1), 0, 0, 0)] (by decide +kernel) trivial rfl (?_)
    show Ev l d mi_X10_forced 134 [none, some (.int x1), none, none] [.int (Int32.ofInt (-1))] (hp s) 0 0 _
    cases hf
    exact Ev.iret .int rfl rfl (by decide +kernel) (Nat.le_refl _) (Nat.le_refl _)
  · have hf := (if_neg b22).symm.trans hf
    refine Ev.blk (pc' := 130) [(.iconst 2, 0, 0, 0)] (by decide +kernel) trivial rfl (?_)
    show Ev l d mi_X10_forced 130 [none, some (.int x1), none, none] [.int (Int32.ofInt 2)] (hp s) 0 0 _
    refine Ev.goto (off := 4) (tgt := 134) (by decide +kernel) (by decide) ?_
    cases hf
    exact Ev.iret .int rfl rfl (by decide +kernel) (Nat.le_refl _) (Nat.le_refl _)
def f_X10_forced (s : ST) : Option (Int32 × ST) := (if (s.1 65 58) = 0 then some ((Int32.ofInt (-1)), s) else (f_X10_isOver s).bind (fun q2 => (if q2.1 = 0 then (f_X10_takesCrown q2.2).bind (fun q4 => (if q4.1 = 0 then (f_X10_forced_L29 f_X10_forced_j125 fuel) (Int32.ofInt 0) (Int32.ofInt 0) q4.2 else some ((Int32.ofInt 1), q4.2))) else some ((Int32.ofInt (-1)), q2.2))))
set_option maxHeartbeats 2000000 in
set_option maxRecDepth 20000 in
theorem e_X10_forced {l : Launch} {d : Nat} (hd : 8 ≤ d) (s : ST) (r : Int32 × ST) (hf : f_X10_forced s = some r) : Cl l d mi_X10_forced [.ref 65] (hp s) (some (.int r.1), hp r.2) := by
  refine Ev.entry (by decide +kernel) rfl rfl ?_
  show Ev l d mi_X10_forced 0 [some (.ref 65), none, none, none] [] (hp s) 0 0 _
  unfold f_X10_forced at hf
  refine Ev.blk (pc' := 4) [(.aload_n 0, 0, 0, 0), (.getfield 424, 0, 10, 58)] (by decide +kernel) ⟨kf_10_424, trivial⟩ rfl (And.intro (kc rfl rfl) (?_))
  show Ev l d mi_X10_forced 4 [some (.ref 65), none, none, none] [.int (s.1 65 58)] (hp s) 0 0 _
  refine Ev.if_eq (off := 10) (tgt := 14) (by decide +kernel) (by decide) (fun b1 => ?_) (fun b1 => ?_)
  · have hf := (if_pos b1).symm.trans hf
    refine Ev.blk (pc' := 15) [(.iconst (-1), 0, 0, 0)] (by decide +kernel) trivial rfl (?_)
    show Ev l d mi_X10_forced 15 [some (.ref 65), none, none, none] [.int (Int32.ofInt (-1))] (hp s) 0 0 _
    cases hf
    exact Ev.iret .int rfl rfl (by decide +kernel) (Nat.le_refl _) (Nat.le_refl _)
  · have hf := (if_neg b1).symm.trans hf
    refine Ev.blk (pc' := 8) [(.aload_n 0, 0, 0, 0)] (by decide +kernel) trivial rfl (?_)
    show Ev l d mi_X10_forced 8 [some (.ref 65), none, none, none] [.ref 65] (hp s) 0 0 _
    obtain ⟨q2, hq2, hf⟩ := bd_some hf
    refine Ev.callV (o := 65) (M' := mi_X10_isOver) (d' := d - 1) (As := []) (rest := []) (r' := (some (.int q2.1), hp q2.2)) (e_X10_isOver (d := d - 1) (by omega) s _ hq2) (by omega) wm_X10_isOver wi_X10_isOver wv_X10_isOver km_10_584 (kc rfl rfl) (Nat.le_of_ble_eq_true rfl) rfl rfl rfl (Nat.le_of_ble_eq_true rfl) ⟨Nat.le_of_ble_eq_true rfl, Nat.le_of_ble_eq_true rfl⟩ (by decide +kernel) ?_
    show Ev l d mi_X10_forced 11 [some (.ref 65), none, none, none] [.int q2.1] (hp q2.2) 0 0 _
    refine Ev.if_eq (off := 5) (tgt := 16) (by decide +kernel) (by decide) (fun b3 => ?_) (fun b3 => ?_)
    · have hf := (if_pos b3).symm.trans hf
      refine Ev.blk (pc' := 17) [(.aload_n 0, 0, 0, 0)] (by decide +kernel) trivial rfl (?_)
      show Ev l d mi_X10_forced 17 [some (.ref 65), none, none, none] [.ref 65] (hp q2.2) 0 0 _
      obtain ⟨q4, hq4, hf⟩ := bd_some hf
      refine Ev.callV (o := 65) (M' := mi_X10_takesCrown) (d' := d - 1) (As := []) (rest := []) (r' := (some (.int q4.1), hp q4.2)) (e_X10_takesCrown (d := d - 1) (by omega) q2.2 _ hq4) (by omega) wm_X10_takesCrown wi_X10_takesCrown wv_X10_takesCrown km_10_612 (kc rfl rfl) (Nat.le_of_ble_eq_true rfl) rfl rfl rfl (Nat.le_of_ble_eq_true rfl) ⟨Nat.le_of_ble_eq_true rfl, Nat.le_of_ble_eq_true rfl⟩ (by decide +kernel) ?_
      show Ev l d mi_X10_forced 20 [some (.ref 65), none, none, none] [.int q4.1] (hp q4.2) 0 0 _
      refine Ev.if_eq (off := 5) (tgt := 25) (by decide +kernel) (by decide) (fun b5 => ?_) (fun b5 => ?_)
      · have hf := (if_pos b5).symm.trans hf
        refine Ev.blk (pc' := 29) [(.iconst 0, 0, 0, 0), (.istore_n 1, 0, 0, 0), (.iconst 0, 0, 0, 0), (.istore_n 2, 0, 0, 0)] (by decide +kernel) trivial rfl (And.intro (Nat.le_of_ble_eq_true rfl) (And.intro (Nat.le_of_ble_eq_true rfl) (?_)))
        show Ev l d mi_X10_forced 29 [some (.ref 65), some (.int (Int32.ofInt 0)), some (.int (Int32.ofInt 0)), none] [] (hp q4.2) 0 0 _
        exact (e_X10_forced_L29 hd f_X10_forced_j125 (e_X10_forced_j125 hd) fuel) (Int32.ofInt 0) (Int32.ofInt 0) q4.2 _ hf
      · have hf := (if_neg b5).symm.trans hf
        refine Ev.blk (pc' := 24) [(.iconst 1, 0, 0, 0)] (by decide +kernel) trivial rfl (?_)
        show Ev l d mi_X10_forced 24 [some (.ref 65), none, none, none] [.int (Int32.ofInt 1)] (hp q4.2) 0 0 _
        cases hf
        exact Ev.iret .int rfl rfl (by decide +kernel) (Nat.le_refl _) (Nat.le_refl _)
    · have hf := (if_neg b3).symm.trans hf
      refine Ev.blk (pc' := 15) [(.iconst (-1), 0, 0, 0)] (by decide +kernel) trivial rfl (?_)
      show Ev l d mi_X10_forced 15 [some (.ref 65), none, none, none] [.int (Int32.ofInt (-1))] (hp q2.2) 0 0 _
      cases hf
      exact Ev.iret .int rfl rfl (by decide +kernel) (Nat.le_refl _) (Nat.le_refl _)
def f_X10_later_j71 (y0 : Int32) (s : ST) : Option (Int32 × ST) := (f_X10_takesBack s).bind (fun q13 => some (y0, q13))
set_option maxHeartbeats 2000000 in
set_option maxRecDepth 20000 in
theorem e_X10_later_j71 {l : Launch} {d : Nat} (hd : 12 ≤ d) (y0 : Int32) (s : ST) (r : Int32 × ST) (hf : f_X10_later_j71 y0 s = some r) : Ev l d mi_X10_later 71 [some (.ref 65), none, none, none] [.int y0] (hp s) 0 0 (some (.int r.1), hp r.2) := by
  unfold f_X10_later_j71 at hf
  refine Ev.blk (pc' := 73) [(.istore_n 3, 0, 0, 0), (.aload_n 0, 0, 0, 0)] (by decide +kernel) trivial rfl (And.intro (Nat.le_of_ble_eq_true rfl) (?_))
  show Ev l d mi_X10_later 73 [some (.ref 65), none, none, some (.int y0)] [.ref 65] (hp s) 0 0 _
  obtain ⟨q13, hq13, hf⟩ := bd_some hf
  refine Ev.callV (o := 65) (M' := mi_X10_takesBack) (d' := d - 1) (As := []) (rest := []) (r' := (none, hp q13)) (e_X10_takesBack (d := d - 1) (by omega) s _ hq13) (by omega) wm_X10_takesBack wi_X10_takesBack wv_X10_takesBack km_10_627 (kc rfl rfl) (Nat.le_of_ble_eq_true rfl) rfl rfl rfl (Nat.le_of_ble_eq_true rfl) ⟨Nat.le_of_ble_eq_true rfl, Nat.le_of_ble_eq_true rfl⟩ (by decide +kernel) ?_
  show Ev l d mi_X10_later 76 [some (.ref 65), none, none, some (.int y0)] [] (hp q13) 0 0 _
  refine Ev.blk (pc' := 77) [(.iload_n 3, 0, 0, 0)] (by decide +kernel) trivial rfl (?_)
  show Ev l d mi_X10_later 77 [some (.ref 65), none, none, some (.int y0)] [.int y0] (hp q13) 0 0 _
  cases hf
  exact Ev.iret .int rfl rfl (by decide +kernel) (Nat.le_refl _) (Nat.le_refl _)
def f_X10_later (p0 : Int32) (p1 : Int32) (s : ST) : Option (Int32 × ST) := (f_X10_isAhead p0 (Int32.ofInt 0) ((Int8.ofInt 20).toInt32) s).bind (fun q1 => (if q1.1 = 0 then some ((Int32.ofInt (-1)), q1.2) else (f_X10_isIn ((p1).toInt64) (Int64.ofNat ((0 : Fin 2) : Nat)) (Int64.ofInt 3) q1.2).bind (fun q3 => (if q3.1 = 0 then some ((Int32.ofInt (-1)), q3.2) else (f_X10_putsAside q3.2).bind (fun q5 => (f_X10_daysGo p0 q5).bind (fun q6 => (if (Int32.ofInt 2) ≤ p1 then (if p1 = (Int32.ofInt 2) then (f_X10_bearAll q6).bind (fun q11 => f_X10_later_j71 q11.1 q11.2) else (f_X10_isOver q6).bind (fun q9 => (if q9.1 = 0 then f_X10_later_j71 (Int32.ofInt 0) q9.2 else f_X10_later_j71 (Int32.ofInt 1) q9.2))) else (f_X10_menOf p1 q6).bind (fun q12 => f_X10_later_j71 q12.1 q12.2))))))))
set_option maxHeartbeats 2000000 in
set_option maxRecDepth 20000 in
theorem e_X10_later {l : Launch} {d : Nat} (hd : 12 ≤ d) (p0 : Int32) (p1 : Int32) (s : ST) (r : Int32 × ST) (hf : f_X10_later p0 p1 s = some r) : Cl l d mi_X10_later [.ref 65, .int p0, .int p1] (hp s) (some (.int r.1), hp r.2) := by
  refine Ev.entry (by decide +kernel) rfl rfl ?_
  show Ev l d mi_X10_later 0 [some (.ref 65), some (.int p0), some (.int p1), none] [] (hp s) 0 0 _
  unfold f_X10_later at hf
  refine Ev.blk (pc' := 5) [(.aload_n 0, 0, 0, 0), (.iload_n 1, 0, 0, 0), (.iconst 0, 0, 0, 0), (.bipush 20, 0, 0, 0)] (by decide +kernel) trivial rfl (?_)
  show Ev l d mi_X10_later 5 [some (.ref 65), some (.int p0), some (.int p1), none] [.int ((Int8.ofInt 20).toInt32), .int (Int32.ofInt 0), .int p0, .ref 65] (hp s) 0 0 _
  obtain ⟨q1, hq1, hf⟩ := bd_some hf
  refine Ev.callV (o := 65) (M' := mi_X10_isAhead) (d' := d - 1) (As := [.int p0, .int (Int32.ofInt 0), .int ((Int8.ofInt 20).toInt32)]) (rest := []) (r' := (some (.int q1.1), hp q1.2)) (e_X10_isAhead (d := d - 1) (by omega) p0 (Int32.ofInt 0) ((Int8.ofInt 20).toInt32) s _ hq1) (by omega) wm_X10_isAhead wi_X10_isAhead wv_X10_isAhead km_10_618 (kc rfl rfl) (Nat.le_of_ble_eq_true rfl) rfl rfl rfl (Nat.le_of_ble_eq_true rfl) ⟨Nat.le_of_ble_eq_true rfl, Nat.le_of_ble_eq_true rfl⟩ (by decide +kernel) ?_
  show Ev l d mi_X10_later 8 [some (.ref 65), some (.int p0), some (.int p1), none] [.int q1.1] (hp q1.2) 0 0 _
  refine Ev.if_eq (off := 15) (tgt := 23) (by decide +kernel) (by decide) (fun b2 => ?_) (fun b2 => ?_)
  · have hf := (if_pos b2).symm.trans hf
    refine Ev.blk (pc' := 24) [(.iconst (-1), 0, 0, 0)] (by decide +kernel) trivial rfl (?_)
    show Ev l d mi_X10_later 24 [some (.ref 65), some (.int p0), some (.int p1), none] [.int (Int32.ofInt (-1))] (hp q1.2) 0 0 _
    cases hf
    exact Ev.iret .int rfl rfl (by decide +kernel) (Nat.le_refl _) (Nat.le_refl _)
  · have hf := (if_neg b2).symm.trans hf
    refine Ev.blk (pc' := 17) [(.iload_n 2, 0, 0, 0), (.i2l, 0, 0, 0), (.lconst 0, 0, 0, 0), (.ldc2_w 597, 3, 0, 0)] (by decide +kernel) ⟨kl_10_597, trivial⟩ rfl (?_)
    show Ev l d mi_X10_later 17 [some (.ref 65), some (.int p0), some (.int p1), none] [.long (Int64.ofInt 3), .long (Int64.ofNat ((0 : Fin 2) : Nat)), .long (p1).toInt64] (hp q1.2) 0 0 _
    obtain ⟨q3, hq3, hf⟩ := bd_some hf
    refine Ev.callS (M' := mi_X10_isIn) (d' := d - 1) (As := [.long (p1).toInt64, .long (Int64.ofNat ((0 : Fin 2) : Nat)), .long (Int64.ofInt 3)]) (rest := []) (r' := (some (.int q3.1), hp q3.2)) (e_X10_isIn (d := d - 1) (by omega) ((p1).toInt64) (Int64.ofNat ((0 : Fin 2) : Nat)) (Int64.ofInt 3) q1.2 _ hq3) (by omega) wm_X10_isIn wt_X10_isIn km_10_321 rfl rfl rfl (Nat.le_of_ble_eq_true rfl) ⟨Nat.le_of_ble_eq_true rfl, Nat.le_of_ble_eq_true rfl⟩ (by decide +kernel) ?_
    show Ev l d mi_X10_later 20 [some (.ref 65), some (.int p0), some (.int p1), none] [.int q3.1] (hp q3.2) 0 0 _
    refine Ev.if_ne (off := 5) (tgt := 25) (by decide +kernel) (by decide) (fun b4 => ?_) (fun b4 => ?_)
    · have hf := (if_neg b4).symm.trans hf
      refine Ev.blk (pc' := 26) [(.aload_n 0, 0, 0, 0)] (by decide +kernel) trivial rfl (?_)
      show Ev l d mi_X10_later 26 [some (.ref 65), some (.int p0), some (.int p1), none] [.ref 65] (hp q3.2) 0 0 _
      obtain ⟨q5, hq5, hf⟩ := bd_some hf
      refine Ev.callV (o := 65) (M' := mi_X10_putsAside) (d' := d - 1) (As := []) (rest := []) (r' := (none, hp q5)) (e_X10_putsAside (d := d - 1) (by omega) q3.2 _ hq5) (by omega) wm_X10_putsAside wi_X10_putsAside wv_X10_putsAside km_10_621 (kc rfl rfl) (Nat.le_of_ble_eq_true rfl) rfl rfl rfl (Nat.le_of_ble_eq_true rfl) ⟨Nat.le_of_ble_eq_true rfl, Nat.le_of_ble_eq_true rfl⟩ (by decide +kernel) ?_
      show Ev l d mi_X10_later 29 [some (.ref 65), some (.int p0), some (.int p1), none] [] (hp q5) 0 0 _
      refine Ev.blk (pc' := 31) [(.aload_n 0, 0, 0, 0), (.iload_n 1, 0, 0, 0)] (by decide +kernel) trivial rfl (?_)
      show Ev l d mi_X10_later 31 [some (.ref 65), some (.int p0), some (.int p1), none] [.int p0, .ref 65] (hp q5) 0 0 _
      obtain ⟨q6, hq6, hf⟩ := bd_some hf
      refine Ev.callV (o := 65) (M' := mi_X10_daysGo) (d' := d - 1) (As := [.int p0]) (rest := []) (r' := (none, hp q6)) (e_X10_daysGo (d := d - 1) (by omega) p0 q5 _ hq6) (by omega) wm_X10_daysGo wi_X10_daysGo wv_X10_daysGo km_10_624 (kc rfl rfl) (Nat.le_of_ble_eq_true rfl) rfl rfl rfl (Nat.le_of_ble_eq_true rfl) ⟨Nat.le_of_ble_eq_true rfl, Nat.le_of_ble_eq_true rfl⟩ (by decide +kernel) ?_
      show Ev l d mi_X10_later 34 [some (.ref 65), some (.int p0), some (.int p1), none] [] (hp q6) 0 0 _
      refine Ev.blk (pc' := 36) [(.iload_n 2, 0, 0, 0), (.iconst 2, 0, 0, 0)] (by decide +kernel) trivial rfl (?_)
      show Ev l d mi_X10_later 36 [some (.ref 65), some (.int p0), some (.int p1), none] [.int (Int32.ofInt 2), .int p1] (hp q6) 0 0 _
      refine Ev.icmp_ge (off := 11) (tgt := 47) (by decide +kernel) (by decide) (fun b7 => ?_) (fun b7 => ?_)
      · have hf := (if_pos b7).symm.trans hf
        refine Ev.blk (pc' := 49) [(.iload_n 2, 0, 0, 0), (.iconst 2, 0, 0, 0)] (by decide +kernel) trivial rfl (?_)
        show Ev l d mi_X10_later 49 [some (.ref 65), some (.int p0), some (.int p1), none] [.int (Int32.ofInt 2), .int p1] (hp q6) 0 0 _
        refine Ev.icmp_ne (off := 10) (tgt := 59) (by decide +kernel) (by decide) (fun b8 => ?_) (fun b8 => ?_)
        · have hf := (if_neg b8).symm.trans hf
          refine Ev.blk (pc' := 60) [(.aload_n 0, 0, 0, 0)] (by decide +kernel) trivial rfl (?_)
          show Ev l d mi_X10_later 60 [some (.ref 65), some (.int p0), some (.int p1), none] [.ref 65] (hp q6) 0 0 _
          obtain ⟨q9, hq9, hf⟩ := bd_some hf
          refine Ev.callV (o := 65) (M' := mi_X10_isOver) (d' := d - 1) (As := []) (rest := []) (r' := (some (.int q9.1), hp q9.2)) (e_X10_isOver (d := d - 1) (by omega) q6 _ hq9) (by omega) wm_X10_isOver wi_X10_isOver wv_X10_isOver km_10_584 (kc rfl rfl) (Nat.le_of_ble_eq_true rfl) rfl rfl rfl (Nat.le_of_ble_eq_true rfl) ⟨Nat.le_of_ble_eq_true rfl, Nat.le_of_ble_eq_true rfl⟩ (by decide +kernel) ?_
          show Ev l d mi_X10_later 63 [some (.ref 65), some (.int p0), some (.int p1), none] [.int q9.1] (hp q9.2) 0 0 _
          refine Ev.if_eq (off := 7) (tgt := 70) (by decide +kernel) (by decide) (fun b10 => ?_) (fun b10 => ?_)
          · have hf := (if_pos b10).symm.trans hf
            refine Ev.blk (pc' := 71) [(.iconst 0, 0, 0, 0)] (by decide +kernel) trivial rfl (?_)
            show Ev l d mi_X10_later 71 [some (.ref 65), some (.int p0), some (.int p1), none] [.int (Int32.ofInt 0)] (hp q9.2) 0 0 _
            exact Ev.wk ((e_X10_later_j71 hd) (Int32.ofInt 0) q9.2 _ hf) (And.intro (Or.inr rfl) (And.intro (Or.inl rfl) (And.intro (Or.inl rfl) (And.intro (Or.inr rfl) (trivial)))))
          · have hf := (if_neg b10).symm.trans hf
            refine Ev.blk (pc' := 67) [(.iconst 1, 0, 0, 0)] (by decide +kernel) trivial rfl (?_)
            show Ev l d mi_X10_later 67 [some (.ref 65), some (.int p0), some (.int p1), none] [.int (Int32.ofInt 1)] (hp q9.2) 0 0 _
            refine Ev.goto (off := 4) (tgt := 71) (by decide +kernel) (by decide) ?_
            exact Ev.wk ((e_X10_later_j71 hd) (Int32.ofInt 1) q9.2 _ hf) (And.intro (Or.inr rfl) (And.intro (Or.inl rfl) (And.intro (Or.inl rfl) (And.intro (Or.inr rfl) (trivial)))))
        · have hf := (if_pos b8).symm.trans hf
          refine Ev.blk (pc' := 53) [(.aload_n 0, 0, 0, 0)] (by decide +kernel) trivial rfl (?_)
          show Ev l d mi_X10_later 53 [some (.ref 65), some (.int p0), some (.int p1), none] [.ref 65] (hp q6) 0 0 _
          obtain ⟨q11, hq11, hf⟩ := bd_some hf
          refine Ev.callV (o := 65) (M' := mi_X10_bearAll) (d' := d - 1) (As := []) (rest := []) (r' := (some (.int q11.1), hp q11.2)) (e_X10_bearAll (d := d - 1) (by omega) q6 _ hq11) (by omega) wm_X10_bearAll wi_X10_bearAll wv_X10_bearAll km_10_590 (kc rfl rfl) (Nat.le_of_ble_eq_true rfl) rfl rfl rfl (Nat.le_of_ble_eq_true rfl) ⟨Nat.le_of_ble_eq_true rfl, Nat.le_of_ble_eq_true rfl⟩ (by decide +kernel) ?_
          show Ev l d mi_X10_later 56 [some (.ref 65), some (.int p0), some (.int p1), none] [.int q11.1] (hp q11.2) 0 0 _
          refine Ev.goto (off := 15) (tgt := 71) (by decide +kernel) (by decide) ?_
          exact Ev.wk ((e_X10_later_j71 hd) q11.1 q11.2 _ hf) (And.intro (Or.inr rfl) (And.intro (Or.inl rfl) (And.intro (Or.inl rfl) (And.intro (Or.inr rfl) (trivial)))))
      · have hf := (if_neg b7).symm.trans hf
        refine Ev.blk (pc' := 41) [(.aload_n 0, 0, 0, 0), (.iload_n 2, 0, 0, 0)] (by decide +kernel) trivial rfl (?_)
        show Ev l d mi_X10_later 41 [some (.ref 65), some (.int p0), some (.int p1), none] [.int p1, .ref 65] (hp q6) 0 0 _
        obtain ⟨q12, hq12, hf⟩ := bd_some hf
        refine Ev.callV (o := 65) (M' := mi_X10_menOf) (d' := d - 1) (As := [.int p1]) (rest := []) (r' := (some (.int q12.1), hp q12.2)) (e_X10_menOf (d := d - 1) (by omega) p1 q6 _ hq12) (by omega) wm_X10_menOf wi_X10_menOf wv_X10_menOf km_10_587 (kc rfl rfl) (Nat.le_of_ble_eq_true rfl) rfl rfl rfl (Nat.le_of_ble_eq_true rfl) ⟨Nat.le_of_ble_eq_true rfl, Nat.le_of_ble_eq_true rfl⟩ (by decide +kernel) ?_
        show Ev l d mi_X10_later 44 [some (.ref 65), some (.int p0), some (.int p1), none] [.int q12.1] (hp q12.2) 0 0 _
        refine Ev.goto (off := 27) (tgt := 71) (by decide +kernel) (by decide) ?_
        exact Ev.wk ((e_X10_later_j71 hd) q12.1 q12.2 _ hf) (And.intro (Or.inr rfl) (And.intro (Or.inl rfl) (And.intro (Or.inl rfl) (And.intro (Or.inr rfl) (trivial)))))
    · have hf := (if_pos b4).symm.trans hf
      refine Ev.blk (pc' := 24) [(.iconst (-1), 0, 0, 0)] (by decide +kernel) trivial rfl (?_)
      show Ev l d mi_X10_later 24 [some (.ref 65), some (.int p0), some (.int p1), none] [.int (Int32.ofInt (-1))] (hp q3.2) 0 0 _
      cases hf
      exact Ev.iret .int rfl rfl (by decide +kernel) (Nat.le_refl _) (Nat.le_refl _)
def f_X10_crop (p0 : Int32) (p1 : Int32) (s : ST) : Option (Int32 × ST) := (f_X10_isField p0 s).bind (fun q1 => (if q1.1 = 0 then some ((Int32.ofInt (-1)), q1.2) else (f_X10_isAhead p1 (Int32.ofInt 0) ((Int8.ofInt 20).toInt32) q1.2).bind (fun q3 => (if q3.1 = 0 then some ((Int32.ofInt (-1)), q3.2) else (f_X10_putsAside q3.2).bind (fun q5 => (f_X10_daysGo p1 q5).bind (fun q6 => gd (ib (((Int8.ofInt 18).toInt32) + p0) 225) ((f_X10_takesBack q6).bind (fun q8 => some ((q6.1 112 (((Int8.ofInt 18).toInt32) + p0).toNatClampNeg), q8)))))))))
set_option maxHeartbeats 2000000 in
set_option maxRecDepth 20000 in
theorem e_X10_crop {l : Launch} {d : Nat} (hd : 12 ≤ d) (p0 : Int32) (p1 : Int32) (s : ST) (r : Int32 × ST) (hf : f_X10_crop p0 p1 s = some r) : Cl l d mi_X10_crop [.ref 65, .int p0, .int p1] (hp s) (some (.int r.1), hp r.2) := by
  refine Ev.entry (by decide +kernel) rfl rfl ?_
  show Ev l d mi_X10_crop 0 [some (.ref 65), some (.int p0), some (.int p1), none] [] (hp s) 0 0 _
  unfold f_X10_crop at hf
  refine Ev.blk (pc' := 2) [(.aload_n 0, 0, 0, 0), (.iload_n 1, 0, 0, 0)] (by decide +kernel) trivial rfl (?_)
  show Ev l d mi_X10_crop 2 [some (.ref 65), some (.int p0), some (.int p1), none] [.int p0, .ref 65] (hp s) 0 0 _
  obtain ⟨q1, hq1, hf⟩ := bd_some hf
  refine Ev.callV (o := 65) (M' := mi_X10_isField) (d' := d - 1) (As := [.int p0]) (rest := []) (r' := (some (.int q1.1), hp q1.2)) (e_X10_isField (d := d - 1) (by omega) p0 s _ hq1) (by omega) wm_X10_isField wi_X10_isField wv_X10_isField km_10_602 (kc rfl rfl) (Nat.le_of_ble_eq_true rfl) rfl rfl rfl (Nat.le_of_ble_eq_true rfl) ⟨Nat.le_of_ble_eq_true rfl, Nat.le_of_ble_eq_true rfl⟩ (by decide +kernel) ?_
  show Ev l d mi_X10_crop 5 [some (.ref 65), some (.int p0), some (.int p1), none] [.int q1.1] (hp q1.2) 0 0 _
  refine Ev.if_eq (off := 14) (tgt := 19) (by decide +kernel) (by decide) (fun b2 => ?_) (fun b2 => ?_)
  · have hf := (if_pos b2).symm.trans hf
    refine Ev.blk (pc' := 20) [(.iconst (-1), 0, 0, 0)] (by decide +kernel) trivial rfl (?_)
    show Ev l d mi_X10_crop 20 [some (.ref 65), some (.int p0), some (.int p1), none] [.int (Int32.ofInt (-1))] (hp q1.2) 0 0 _
    cases hf
    exact Ev.iret .int rfl rfl (by decide +kernel) (Nat.le_refl _) (Nat.le_refl _)
  · have hf := (if_neg b2).symm.trans hf
    refine Ev.blk (pc' := 13) [(.aload_n 0, 0, 0, 0), (.iload_n 2, 0, 0, 0), (.iconst 0, 0, 0, 0), (.bipush 20, 0, 0, 0)] (by decide +kernel) trivial rfl (?_)
    show Ev l d mi_X10_crop 13 [some (.ref 65), some (.int p0), some (.int p1), none] [.int ((Int8.ofInt 20).toInt32), .int (Int32.ofInt 0), .int p1, .ref 65] (hp q1.2) 0 0 _
    obtain ⟨q3, hq3, hf⟩ := bd_some hf
    refine Ev.callV (o := 65) (M' := mi_X10_isAhead) (d' := d - 1) (As := [.int p1, .int (Int32.ofInt 0), .int ((Int8.ofInt 20).toInt32)]) (rest := []) (r' := (some (.int q3.1), hp q3.2)) (e_X10_isAhead (d := d - 1) (by omega) p1 (Int32.ofInt 0) ((Int8.ofInt 20).toInt32) q1.2 _ hq3) (by omega) wm_X10_isAhead wi_X10_isAhead wv_X10_isAhead km_10_618 (kc rfl rfl) (Nat.le_of_ble_eq_true rfl) rfl rfl rfl (Nat.le_of_ble_eq_true rfl) ⟨Nat.le_of_ble_eq_true rfl, Nat.le_of_ble_eq_true rfl⟩ (by decide +kernel) ?_
    show Ev l d mi_X10_crop 16 [some (.ref 65), some (.int p0), some (.int p1), none] [.int q3.1] (hp q3.2) 0 0 _
    refine Ev.if_ne (off := 5) (tgt := 21) (by decide +kernel) (by decide) (fun b4 => ?_) (fun b4 => ?_)
    · have hf := (if_neg b4).symm.trans hf
      refine Ev.blk (pc' := 22) [(.aload_n 0, 0, 0, 0)] (by decide +kernel) trivial rfl (?_)
      show Ev l d mi_X10_crop 22 [some (.ref 65), some (.int p0), some (.int p1), none] [.ref 65] (hp q3.2) 0 0 _
      obtain ⟨q5, hq5, hf⟩ := bd_some hf
      refine Ev.callV (o := 65) (M' := mi_X10_putsAside) (d' := d - 1) (As := []) (rest := []) (r' := (none, hp q5)) (e_X10_putsAside (d := d - 1) (by omega) q3.2 _ hq5) (by omega) wm_X10_putsAside wi_X10_putsAside wv_X10_putsAside km_10_621 (kc rfl rfl) (Nat.le_of_ble_eq_true rfl) rfl rfl rfl (Nat.le_of_ble_eq_true rfl) ⟨Nat.le_of_ble_eq_true rfl, Nat.le_of_ble_eq_true rfl⟩ (by decide +kernel) ?_
      show Ev l d mi_X10_crop 25 [some (.ref 65), some (.int p0), some (.int p1), none] [] (hp q5) 0 0 _
      refine Ev.blk (pc' := 27) [(.aload_n 0, 0, 0, 0), (.iload_n 2, 0, 0, 0)] (by decide +kernel) trivial rfl (?_)
      show Ev l d mi_X10_crop 27 [some (.ref 65), some (.int p0), some (.int p1), none] [.int p1, .ref 65] (hp q5) 0 0 _
      obtain ⟨q6, hq6, hf⟩ := bd_some hf
      refine Ev.callV (o := 65) (M' := mi_X10_daysGo) (d' := d - 1) (As := [.int p1]) (rest := []) (r' := (none, hp q6)) (e_X10_daysGo (d := d - 1) (by omega) p1 q5 _ hq6) (by omega) wm_X10_daysGo wi_X10_daysGo wv_X10_daysGo km_10_624 (kc rfl rfl) (Nat.le_of_ble_eq_true rfl) rfl rfl rfl (Nat.le_of_ble_eq_true rfl) ⟨Nat.le_of_ble_eq_true rfl, Nat.le_of_ble_eq_true rfl⟩ (by decide +kernel) ?_
      show Ev l d mi_X10_crop 30 [some (.ref 65), some (.int p0), some (.int p1), none] [] (hp q6) 0 0 _
      obtain ⟨c7, hf⟩ := gd_some hf
      refine Ev.blk (pc' := 41) [(.aload_n 0, 0, 0, 0), (.getfield 154, 0, 10, 62), (.bipush 18, 0, 0, 0), (.iload_n 1, 0, 0, 0), (.iadd, 0, 0, 0), (.iaload, 0, 0, 0), (.istore_n 3, 0, 0, 0), (.aload_n 0, 0, 0, 0)] (by decide +kernel) ⟨kf_10_154, trivial⟩ rfl (And.intro (kc rfl rfl) (Exists.intro 112 (And.intro rfl (And.intro (kc rfl rfl) (And.intro (ib_ok c7) (And.intro (Nat.le_of_ble_eq_true rfl) (?_)))))))
      show Ev l d mi_X10_crop 41 [some (.ref 65), some (.int p0), some (.int p1), some (.int (q6.1 112 (((Int8.ofInt 18).toInt32) + p0).toNatClampNeg))] [.ref 65] (hp q6) 0 0 _
      obtain ⟨q8, hq8, hf⟩ := bd_some hf
      refine Ev.callV (o := 65) (M' := mi_X10_takesBack) (d' := d - 1) (As := []) (rest := []) (r' := (none, hp q8)) (e_X10_takesBack (d := d - 1) (by omega) q6 _ hq8) (by omega) wm_X10_takesBack wi_X10_takesBack wv_X10_takesBack km_10_627 (kc rfl rfl) (Nat.le_of_ble_eq_true rfl) rfl rfl rfl (Nat.le_of_ble_eq_true rfl) ⟨Nat.le_of_ble_eq_true rfl, Nat.le_of_ble_eq_true rfl⟩ (by decide +kernel) ?_
      show Ev l d mi_X10_crop 44 [some (.ref 65), some (.int p0), some (.int p1), some (.int (q6.1 112 (((Int8.ofInt 18).toInt32) + p0).toNatClampNeg))] [] (hp q8) 0 0 _
      refine Ev.blk (pc' := 45) [(.iload_n 3, 0, 0, 0)] (by decide +kernel) trivial rfl (?_)
      show Ev l d mi_X10_crop 45 [some (.ref 65), some (.int p0), some (.int p1), some (.int (q6.1 112 (((Int8.ofInt 18).toInt32) + p0).toNatClampNeg))] [.int (q6.1 112 (((Int8.ofInt 18).toInt32) + p0).toNatClampNeg)] (hp q8) 0 0 _
      cases hf
      exact Ev.iret .int rfl rfl (by decide +kernel) (Nat.le_refl _) (Nat.le_refl _)
    · have hf := (if_pos b4).symm.trans hf
      refine Ev.blk (pc' := 20) [(.iconst (-1), 0, 0, 0)] (by decide +kernel) trivial rfl (?_)
      show Ev l d mi_X10_crop 20 [some (.ref 65), some (.int p0), some (.int p1), none] [.int (Int32.ofInt (-1))] (hp q3.2) 0 0 _
      cases hf
      exact Ev.iret .int rfl rfl (by decide +kernel) (Nat.le_refl _) (Nat.le_refl _)
def f_X10_spare_L50 (k113 : Int32 → Int32 → Int32 → ST → Option (Int32 × ST)) : Nat → Int32 → Int32 → Int32 → Int32 → Int32 → Int32 → Int32 → ST → Option (Int32 × ST)
  | 0, _, _, _, _, _, _, _, _ => none
  | n + 1, x1, x2, x3, x4, x5, x6, x7, s => (if x6 ≤ x7 then k113 x3 x4 x5 s else (f_X10_chooses x7 s).bind (fun q10 => (f_X10_dayGoes q10).bind (fun q11 => (f_X10_daysGo (x2 - (Int32.ofInt 1)) q11).bind (fun q12 => gd (ib (((Int8.ofInt 18).toInt32) + x1) 225) ((f_X10_triesAnew q12).bind (fun q14 => (if x5 < (q12.1 112 (((Int8.ofInt 18).toInt32) + x1).toNatClampNeg) then (f_X10_spare_L50 k113 n) x1 x2 x3 x7 (q12.1 112 (((Int8.ofInt 18).toInt32) + x1).toNatClampNeg) x6 (x7 + Int32.ofInt 1) q14 else (f_X10_spare_L50 k113 n) x1 x2 x3 x4 x5 x6 (x7 + Int32.ofInt 1) q14)))))))
set_option maxHeartbeats 2000000 in
set_option maxRecDepth 20000 in
theorem e_X10_spare_L50 {l : Launch} {d : Nat} (hd : 12 ≤ d) (k113 : Int32 → Int32 → Int32 → ST → Option (Int32 × ST)) (hk113 : ∀ (x3 : Int32) (x4 : Int32) (x5 : Int32) (s : ST) (r : Int32 × ST), k113 x3 x4 x5 s = some r → Ev l d mi_X10_spare 113 [some (.ref 65), none, none, some (.int x3), some (.int x4), some (.int x5), none, none, none] [] (hp s) 0 0 (some (.int r.1), hp r.2)) : ∀ (n : Nat) (x1 : Int32) (x2 : Int32) (x3 : Int32) (x4 : Int32) (x5 : Int32) (x6 : Int32) (x7 : Int32) (s : ST) (r : Int32 × ST), f_X10_spare_L50 k113 n x1 x2 x3 x4 x5 x6 x7 s = some r → Ev l d mi_X10_spare 50 [some (.ref 65), some (.int x1), some (.int x2), some (.int x3), some (.int x4), some (.int x5), some (.int x6), some (.int x7), none] [] (hp s) 0 0 (some (.int r.1), hp r.2) := by
  intro n
  induction n with
  | zero =>
    intro x1 x2 x3 x4 x5 x6 x7 s r hf
    cases hf
  | succ n ih =>
    intro x1 x2 x3 x4 x5 x6 x7 s r hf
    unfold f_X10_spare_L50 at hf
    refine Ev.blk (pc' := 54) [(.iload 7, 0, 0, 0), (.iload 6, 0, 0, 0)] (by decide +kernel) trivial rfl (?_)
    show Ev l d mi_X10_spare 54 [some (.ref 65), some (.int x1), some (.int x2), some (.int x3), some (.int x4), some (.int x5), some (.int x6), some (.int x7), none] [.int x6, .int x7] (hp s) 0 0 _
    refine Ev.icmp_ge (off := 59) (tgt := 113) (by decide +kernel) (by decide) (fun b9 => ?_) (fun b9 => ?_)
    · have hf := (if_pos b9).symm.trans hf
      exact Ev.wk (hk113 x3 x4 x5 s _ hf) (And.intro (Or.inr rfl) (And.intro (Or.inl rfl) (And.intro (Or.inl rfl) (And.intro (Or.inr rfl) (And.intro (Or.inr rfl) (And.intro (Or.inr rfl) (And.intro (Or.inl rfl) (And.intro (Or.inl rfl) (And.intro (Or.inr rfl) (trivial))))))))))
    · have hf := (if_neg b9).symm.trans hf
      refine Ev.blk (pc' := 60) [(.aload_n 0, 0, 0, 0), (.iload 7, 0, 0, 0)] (by decide +kernel) trivial rfl (?_)
      show Ev l d mi_X10_spare 60 [some (.ref 65), some (.int x1), some (.int x2), some (.int x3), some (.int x4), some (.int x5), some (.int x6), some (.int x7), none] [.int x7, .ref 65] (hp s) 0 0 _
      obtain ⟨q10, hq10, hf⟩ := bd_some hf
      refine Ev.callV (o := 65) (M' := mi_X10_chooses) (d' := d - 1) (As := [.int x7]) (rest := []) (r' := (none, hp q10)) (e_X10_chooses (d := d - 1) (by omega) x7 s _ hq10) (by omega) wm_X10_chooses wi_X10_chooses wv_X10_chooses km_10_607 (kc rfl rfl) (Nat.le_of_ble_eq_true rfl) rfl rfl rfl (Nat.le_of_ble_eq_true rfl) ⟨Nat.le_of_ble_eq_true rfl, Nat.le_of_ble_eq_true rfl⟩ (by decide +kernel) ?_
      show Ev l d mi_X10_spare 63 [some (.ref 65), some (.int x1), some (.int x2), some (.int x3), some (.int x4), some (.int x5), some (.int x6), some (.int x7), none] [] (hp q10) 0 0 _
      refine Ev.blk (pc' := 64) [(.aload_n 0, 0, 0, 0)] (by decide +kernel) trivial rfl (?_)
      show Ev l d mi_X10_spare 64 [some (.ref 65), some (.int x1), some (.int x2), some (.int x3), some (.int x4), some (.int x5), some (.int x6), some (.int x7), none] [.ref 65] (hp q10) 0 0 _
      obtain ⟨q11, hq11, hf⟩ := bd_some hf
      refine Ev.callV (o := 65) (M' := mi_X10_dayGoes) (d' := d - 1) (As := []) (rest := []) (r' := (none, hp q11)) (e_X10_dayGoes (d := d - 1) (by omega) q10 _ hq11) (by omega) wm_X10_dayGoes wi_X10_dayGoes wv_X10_dayGoes km_10_578 (kc rfl rfl) (Nat.le_of_ble_eq_true rfl) rfl rfl rfl (Nat.le_of_ble_eq_true rfl) ⟨Nat.le_of_ble_eq_true rfl, Nat.le_of_ble_eq_true rfl⟩ (by decide +kernel) ?_
      show Ev l d mi_X10_spare 67 [some (.ref 65), some (.int x1), some (.int x2), some (.int x3), some (.int x4), some (.int x5), some (.int x6), some (.int x7), none] [] (hp q11) 0 0 _
      refine Ev.blk (pc' := 71) [(.aload_n 0, 0, 0, 0), (.iload_n 2, 0, 0, 0), (.iconst 1, 0, 0, 0), (.isub, 0, 0, 0)] (by decide +kernel) trivial rfl (?_)
      show Ev l d mi_X10_spare 71 [some (.ref 65), some (.int x1), some (.int x2), some (.int x3), some (.int x4), some (.int x5), some (.int x6), some (.int x7), none] [.int (x2 - (Int32.ofInt 1)), .ref 65] (hp q11) 0 0 _
      obtain ⟨q12, hq12, hf⟩ := bd_some hf
      refine Ev.callV (o := 65) (M' := mi_X10_daysGo) (d' := d - 1) (As := [.int (x2 - (Int32.ofInt 1))]) (rest := []) (r' := (none, hp q12)) (e_X10_daysGo (d := d - 1) (by omega) (x2 - (Int32.ofInt 1)) q11 _ hq12) (by omega) wm_X10_daysGo wi_X10_daysGo wv_X10_daysGo km_10_624 (kc rfl rfl) (Nat.le_of_ble_eq_true rfl) rfl rfl rfl (Nat.le_of_ble_eq_true rfl) ⟨Nat.le_of_ble_eq_true rfl, Nat.le_of_ble_eq_true rfl⟩ (by decide +kernel) ?_
      show Ev l d mi_X10_spare 74 [some (.ref 65), some (.int x1), some (.int x2), some (.int x3), some (.int x4), some (.int x5), some (.int x6), some (.int x7), none] [] (hp q12) 0 0 _
      obtain ⟨c13, hf⟩ := gd_some hf
      refine Ev.blk (pc' := 86) [(.aload_n 0, 0, 0, 0), (.getfield 154, 0, 10, 62), (.bipush 18, 0, 0, 0), (.iload_n 1, 0, 0, 0), (.iadd, 0, 0, 0), (.iaload, 0, 0, 0), (.istore 8, 0, 0, 0), (.aload_n 0, 0, 0, 0)] (by decide +kernel) ⟨kf_10_154, trivial⟩ rfl (And.intro (kc rfl rfl) (Exists.intro 112 (And.intro rfl (And.intro (kc rfl rfl) (And.intro (ib_ok c13) (And.intro (Nat.le_of_ble_eq_true rfl) (?_)))))))
      show Ev l d mi_X10_spare 86 [some (.ref 65), some (.int x1), some (.int x2), some (.int x3), some (.int x4), some (.int x5), some (.int x6), some (.int x7), some (.int (q12.1 112 (((Int8.ofInt 18).toInt32) + x1).toNatClampNeg))] [.ref 65] (hp q12) 0 0 _
      obtain ⟨q14, hq14, hf⟩ := bd_some hf
      refine Ev.callV (o := 65) (M' := mi_X10_triesAnew) (d' := d - 1) (As := []) (rest := []) (r' := (none, hp q14)) (e_X10_triesAnew (d := d - 1) (by omega) q12 _ hq14) (by omega) wm_X10_triesAnew wi_X10_triesAnew wv_X10_triesAnew km_10_581 (kc rfl rfl) (Nat.le_of_ble_eq_true rfl) rfl rfl rfl (Nat.le_of_ble_eq_true rfl) ⟨Nat.le_of_ble_eq_true rfl, Nat.le_of_ble_eq_true rfl⟩ (by decide +kernel) ?_
      show Ev l d mi_X10_spare 89 [some (.ref 65), some (.int x1), some (.int x2), some (.int x3), some (.int x4), some (.int x5), some (.int x6), some (.int x7), some (.int (q12.1 112 (((Int8.ofInt 18).toInt32) + x1).toNatClampNeg))] [] (hp q14) 0 0 _
      refine Ev.blk (pc' := 93) [(.iload 8, 0, 0, 0), (.iload 5, 0, 0, 0)] (by decide +kernel) trivial rfl (?_)
      show Ev l d mi_X10_spare 93 [some (.ref 65), some (.int x1), some (.int x2), some (.int x3), some (.int x4), some (.int x5), some (.int x6), some (.int x7), some (.int (q12.1 112 (((Int8.ofInt 18).toInt32) + x1).toNatClampNeg))] [.int x5, .int (q12.1 112 (((Int8.ofInt 18).toInt32) + x1).toNatClampNeg)] (hp q14) 0 0 _
      refine Ev.icmp_gt (off := 6) (tgt := 99) (by decide +kernel) (by decide) (fun b15 => ?_) (fun b15 => ?_)
      · have hf := (if_pos b15).symm.trans hf
        refine Ev.blk (pc' := 110) [(.iload 7, 0, 0, 0), (.istore 4, 0, 0, 0), (.iload 8, 0, 0, 0), (.istore 5, 0, 0, 0), (.iinc 7 1, 0, 0, 0)] (by decide +kernel) trivial rfl (And.intro (Nat.le_of_ble_eq_true rfl) (And.intro (Nat.le_of_ble_eq_true rfl) (And.intro (Nat.le_of_ble_eq_true rfl) (?_))))
        show Ev l d mi_X10_spare 110 [some (.ref 65), some (.int x1), some (.int x2), some (.int x3), some (.int x7), some (.int (q12.1 112 (((Int8.ofInt 18).toInt32) + x1).toNatClampNeg)), some (.int x6), some (.int (x7 + Int32.ofInt 1)), some (.int (q12.1 112 (((Int8.ofInt 18).toInt32) + x1).toNatClampNeg))] [] (hp q14) 0 0 _
        refine Ev.goto (off := -60) (tgt := 50) (by decide +kernel) (by decide) ?_
        exact Ev.wk (ih x1 x2 x3 x7 (q12.1 112 (((Int8.ofInt 18).toInt32) + x1).toNatClampNeg) x6 (x7 + Int32.ofInt 1) q14 _ hf) (And.intro (Or.inr rfl) (And.intro (Or.inr rfl) (And.intro (Or.inr rfl) (And.intro (Or.inr rfl) (And.intro (Or.inr rfl) (And.intro (Or.inr rfl) (And.intro (Or.inr rfl) (And.intro (Or.inr rfl) (And.intro (Or.inl rfl) (trivial))))))))))
      · have hf := (if_neg b15).symm.trans hf
        refine Ev.goto (off := 11) (tgt := 107) (by decide +kernel) (by decide) ?_
        refine Ev.blk (pc' := 110) [(.iinc 7 1, 0, 0, 0)] (by decide +kernel) trivial rfl (And.intro (Nat.le_of_ble_eq_true rfl) (?_))
        show Ev l d mi_X10_spare 110 [some (.ref 65), some (.int x1), some (.int x2), some (.int x3), some (.int x4), some (.int x5), some (.int x6), some (.int (x7 + Int32.ofInt 1)), some (.int (q12.1 112 (((Int8.ofInt 18).toInt32) + x1).toNatClampNeg))] [] (hp q14) 0 0 _
        refine Ev.goto (off := -60) (tgt := 50) (by decide +kernel) (by decide) ?_
        exact Ev.wk (ih x1 x2 x3 x4 x5 x6 (x7 + Int32.ofInt 1) q14 _ hf) (And.intro (Or.inr rfl) (And.intro (Or.inr rfl) (And.intro (Or.inr rfl) (And.intro (Or.inr rfl) (And.intro (Or.inr rfl) (And.intro (Or.inr rfl) (And.intro (Or.inr rfl) (And.intro (Or.inr rfl) (And.intro (Or.inl rfl) (trivial))))))))))
def f_X10_spare_j113 (x3 : Int32) (x4 : Int32) (x5 : Int32) (s : ST) : Option (Int32 × ST) := (f_X10_takesBack s).bind (fun q16 => (if x3 = 0 then some (x4, q16) else some (x5, q16)))
set_option maxHeartbeats 2000000 in
set_option maxRecDepth 20000 in
theorem e_X10_spare_j113 {l : Launch} {d : Nat} (hd : 12 ≤ d) (x3 : Int32) (x4 : Int32) (x5 : Int32) (s : ST) (r : Int32 × ST) (hf : f_X10_spare_j113 x3 x4 x5 s = some r) : Ev l d mi_X10_spare 113 [some (.ref 65), none, none, some (.int x3), some (.int x4), some (.int x5), none, none, none] [] (hp s) 0 0 (some (.int r.1), hp r.2) := by
  unfold f_X10_spare_j113 at hf
  refine Ev.blk (pc' := 114) [(.aload_n 0, 0, 0, 0)] (by decide +kernel) trivial rfl (?_)
  show Ev l d mi_X10_spare 114 [some (.ref 65), none, none, some (.int x3), some (.int x4), some (.int x5), none, none, none] [.ref 65] (hp s) 0 0 _
  obtain ⟨q16, hq16, hf⟩ := bd_some hf
  refine Ev.callV (o := 65) (M' := mi_X10_takesBack) (d' := d - 1) (As := []) (rest := []) (r' := (none, hp q16)) (e_X10_takesBack (d := d - 1) (by omega) s _ hq16) (by omega) wm_X10_takesBack wi_X10_takesBack wv_X10_takesBack km_10_627 (kc rfl rfl) (Nat.le_of_ble_eq_true rfl) rfl rfl rfl (Nat.le_of_ble_eq_true rfl) ⟨Nat.le_of_ble_eq_true rfl, Nat.le_of_ble_eq_true rfl⟩ (by decide +kernel) ?_
  show Ev l d mi_X10_spare 117 [some (.ref 65), none, none, some (.int x3), some (.int x4), some (.int x5), none, none, none] [] (hp q16) 0 0 _
  refine Ev.blk (pc' := 118) [(.iload_n 3, 0, 0, 0)] (by decide +kernel) trivial rfl (?_)
  show Ev l d mi_X10_spare 118 [some (.ref 65), none, none, some (.int x3), some (.int x4), some (.int x5), none, none, none] [.int x3] (hp q16) 0 0 _
  refine Ev.if_ne (off := 8) (tgt := 126) (by decide +kernel) (by decide) (fun b17 => ?_) (fun b17 => ?_)
  · have hf := (if_neg b17).symm.trans hf
    refine Ev.blk (pc' := 128) [(.iload 5, 0, 0, 0)] (by decide +kernel) trivial rfl (?_)
    show Ev l d mi_X10_spare 128 [some (.ref 65), none, none, some (.int x3), some (.int x4), some (.int x5), none, none, none] [.int x5] (hp q16) 0 0 _
    cases hf
    exact Ev.iret .int rfl rfl (by decide +kernel) (Nat.le_refl _) (Nat.le_refl _)
  · have hf := (if_pos b17).symm.trans hf
    refine Ev.blk (pc' := 123) [(.iload 4, 0, 0, 0)] (by decide +kernel) trivial rfl (?_)
    show Ev l d mi_X10_spare 123 [some (.ref 65), none, none, some (.int x3), some (.int x4), some (.int x5), none, none, none] [.int x4] (hp q16) 0 0 _
    refine Ev.goto (off := 5) (tgt := 128) (by decide +kernel) (by decide) ?_
    cases hf
    exact Ev.iret .int rfl rfl (by decide +kernel) (Nat.le_refl _) (Nat.le_refl _)
def f_X10_spare (p0 : Int32) (p1 : Int32) (p2 : Int32) (s : ST) : Option (Int32 × ST) := (f_X10_isField p0 s).bind (fun q1 => (if q1.1 = 0 then some ((Int32.ofInt (-1)), q1.2) else (f_X10_isAhead p1 (Int32.ofInt 1) ((Int8.ofInt 6).toInt32) q1.2).bind (fun q3 => (if q3.1 = 0 then some ((Int32.ofInt (-1)), q3.2) else (f_X10_isIn ((p2).toInt64) (Int64.ofNat ((0 : Fin 2) : Nat)) (Int64.ofNat ((1 : Fin 2) : Nat)) q3.2).bind (fun q5 => (if q5.1 = 0 then some ((Int32.ofInt (-1)), q5.2) else (f_X10_movesNow q5.2).bind (fun q7 => (f_X10_putsAside q7.2).bind (fun q8 => (f_X10_spare_L50 f_X10_spare_j113 fuel) p0 p1 p2 (Int32.ofInt (-1)) (Int32.ofInt (-1)) q7.1 (Int32.ofInt 0) q8))))))))
set_option maxHeartbeats 2000000 in
set_option maxRecDepth 20000 in
theorem e_X10_spare {l : Launch} {d : Nat} (hd : 12 ≤ d) (p0 : Int32) (p1 : Int32) (p2 : Int32) (s : ST) (r : Int32 × ST) (hf : f_X10_spare p0 p1 p2 s = some r) : Cl l d mi_X10_spare [.ref 65, .int p0, .int p1, .int p2] (hp s) (some (.int r.1), hp r.2) := by
  refine Ev.entry (by decide +kernel) rfl rfl ?_
  show Ev l d mi_X10_spare 0 [some (.ref 65), some (.int p0), some (.int p1), some (.int p2), none, none, none, none, none] [] (hp s) 0 0 _
  unfold f_X10_spare at hf
  refine Ev.blk (pc' := 2) [(.aload_n 0, 0, 0, 0), (.iload_n 1, 0, 0, 0)] (by decide +kernel) trivial rfl (?_)
  show Ev l d mi_X10_spare 2 [some (.ref 65), some (.int p0), some (.int p1), some (.int p2), none, none, none, none, none] [.int p0, .ref 65] (hp s) 0 0 _
  obtain ⟨q1, hq1, hf⟩ := bd_some hf
  refine Ev.callV (o := 65) (M' := mi_X10_isField) (d' := d - 1) (As := [.int p0]) (rest := []) (r' := (some (.int q1.1), hp q1.2)) (e_X10_isField (d := d - 1) (by omega) p0 s _ hq1) (by omega) wm_X10_isField wi_X10_isField wv_X10_isField km_10_602 (kc rfl rfl) (Nat.le_of_ble_eq_true rfl) rfl rfl rfl (Nat.le_of_ble_eq_true rfl) ⟨Nat.le_of_ble_eq_true rfl, Nat.le_of_ble_eq_true rfl⟩ (by decide +kernel) ?_
  show Ev l d mi_X10_spare 5 [some (.ref 65), some (.int p0), some (.int p1), some (.int p2), none, none, none, none, none] [.int q1.1] (hp q1.2) 0 0 _
  refine Ev.if_eq (off := 24) (tgt := 29) (by decide +kernel) (by decide) (fun b2 => ?_) (fun b2 => ?_)
  · have hf := (if_pos b2).symm.trans hf
    refine Ev.blk (pc' := 30) [(.iconst (-1), 0, 0, 0)] (by decide +kernel) trivial rfl (?_)
    show Ev l d mi_X10_spare 30 [some (.ref 65), some (.int p0), some (.int p1), some (.int p2), none, none, none, none, none] [.int (Int32.ofInt (-1))] (hp q1.2) 0 0 _
    cases hf
    exact Ev.iret .int rfl rfl (by decide +kernel) (Nat.le_refl _) (Nat.le_refl _)
  · have hf := (if_neg b2).symm.trans hf
    refine Ev.blk (pc' := 13) [(.aload_n 0, 0, 0, 0), (.iload_n 2, 0, 0, 0), (.iconst 1, 0, 0, 0), (.bipush 6, 0, 0, 0)] (by decide +kernel) trivial rfl (?_)
    show Ev l d mi_X10_spare 13 [some (.ref 65), some (.int p0), some (.int p1), some (.int p2), none, none, none, none, none] [.int ((Int8.ofInt 6).toInt32), .int (Int32.ofInt 1), .int p1, .ref 65] (hp q1.2) 0 0 _
    obtain ⟨q3, hq3, hf⟩ := bd_some hf
    refine Ev.callV (o := 65) (M' := mi_X10_isAhead) (d' := d - 1) (As := [.int p1, .int (Int32.ofInt 1), .int ((Int8.ofInt 6).toInt32)]) (rest := []) (r' := (some (.int q3.1), hp q3.2)) (e_X10_isAhead (d := d - 1) (by omega) p1 (Int32.ofInt 1) ((Int8.ofInt 6).toInt32) q1.2 _ hq3) (by omega) wm_X10_isAhead wi_X10_isAhead wv_X10_isAhead km_10_618 (kc rfl rfl) (Nat.le_of_ble_eq_true rfl) rfl rfl rfl (Nat.le_of_ble_eq_true rfl) ⟨Nat.le_of_ble_eq_true rfl, Nat.le_of_ble_eq_true rfl⟩ (by decide +kernel) ?_
    show Ev l d mi_X10_spare 16 [some (.ref 65), some (.int p0), some (.int p1), some (.int p2), none, none, none, none, none] [.int q3.1] (hp q3.2) 0 0 _
    refine Ev.if_eq (off := 13) (tgt := 29) (by decide +kernel) (by decide) (fun b4 => ?_) (fun b4 => ?_)
    · have hf := (if_pos b4).symm.trans hf
      refine Ev.blk (pc' := 30) [(.iconst (-1), 0, 0, 0)] (by decide +kernel) trivial rfl (?_)
      show Ev l d mi_X10_spare 30 [some (.ref 65), some (.int p0), some (.int p1), some (.int p2), none, none, none, none, none] [.int (Int32.ofInt (-1))] (hp q3.2) 0 0 _
      cases hf
      exact Ev.iret .int rfl rfl (by decide +kernel) (Nat.le_refl _) (Nat.le_refl _)
    · have hf := (if_neg b4).symm.trans hf
      refine Ev.blk (pc' := 23) [(.iload_n 3, 0, 0, 0), (.i2l, 0, 0, 0), (.lconst 0, 0, 0, 0), (.lconst 1, 0, 0, 0)] (by decide +kernel) trivial rfl (?_)
      show Ev l d mi_X10_spare 23 [some (.ref 65), some (.int p0), some (.int p1), some (.int p2), none, none, none, none, none] [.long (Int64.ofNat ((1 : Fin 2) : Nat)), .long (Int64.ofNat ((0 : Fin 2) : Nat)), .long (p2).toInt64] (hp q3.2) 0 0 _
      obtain ⟨q5, hq5, hf⟩ := bd_some hf
      refine Ev.callS (M' := mi_X10_isIn) (d' := d - 1) (As := [.long (p2).toInt64, .long (Int64.ofNat ((0 : Fin 2) : Nat)), .long (Int64.ofNat ((1 : Fin 2) : Nat))]) (rest := []) (r' := (some (.int q5.1), hp q5.2)) (e_X10_isIn (d := d - 1) (by omega) ((p2).toInt64) (Int64.ofNat ((0 : Fin 2) : Nat)) (Int64.ofNat ((1 : Fin 2) : Nat)) q3.2 _ hq5) (by omega) wm_X10_isIn wt_X10_isIn km_10_321 rfl rfl rfl (Nat.le_of_ble_eq_true rfl) ⟨Nat.le_of_ble_eq_true rfl, Nat.le_of_ble_eq_true rfl⟩ (by decide +kernel) ?_
      show Ev l d mi_X10_spare 26 [some (.ref 65), some (.int p0), some (.int p1), some (.int p2), none, none, none, none, none] [.int q5.1] (hp q5.2) 0 0 _
      refine Ev.if_ne (off := 5) (tgt := 31) (by decide +kernel) (by decide) (fun b6 => ?_) (fun b6 => ?_)
      · have hf := (if_neg b6).symm.trans hf
        refine Ev.blk (pc' := 38) [(.iconst (-1), 0, 0, 0), (.istore 4, 0, 0, 0), (.iconst (-1), 0, 0, 0), (.istore 5, 0, 0, 0), (.aload_n 0, 0, 0, 0)] (by decide +kernel) trivial rfl (And.intro (Nat.le_of_ble_eq_true rfl) (And.intro (Nat.le_of_ble_eq_true rfl) (?_)))
        show Ev l d mi_X10_spare 38 [some (.ref 65), some (.int p0), some (.int p1), some (.int p2), some (.int (Int32.ofInt (-1))), some (.int (Int32.ofInt (-1))), none, none, none] [.ref 65] (hp q5.2) 0 0 _
        obtain ⟨q7, hq7, hf⟩ := bd_some hf
        refine Ev.callV (o := 65) (M' := mi_X10_movesNow) (d' := d - 1) (As := []) (rest := []) (r' := (some (.int q7.1), hp q7.2)) (e_X10_movesNow (d := d - 1) (by omega) q5.2 _ hq7) (by omega) wm_X10_movesNow wi_X10_movesNow wv_X10_movesNow km_10_630 (kc rfl rfl) (Nat.le_of_ble_eq_true rfl) rfl rfl rfl (Nat.le_of_ble_eq_true rfl) ⟨Nat.le_of_ble_eq_true rfl, Nat.le_of_ble_eq_true rfl⟩ (by decide +kernel) ?_
        show Ev l d mi_X10_spare 41 [some (.ref 65), some (.int p0), some (.int p1), some (.int p2), some (.int (Int32.ofInt (-1))), some (.int (Int32.ofInt (-1))), none, none, none] [.int q7.1] (hp q7.2) 0 0 _
        refine Ev.blk (pc' := 44) [(.istore 6, 0, 0, 0), (.aload_n 0, 0, 0, 0)] (by decide +kernel) trivial rfl (And.intro (Nat.le_of_ble_eq_true rfl) (?_))
        show Ev l d mi_X10_spare 44 [some (.ref 65), some (.int p0), some (.int p1), some (.int p2), some (.int (Int32.ofInt (-1))), some (.int (Int32.ofInt (-1))), some (.int q7.1), none, none] [.ref 65] (hp q7.2) 0 0 _
        obtain ⟨q8, hq8, hf⟩ := bd_some hf
        refine Ev.callV (o := 65) (M' := mi_X10_putsAside) (d' := d - 1) (As := []) (rest := []) (r' := (none, hp q8)) (e_X10_putsAside (d := d - 1) (by omega) q7.2 _ hq8) (by omega) wm_X10_putsAside wi_X10_putsAside wv_X10_putsAside km_10_621 (kc rfl rfl) (Nat.le_of_ble_eq_true rfl) rfl rfl rfl (Nat.le_of_ble_eq_true rfl) ⟨Nat.le_of_ble_eq_true rfl, Nat.le_of_ble_eq_true rfl⟩ (by decide +kernel) ?_
        show Ev l d mi_X10_spare 47 [some (.ref 65), some (.int p0), some (.int p1), some (.int p2), some (.int (Int32.ofInt (-1))), some (.int (Int32.ofInt (-1))), some (.int q7.1), none, none] [] (hp q8) 0 0 _
        refine Ev.blk (pc' := 50) [(.iconst 0, 0, 0, 0), (.istore 7, 0, 0, 0)] (by decide +kernel) trivial rfl (And.intro (Nat.le_of_ble_eq_true rfl) (?_))
        show Ev l d mi_X10_spare 50 [some (.ref 65), some (.int p0), some (.int p1), some (.int p2), some (.int (Int32.ofInt (-1))), some (.int (Int32.ofInt (-1))), some (.int q7.1), some (.int (Int32.ofInt 0)), none] [] (hp q8) 0 0 _
        exact (e_X10_spare_L50 hd f_X10_spare_j113 (e_X10_spare_j113 hd) fuel) p0 p1 p2 (Int32.ofInt (-1)) (Int32.ofInt (-1)) q7.1 (Int32.ofInt 0) q8 _ hf
      · have hf := (if_pos b6).symm.trans hf
        refine Ev.blk (pc' := 30) [(.iconst (-1), 0, 0, 0)] (by decide +kernel) trivial rfl (?_)
        show Ev l d mi_X10_spare 30 [some (.ref 65), some (.int p0), some (.int p1), some (.int p2), none, none, none, none, none] [.int (Int32.ofInt (-1))] (hp q5.2) 0 0 _
        cases hf
        exact Ev.iret .int rfl rfl (by decide +kernel) (Nat.le_refl _) (Nat.le_refl _)
def f_X10_sow_L27 (k46 : Int32 → Int32 → ST → Option (Int32 × ST)) : Nat → Int32 → Int32 → Int32 → ST → Option (Int32 × ST)
  | 0, _, _, _, _ => none
  | n + 1, x1, x2, x3, s => (if ((Int8.ofInt 25).toInt32) ≤ x3 then k46 x1 x2 s else gd (ib x3 25) (lt (uJ s 119 x3.toNatClampNeg (Int64.ofNat ((0 : Fin 2) : Nat))) (fun s7 => (f_X10_sow_L27 k46 n) x1 x2 (x3 + Int32.ofInt 1) s7)))
set_option maxHeartbeats 2000000 in
set_option maxRecDepth 20000 in
theorem e_X10_sow_L27 {l : Launch} {d : Nat} (hd : 11 ≤ d) (k46 : Int32 → Int32 → ST → Option (Int32 × ST)) (hk46 : ∀ (x1 : Int32) (x2 : Int32) (s : ST) (r : Int32 × ST), k46 x1 x2 s = some r → Ev l d mi_X10_sow 46 [some (.ref 65), some (.int x1), some (.int x2), none, none] [] (hp s) 0 0 (some (.int r.1), hp r.2)) : ∀ (n : Nat) (x1 : Int32) (x2 : Int32) (x3 : Int32) (s : ST) (r : Int32 × ST), f_X10_sow_L27 k46 n x1 x2 x3 s = some r → Ev l d mi_X10_sow 27 [some (.ref 65), some (.int x1), some (.int x2), some (.int x3), none] [] (hp s) 0 0 (some (.int r.1), hp r.2) := by
  intro n
  induction n with
  | zero =>
    intro x1 x2 x3 s r hf
    cases hf
  | succ n ih =>
    intro x1 x2 x3 s r hf
    unfold f_X10_sow_L27 at hf
    refine Ev.blk (pc' := 30) [(.iload_n 3, 0, 0, 0), (.bipush 25, 0, 0, 0)] (by decide +kernel) trivial rfl (?_)
    show Ev l d mi_X10_sow 30 [some (.ref 65), some (.int x1), some (.int x2), some (.int x3), none] [.int ((Int8.ofInt 25).toInt32), .int x3] (hp s) 0 0 _
    refine Ev.icmp_ge (off := 16) (tgt := 46) (by decide +kernel) (by decide) (fun b5 => ?_) (fun b5 => ?_)
    · have hf := (if_pos b5).symm.trans hf
      exact Ev.wk (hk46 x1 x2 s _ hf) (And.intro (Or.inr rfl) (And.intro (Or.inr rfl) (And.intro (Or.inr rfl) (And.intro (Or.inl rfl) (And.intro (Or.inr rfl) (trivial))))))
    · have hf := (if_neg b5).symm.trans hf
      obtain ⟨c6, hf⟩ := gd_some hf
      obtain ⟨s7, hs7, hf⟩ := lt_some hf
      refine Ev.blk (pc' := 43) [(.aload_n 0, 0, 0, 0), (.getfield 175, 0, 10, 76), (.iload_n 3, 0, 0, 0), (.lconst 0, 0, 0, 0), (.lastore, 0, 0, 0), (.iinc 3 1, 0, 0, 0)] (by decide +kernel) ⟨kf_10_175, trivial⟩ rfl (And.intro (kc rfl rfl) (Exists.intro 119 (And.intro rfl (And.intro (kc rfl rfl) (And.intro (ib_ok c6) (And.intro (Nat.le_of_ble_eq_true rfl) (?_)))))))
      show Ev l d mi_X10_sow 43 [some (.ref 65), some (.int x1), some (.int x2), some (.int (x3 + Int32.ofInt 1)), none] [] (hp (uJ s 119 x3.toNatClampNeg (Int64.ofNat ((0 : Fin 2) : Nat)))) 0 0 _
      rw [← hs7]
      refine Ev.goto (off := -16) (tgt := 27) (by decide +kernel) (by decide) ?_
      exact ih x1 x2 (x3 + Int32.ofInt 1) s7 _ hf
def f_X10_sow_j73 (k52 : Int32 → Int32 → Int32 → ST → Option (Int32 × ST)) (x1 : Int32) (x2 : Int32) (x3 : Int32) (s : ST) : Option (Int32 × ST) := (f_X10_dayGoes s).bind (fun q13 => k52 x1 x2 (x3 + Int32.ofInt 1) q13)
set_option maxHeartbeats 2000000 in
set_option maxRecDepth 20000 in
theorem e_X10_sow_j73 {l : Launch} {d : Nat} (hd : 11 ≤ d) (k52 : Int32 → Int32 → Int32 → ST → Option (Int32 × ST)) (hk52 : ∀ (x1 : Int32) (x2 : Int32) (x3 : Int32) (s : ST) (r : Int32 × ST), k52 x1 x2 x3 s = some r → Ev l d mi_X10_sow 52 [some (.ref 65), some (.int x1), some (.int x2), some (.int x3), none] [] (hp s) 0 0 (some (.int r.1), hp r.2)) (x1 : Int32) (x2 : Int32) (x3 : Int32) (s : ST) (r : Int32 × ST) (hf : f_X10_sow_j73 k52 x1 x2 x3 s = some r) : Ev l d mi_X10_sow 73 [some (.ref 65), some (.int x1), some (.int x2), some (.int x3), none] [] (hp s) 0 0 (some (.int r.1), hp r.2) := by
  unfold f_X10_sow_j73 at hf
  refine Ev.blk (pc' := 74) [(.aload_n 0, 0, 0, 0)] (by decide +kernel) trivial rfl (?_)
  show Ev l d mi_X10_sow 74 [some (.ref 65), some (.int x1), some (.int x2), some (.int x3), none] [.ref 65] (hp s) 0 0 _
  obtain ⟨q13, hq13, hf⟩ := bd_some hf
  refine Ev.callV (o := 65) (M' := mi_X10_dayGoes) (d' := d - 1) (As := []) (rest := []) (r' := (none, hp q13)) (e_X10_dayGoes (d := d - 1) (by omega) s _ hq13) (by omega) wm_X10_dayGoes wi_X10_dayGoes wv_X10_dayGoes km_10_578 (kc rfl rfl) (Nat.le_of_ble_eq_true rfl) rfl rfl rfl (Nat.le_of_ble_eq_true rfl) ⟨Nat.le_of_ble_eq_true rfl, Nat.le_of_ble_eq_true rfl⟩ (by decide +kernel) ?_
  show Ev l d mi_X10_sow 77 [some (.ref 65), some (.int x1), some (.int x2), some (.int x3), none] [] (hp q13) 0 0 _
  refine Ev.blk (pc' := 80) [(.iinc 3 1, 0, 0, 0)] (by decide +kernel) trivial rfl (And.intro (Nat.le_of_ble_eq_true rfl) (?_))
  show Ev l d mi_X10_sow 80 [some (.ref 65), some (.int x1), some (.int x2), some (.int (x3 + Int32.ofInt 1)), none] [] (hp q13) 0 0 _
  refine Ev.goto (off := -28) (tgt := 52) (by decide +kernel) (by decide) ?_
  exact hk52 x1 x2 (x3 + Int32.ofInt 1) q13 _ hf
def f_X10_sow_L52 (k83 : Int32 → ST → Option (Int32 × ST)) : Nat → Int32 → Int32 → Int32 → ST → Option (Int32 × ST)
  | 0, _, _, _, _ => none
  | n + 1, x1, x2, x3, s => (if x1 ≤ x3 then k83 x2 s else (f_X10_choosesToday s).bind (fun q10 => (if (q10.1 65 68) = (Int32.ofInt (-1)) then (f_X10_sow_j73 (f_X10_sow_L52 k83 n)) x1 x2 x3 q10 else (f_X10_laysHarms q10).bind (fun q12 => (f_X10_sow_j73 (f_X10_sow_L52 k83 n)) x1 x2 x3 q12))))
set_option maxHeartbeats 2000000 in
set_option maxRecDepth 20000 in
theorem e_X10_sow_L52 {l : Launch} {d : Nat} (hd : 11 ≤ d) (k83 : Int32 → ST → Option (Int32 × ST)) (hk83 : ∀ (x2 : Int32) (s : ST) (r : Int32 × ST), k83 x2 s = some r → Ev l d mi_X10_sow 83 [some (.ref 65), none, some (.int x2), none, none] [] (hp s) 0 0 (some (.int r.1), hp r.2)) : ∀ (n : Nat) (x1 : Int32) (x2 : Int32) (x3 : Int32) (s : ST) (r : Int32 × ST), f_X10_sow_L52 k83 n x1 x2 x3 s = some r → Ev l d mi_X10_sow 52 [some (.ref 65), some (.int x1), some (.int x2), some (.int x3), none] [] (hp s) 0 0 (some (.int r.1), hp r.2) := by
  intro n
  induction n with
  | zero =>
    intro x1 x2 x3 s r hf
    cases hf
  | succ n ih =>
    intro x1 x2 x3 s r hf
    unfold f_X10_sow_L52 at hf
    refine Ev.blk (pc' := 54) [(.iload_n 3, 0, 0, 0), (.iload_n 1, 0, 0, 0)] (by decide +kernel) trivial rfl (?_)
    show Ev l d mi_X10_sow 54 [some (.ref 65), some (.int x1), some (.int x2), some (.int x3), none] [.int x1, .int x3] (hp s) 0 0 _
    refine Ev.icmp_ge (off := 29) (tgt := 83) (by decide +kernel) (by decide) (fun b9 => ?_) (fun b9 => ?_)
    · have hf := (if_pos b9).symm.trans hf
      exact Ev.wk (hk83 x2 s _ hf) (And.intro (Or.inr rfl) (And.intro (Or.inl rfl) (And.intro (Or.inr rfl) (And.intro (Or.inl rfl) (And.intro (Or.inr rfl) (trivial))))))
    · have hf := (if_neg b9).symm.trans hf
      refine Ev.blk (pc' := 58) [(.aload_n 0, 0, 0, 0)] (by decide +kernel) trivial rfl (?_)
      show Ev l d mi_X10_sow 58 [some (.ref 65), some (.int x1), some (.int x2), some (.int x3), none] [.ref 65] (hp s) 0 0 _
      obtain ⟨q10, hq10, hf⟩ := bd_some hf
      refine Ev.callV (o := 65) (M' := mi_X10_choosesToday) (d' := d - 1) (As := []) (rest := []) (r' := (none, hp q10)) (e_X10_choosesToday (d := d - 1) (by omega) s _ hq10) (by omega) wm_X10_choosesToday wi_X10_choosesToday wv_X10_choosesToday km_10_575 (kc rfl rfl) (Nat.le_of_ble_eq_true rfl) rfl rfl rfl (Nat.le_of_ble_eq_true rfl) ⟨Nat.le_of_ble_eq_true rfl, Nat.le_of_ble_eq_true rfl⟩ (by decide +kernel) ?_
      show Ev l d mi_X10_sow 61 [some (.ref 65), some (.int x1), some (.int x2), some (.int x3), none] [] (hp q10) 0 0 _
      refine Ev.blk (pc' := 66) [(.aload_n 0, 0, 0, 0), (.getfield 515, 0, 10, 68), (.iconst (-1), 0, 0, 0)] (by decide +kernel) ⟨kf_10_515, trivial⟩ rfl (And.intro (kc rfl rfl) (?_))
      show Ev l d mi_X10_sow 66 [some (.ref 65), some (.int x1), some (.int x2), some (.int x3), none] [.int (Int32.ofInt (-1)), .int (q10.1 65 68)] (hp q10) 0 0 _
      refine Ev.icmp_eq (off := 7) (tgt := 73) (by decide +kernel) (by decide) (fun b11 => ?_) (fun b11 => ?_)
      · have hf := (if_pos b11).symm.trans hf
        exact (e_X10_sow_j73 hd (f_X10_sow_L52 k83 n) ih) x1 x2 x3 q10 _ hf
      · have hf := (if_neg b11).symm.trans hf
        refine Ev.blk (pc' := 70) [(.aload_n 0, 0, 0, 0)] (by decide +kernel) trivial rfl (?_)
        show Ev l d mi_X10_sow 70 [some (.ref 65), some (.int x1), some (.int x2), some (.int x3), none] [.ref 65] (hp q10) 0 0 _
        obtain ⟨q12, hq12, hf⟩ := bd_some hf
        refine Ev.callV (o := 65) (M' := mi_X10_laysHarms) (d' := d - 1) (As := []) (rest := []) (r' := (none, hp q12)) (e_X10_laysHarms (d := d - 1) (by omega) q10 _ hq12) (by omega) wm_X10_laysHarms wi_X10_laysHarms wv_X10_laysHarms km_10_633 (kc rfl rfl) (Nat.le_of_ble_eq_true rfl) rfl rfl rfl (Nat.le_of_ble_eq_true rfl) ⟨Nat.le_of_ble_eq_true rfl, Nat.le_of_ble_eq_true rfl⟩ (by decide +kernel) ?_
        show Ev l d mi_X10_sow 73 [some (.ref 65), some (.int x1), some (.int x2), some (.int x3), none] [] (hp q12) 0 0 _
        exact (e_X10_sow_j73 hd (f_X10_sow_L52 k83 n) ih) x1 x2 x3 q12 _ hf
def f_X10_sow_L92 (k127 : Int32 → Int32 → ST → Option (Int32 × ST)) : Nat → Int32 → Int32 → Int32 → ST → Option (Int32 × ST)
  | 0, _, _, _, _ => none
  | n + 1, x2, x3, x4, s => (f_X10_places s).bind (fun q15 => (if q15.1 ≤ x4 then k127 x2 x3 q15.2 else gd (ib x4 25) (gd (ib x3 25) (lt (lg_cmp (q15.2.2.1 119 x4.toNatClampNeg) (q15.2.2.1 119 x3.toNatClampNeg)) (fun v19 => (if 0 ≤ v19 then (f_X10_sow_L92 k127 n) x2 x3 (x4 + Int32.ofInt 1) q15.2 else (f_X10_sow_L92 k127 n) x2 x4 (x4 + Int32.ofInt 1) q15.2))))))
set_option maxHeartbeats 2000000 in
set_option maxRecDepth 20000 in
theorem e_X10_sow_L92 {l : Launch} {d : Nat} (hd : 11 ≤ d) (k127 : Int32 → Int32 → ST → Option (Int32 × ST)) (hk127 : ∀ (x2 : Int32) (x3 : Int32) (s : ST) (r : Int32 × ST), k127 x2 x3 s = some r → Ev l d mi_X10_sow 127 [some (.ref 65), none, some (.int x2), some (.int x3), none] [] (hp s) 0 0 (some (.int r.1), hp r.2)) : ∀ (n : Nat) (x2 : Int32) (x3 : Int32) (x4 : Int32) (s : ST) (r : Int32 × ST), f_X10_sow_L92 k127 n x2 x3 x4 s = some r → Ev l d mi_X10_sow 92 [some (.ref 65), none, some (.int x2), some (.int x3), some (.int x4)] [] (hp s) 0 0 (some (.int r.1), hp r.2) := by
  intro n
  induction n with
  | zero =>
    intro x2 x3 x4 s r hf
    cases hf
  | succ n ih =>
    intro x2 x3 x4 s r hf
    unfold f_X10_sow_L92 at hf
    refine Ev.blk (pc' := 95) [(.iload 4, 0, 0, 0), (.aload_n 0, 0, 0, 0)] (by decide +kernel) trivial rfl (?_)
    show Ev l d mi_X10_sow 95 [some (.ref 65), none, some (.int x2), some (.int x3), some (.int x4)] [.ref 65, .int x4] (hp s) 0 0 _
    obtain ⟨q15, hq15, hf⟩ := bd_some hf
    refine Ev.callV (o := 65) (M' := mi_X10_places) (d' := d - 1) (As := []) (rest := [.int x4]) (r' := (some (.int q15.1), hp q15.2)) (e_X10_places (d := d - 1) (by omega) s _ hq15) (by omega) wm_X10_places wi_X10_places wv_X10_places km_10_471 (kc rfl rfl) (Nat.le_of_ble_eq_true rfl) rfl rfl rfl (Nat.le_of_ble_eq_true rfl) ⟨Nat.le_of_ble_eq_true rfl, Nat.le_of_ble_eq_true rfl⟩ (by decide +kernel) ?_
    show Ev l d mi_X10_sow 98 [some (.ref 65), none, some (.int x2), some (.int x3), some (.int x4)] [.int q15.1, .int x4] (hp q15.2) 0 0 _
    refine Ev.icmp_ge (off := 29) (tgt := 127) (by decide +kernel) (by decide) (fun b16 => ?_) (fun b16 => ?_)
    · have hf := (if_pos b16).symm.trans hf
      exact Ev.wk (hk127 x2 x3 q15.2 _ hf) (And.intro (Or.inr rfl) (And.intro (Or.inr rfl) (And.intro (Or.inr rfl) (And.intro (Or.inr rfl) (And.intro (Or.inl rfl) (trivial))))))
    · have hf := (if_neg b16).symm.trans hf
      obtain ⟨c17, hf⟩ := gd_some hf
      obtain ⟨c18, hf⟩ := gd_some hf
      obtain ⟨v19, hv19, hf⟩ := lt_some hf
      refine Ev.blk (pc' := 115) [(.aload_n 0, 0, 0, 0), (.getfield 175, 0, 10, 76), (.iload 4, 0, 0, 0), (.laload, 0, 0, 0), (.aload_n 0, 0, 0, 0), (.getfield 175, 0, 10, 76), (.iload_n 3, 0, 0, 0), (.laload, 0, 0, 0), (.lcmp, 0, 0, 0)] (by decide +kernel) ⟨kf_10_175, ⟨kf_10_175, trivial⟩⟩ rfl (And.intro (kc rfl rfl) (Exists.intro 119 (And.intro rfl (And.intro (kc rfl rfl) (And.intro (ib_ok c17) (And.intro (kc rfl rfl) (Exists.intro 119 (And.intro rfl (And.intro (kc rfl rfl) (And.intro (ib_ok c18) (?_)))))))))))
      show Ev l d mi_X10_sow 115 [some (.ref 65), none, some (.int x2), some (.int x3), some (.int x4)] [.int (lg_cmp (q15.2.2.1 119 x4.toNatClampNeg) (q15.2.2.1 119 x3.toNatClampNeg))] (hp q15.2) 0 0 _
      rw [← hv19]
      refine Ev.if_ge (off := 6) (tgt := 121) (by decide +kernel) (by decide) (fun b20 => ?_) (fun b20 => ?_)
      · have hf := (if_pos b20).symm.trans hf
        refine Ev.blk (pc' := 124) [(.iinc 4 1, 0, 0, 0)] (by decide +kernel) trivial rfl (And.intro (Nat.le_of_ble_eq_true rfl) (?_))
        show Ev l d mi_X10_sow 124 [some (.ref 65), none, some (.int x2), some (.int x3), some (.int (x4 + Int32.ofInt 1))] [] (hp q15.2) 0 0 _
        refine Ev.goto (off := -32) (tgt := 92) (by decide +kernel) (by decide) ?_
        exact ih x2 x3 (x4 + Int32.ofInt 1) q15.2 _ hf
      · have hf := (if_neg b20).symm.trans hf
        refine Ev.blk (pc' := 124) [(.iload 4, 0, 0, 0), (.istore_n 3, 0, 0, 0), (.iinc 4 1, 0, 0, 0)] (by decide +kernel) trivial rfl (And.intro (Nat.le_of_ble_eq_true rfl) (And.intro (Nat.le_of_ble_eq_true rfl) (?_)))
        show Ev l d mi_X10_sow 124 [some (.ref 65), none, some (.int x2), some (.int x4), some (.int (x4 + Int32.ofInt 1))] [] (hp q15.2) 0 0 _
        refine Ev.goto (off := -32) (tgt := 92) (by decide +kernel) (by decide) ?_
        exact ih x2 x4 (x4 + Int32.ofInt 1) q15.2 _ hf
def f_X10_sow_j127 (x2 : Int32) (x3 : Int32) (s : ST) : Option (Int32 × ST) := (if x2 = 0 then gd (ib (Int32.ofInt 4) 8) (gd (nz (s.1 103 (Int32.ofInt 4).toNatClampNeg)) (lt (x3 - x3 / (s.1 103 (Int32.ofInt 4).toNatClampNeg) * (s.1 103 (Int32.ofInt 4).toNatClampNeg)) (fun v30 => some (v30, s)))) else (if x2 = (Int32.ofInt 1) then gd (ib (Int32.ofInt 4) 8) (gd (nz (s.1 103 (Int32.ofInt 4).toNatClampNeg)) (some ((x3 / (s.1 103 (Int32.ofInt 4).toNatClampNeg)), s))) else gd (ib x3 25) ((if (lg_cmp (s.2.1 119 x3.toNatClampNeg) (Int64.ofInt 999999)) ≤ 0 then gd (ib x3 25) (some ((s.2.1 119 x3.toNatClampNeg).toInt32, s)) else some ((Int32.ofInt 999999), s)))))
set_option maxHeartbeats 2000000 in
set_option maxRecDepth 20000 in
theorem e_X10_sow_j127 {l : Launch} {d : Nat} (hd : 11 ≤ d) (x2 : Int32) (x3 : Int32) (s : ST) (r : Int32 × ST) (hf : f_X10_sow_j127 x2 x3 s = some r) : Ev l d mi_X10_sow 127 [some (.ref 65), none, some (.int x2), some (.int x3), none] [] (hp s) 0 0 (some (.int r.1), hp r.2) := by
  unfold f_X10_sow_j127 at hf
  refine Ev.blk (pc' := 128) [(.iload_n 2, 0, 0, 0)] (by decide +kernel) trivial rfl (?_)
  show Ev l d mi_X10_sow 128 [some (.ref 65), none, some (.int x2), some (.int x3), none] [.int x2] (hp s) 0 0 _
  refine Ev.if_ne (off := 14) (tgt := 142) (by decide +kernel) (by decide) (fun b21 => ?_) (fun b21 => ?_)
  · have hf := (if_neg b21).symm.trans hf
    refine Ev.blk (pc' := 144) [(.iload_n 2, 0, 0, 0), (.iconst 1, 0, 0, 0)] (by decide +kernel) trivial rfl (?_)
    show Ev l d mi_X10_sow 144 [some (.ref 65), none, some (.int x2), some (.int x3), none] [.int (Int32.ofInt 1), .int x2] (hp s) 0 0 _
    refine Ev.icmp_ne (off := 14) (tgt := 158) (by decide +kernel) (by decide) (fun b22 => ?_) (fun b22 => ?_)
    · have hf := (if_neg b22).symm.trans hf
      obtain ⟨c23, hf⟩ := gd_some hf
      refine Ev.blk (pc' := 168) [(.aload_n 0, 0, 0, 0), (.getfield 175, 0, 10, 76), (.iload_n 3, 0, 0, 0), (.laload, 0, 0, 0), (.ldc2_w 636, 999999, 0, 0), (.lcmp, 0, 0, 0)] (by decide +kernel) ⟨kf_10_175, ⟨kl_10_636, trivial⟩⟩ rfl (And.intro (kc rfl rfl) (Exists.intro 119 (And.intro rfl (And.intro (kc rfl rfl) (And.intro (ib_ok c23) (?_))))))
      show Ev l d mi_X10_sow 168 [some (.ref 65), none, some (.int x2), some (.int x3), none] [.int (lg_cmp (s.2.1 119 x3.toNatClampNeg) (Int64.ofInt 999999))] (hp s) 0 0 _
      refine Ev.if_le (off := 9) (tgt := 177) (by decide +kernel) (by decide) (fun b24 => ?_) (fun b24 => ?_)
      · have hf := (if_pos b24).symm.trans hf
        obtain ⟨c25, hf⟩ := gd_some hf
        refine Ev.blk (pc' := 184) [(.aload_n 0, 0, 0, 0), (.getfield 175, 0, 10, 76), (.iload_n 3, 0, 0, 0), (.laload, 0, 0, 0), (.l2i, 0, 0, 0)] (by decide +kernel) ⟨kf_10_175, trivial⟩ rfl (And.intro (kc rfl rfl) (Exists.intro 119 (And.intro rfl (And.intro (kc rfl rfl) (And.intro (ib_ok c25) (?_))))))
        show Ev l d mi_X10_sow 184 [some (.ref 65), none, some (.int x2), some (.int x3), none] [.int (s.2.1 119 x3.toNatClampNeg).toInt32] (hp s) 0 0 _
        cases hf
        exact Ev.iret .int rfl rfl (by decide +kernel) (Nat.le_refl _) (Nat.le_refl _)
      · have hf := (if_neg b24).symm.trans hf
        refine Ev.blk (pc' := 174) [(.ldc_w 638, 999999, 0, 0)] (by decide +kernel) ⟨kc_10_638, trivial⟩ rfl (?_)
        show Ev l d mi_X10_sow 174 [some (.ref 65), none, some (.int x2), some (.int x3), none] [.int (Int32.ofInt 999999)] (hp s) 0 0 _
        refine Ev.goto (off := 10) (tgt := 184) (by decide +kernel) (by decide) ?_
        cases hf
        exact Ev.iret .int rfl rfl (by decide +kernel) (Nat.le_refl _) (Nat.le_refl _)
    · have hf := (if_pos b22).symm.trans hf
      obtain ⟨c26, hf⟩ := gd_some hf
      obtain ⟨c27, hf⟩ := gd_some hf
      refine Ev.blk (pc' := 155) [(.iload_n 3, 0, 0, 0), (.aload_n 0, 0, 0, 0), (.getfield 127, 0, 10, 47), (.iconst 4, 0, 0, 0), (.iaload, 0, 0, 0), (.idiv, 0, 0, 0)] (by decide +kernel) ⟨kf_10_127, trivial⟩ rfl (And.intro (kc rfl rfl) (Exists.intro 103 (And.intro rfl (And.intro (kc rfl rfl) (And.intro (ib_ok c26) (And.intro (nz_ok c27) (?_)))))))
      show Ev l d mi_X10_sow 155 [some (.ref 65), none, some (.int x2), some (.int x3), none] [.int (x3 / (s.1 103 (Int32.ofInt 4).toNatClampNeg))] (hp s) 0 0 _
      refine Ev.goto (off := 29) (tgt := 184) (by decide +kernel) (by decide) ?_
      cases hf
      exact Ev.iret .int rfl rfl (by decide +kernel) (Nat.le_refl _) (Nat.le_refl _)
  · have hf := (if_pos b21).symm.trans hf
    obtain ⟨c28, hf⟩ := gd_some hf
    obtain ⟨c29, hf⟩ := gd_some hf
    obtain ⟨v30, hv30, hf⟩ := lt_some hf
    refine Ev.blk (pc' := 139) [(.iload_n 3, 0, 0, 0), (.aload_n 0, 0, 0, 0), (.getfield 127, 0, 10, 47), (.iconst 4, 0, 0, 0), (.iaload, 0, 0, 0), (.irem, 0, 0, 0)] (by decide +kernel) ⟨kf_10_127, trivial⟩ rfl (And.intro (kc rfl rfl) (Exists.intro 103 (And.intro rfl (And.intro (kc rfl rfl) (And.intro (ib_ok c28) (And.intro (nz_ok c29) (?_)))))))
    show Ev l d mi_X10_sow 139 [some (.ref 65), none, some (.int x2), some (.int x3), none] [.int (x3 - x3 / (s.1 103 (Int32.ofInt 4).toNatClampNeg) * (s.1 103 (Int32.ofInt 4).toNatClampNeg))] (hp s) 0 0 _
    rw [← hv30]
    refine Ev.goto (off := 45) (tgt := 184) (by decide +kernel) (by decide) ?_
    cases hf
    exact Ev.iret .int rfl rfl (by decide +kernel) (Nat.le_refl _) (Nat.le_refl _)
def f_X10_sow_j83 (x2 : Int32) (s : ST) : Option (Int32 × ST) := (f_X10_takesBack s).bind (fun q14 => (f_X10_sow_L92 f_X10_sow_j127 fuel) x2 (Int32.ofInt 0) (Int32.ofInt 1) q14)
set_option maxHeartbeats 2000000 in
set_option maxRecDepth 20000 in
theorem e_X10_sow_j83 {l : Launch} {d : Nat} (hd : 11 ≤ d) (x2 : Int32) (s : ST) (r : Int32 × ST) (hf : f_X10_sow_j83 x2 s = some r) : Ev l d mi_X10_sow 83 [some (.ref 65), none, some (.int x2), none, none] [] (hp s) 0 0 (some (.int r.1), hp r.2) := by
  unfold f_X10_sow_j83 at hf
  refine Ev.blk (pc' := 84) [(.aload_n 0, 0, 0, 0)] (by decide +kernel) trivial rfl (?_)
  show Ev l d mi_X10_sow 84 [some (.ref 65), none, some (.int x2), none, none] [.ref 65] (hp s) 0 0 _
  obtain ⟨q14, hq14, hf⟩ := bd_some hf
  refine Ev.callV (o := 65) (M' := mi_X10_takesBack) (d' := d - 1) (As := []) (rest := []) (r' := (none, hp q14)) (e_X10_takesBack (d := d - 1) (by omega) s _ hq14) (by omega) wm_X10_takesBack wi_X10_takesBack wv_X10_takesBack km_10_627 (kc rfl rfl) (Nat.le_of_ble_eq_true rfl) rfl rfl rfl (Nat.le_of_ble_eq_true rfl) ⟨Nat.le_of_ble_eq_true rfl, Nat.le_of_ble_eq_true rfl⟩ (by decide +kernel) ?_
  show Ev l d mi_X10_sow 87 [some (.ref 65), none, some (.int x2), none, none] [] (hp q14) 0 0 _
  refine Ev.blk (pc' := 92) [(.iconst 0, 0, 0, 0), (.istore_n 3, 0, 0, 0), (.iconst 1, 0, 0, 0), (.istore 4, 0, 0, 0)] (by decide +kernel) trivial rfl (And.intro (Nat.le_of_ble_eq_true rfl) (And.intro (Nat.le_of_ble_eq_true rfl) (?_)))
  show Ev l d mi_X10_sow 92 [some (.ref 65), none, some (.int x2), some (.int (Int32.ofInt 0)), some (.int (Int32.ofInt 1))] [] (hp q14) 0 0 _
  exact (e_X10_sow_L92 hd f_X10_sow_j127 (e_X10_sow_j127 hd) fuel) x2 (Int32.ofInt 0) (Int32.ofInt 1) q14 _ hf
def f_X10_sow_j46 (x1 : Int32) (x2 : Int32) (s : ST) : Option (Int32 × ST) := (f_X10_putsAside s).bind (fun q8 => (f_X10_sow_L52 f_X10_sow_j83 fuel) x1 x2 (Int32.ofInt 0) q8)
set_option maxHeartbeats 2000000 in
set_option maxRecDepth 20000 in
theorem e_X10_sow_j46 {l : Launch} {d : Nat} (hd : 11 ≤ d) (x1 : Int32) (x2 : Int32) (s : ST) (r : Int32 × ST) (hf : f_X10_sow_j46 x1 x2 s = some r) : Ev l d mi_X10_sow 46 [some (.ref 65), some (.int x1), some (.int x2), none, none] [] (hp s) 0 0 (some (.int r.1), hp r.2) := by
  unfold f_X10_sow_j46 at hf
  refine Ev.blk (pc' := 47) [(.aload_n 0, 0, 0, 0)] (by decide +kernel) trivial rfl (?_)
  show Ev l d mi_X10_sow 47 [some (.ref 65), some (.int x1), some (.int x2), none, none] [.ref 65] (hp s) 0 0 _
  obtain ⟨q8, hq8, hf⟩ := bd_some hf
  refine Ev.callV (o := 65) (M' := mi_X10_putsAside) (d' := d - 1) (As := []) (rest := []) (r' := (none, hp q8)) (e_X10_putsAside (d := d - 1) (by omega) s _ hq8) (by omega) wm_X10_putsAside wi_X10_putsAside wv_X10_putsAside km_10_621 (kc rfl rfl) (Nat.le_of_ble_eq_true rfl) rfl rfl rfl (Nat.le_of_ble_eq_true rfl) ⟨Nat.le_of_ble_eq_true rfl, Nat.le_of_ble_eq_true rfl⟩ (by decide +kernel) ?_
  show Ev l d mi_X10_sow 50 [some (.ref 65), some (.int x1), some (.int x2), none, none] [] (hp q8) 0 0 _
  refine Ev.blk (pc' := 52) [(.iconst 0, 0, 0, 0), (.istore_n 3, 0, 0, 0)] (by decide +kernel) trivial rfl (And.intro (Nat.le_of_ble_eq_true rfl) (?_))
  show Ev l d mi_X10_sow 52 [some (.ref 65), some (.int x1), some (.int x2), some (.int (Int32.ofInt 0)), none] [] (hp q8) 0 0 _
  exact (e_X10_sow_L52 hd f_X10_sow_j83 (e_X10_sow_j83 hd) fuel) x1 x2 (Int32.ofInt 0) q8 _ hf
def f_X10_sow (p0 : Int32) (p1 : Int32) (s : ST) : Option (Int32 × ST) := (f_X10_isAhead p0 (Int32.ofInt 0) ((Int8.ofInt 20).toInt32) s).bind (fun q1 => (if q1.1 = 0 then some ((Int32.ofInt (-1)), q1.2) else (f_X10_isIn ((p1).toInt64) (Int64.ofNat ((0 : Fin 2) : Nat)) (Int64.ofInt 2) q1.2).bind (fun q3 => (if q3.1 = 0 then some ((Int32.ofInt (-1)), q3.2) else (f_X10_sow_L27 f_X10_sow_j46 fuel) p0 p1 (Int32.ofInt 0) q3.2))))
set_option maxHeartbeats 2000000 in
set_option maxRecDepth 20000 in
theorem e_X10_sow {l : Launch} {d : Nat} (hd : 11 ≤ d) (p0 : Int32) (p1 : Int32) (s : ST) (r : Int32 × ST) (hf : f_X10_sow p0 p1 s = some r) : Cl l d mi_X10_sow [.ref 65, .int p0, .int p1] (hp s) (some (.int r.1), hp r.2) := by
  refine Ev.entry (by decide +kernel) rfl rfl ?_
  show Ev l d mi_X10_sow 0 [some (.ref 65), some (.int p0), some (.int p1), none, none] [] (hp s) 0 0 _
  unfold f_X10_sow at hf
  refine Ev.blk (pc' := 5) [(.aload_n 0, 0, 0, 0), (.iload_n 1, 0, 0, 0), (.iconst 0, 0, 0, 0), (.bipush 20, 0, 0, 0)] (by decide +kernel) trivial rfl (?_)
  show Ev l d mi_X10_sow 5 [some (.ref 65), some (.int p0), some (.int p1), none, none] [.int ((Int8.ofInt 20).toInt32), .int (Int32.ofInt 0), .int p0, .ref 65] (hp s) 0 0 _
  obtain ⟨q1, hq1, hf⟩ := bd_some hf
  refine Ev.callV (o := 65) (M' := mi_X10_isAhead) (d' := d - 1) (As := [.int p0, .int (Int32.ofInt 0), .int ((Int8.ofInt 20).toInt32)]) (rest := []) (r' := (some (.int q1.1), hp q1.2)) (e_X10_isAhead (d := d - 1) (by omega) p0 (Int32.ofInt 0) ((Int8.ofInt 20).toInt32) s _ hq1) (by omega) wm_X10_isAhead wi_X10_isAhead wv_X10_isAhead km_10_618 (kc rfl rfl) (Nat.le_of_ble_eq_true rfl) rfl rfl rfl (Nat.le_of_ble_eq_true rfl) ⟨Nat.le_of_ble_eq_true rfl, Nat.le_of_ble_eq_true rfl⟩ (by decide +kernel) ?_
  show Ev l d mi_X10_sow 8 [some (.ref 65), some (.int p0), some (.int p1), none, none] [.int q1.1] (hp q1.2) 0 0 _
  refine Ev.if_eq (off := 15) (tgt := 23) (by decide +kernel) (by decide) (fun b2 => ?_) (fun b2 => ?_)
  · have hf := (if_pos b2).symm.trans hf
    refine Ev.blk (pc' := 24) [(.iconst (-1), 0, 0, 0)] (by decide +kernel) trivial rfl (?_)
    show Ev l d mi_X10_sow 24 [some (.ref 65), some (.int p0), some (.int p1), none, none] [.int (Int32.ofInt (-1))] (hp q1.2) 0 0 _
    cases hf
    exact Ev.iret .int rfl rfl (by decide +kernel) (Nat.le_refl _) (Nat.le_refl _)
  · have hf := (if_neg b2).symm.trans hf
    refine Ev.blk (pc' := 17) [(.iload_n 2, 0, 0, 0), (.i2l, 0, 0, 0), (.lconst 0, 0, 0, 0), (.ldc2_w 593, 2, 0, 0)] (by decide +kernel) ⟨kl_10_593, trivial⟩ rfl (?_)
    show Ev l d mi_X10_sow 17 [some (.ref 65), some (.int p0), some (.int p1), none, none] [.long (Int64.ofInt 2), .long (Int64.ofNat ((0 : Fin 2) : Nat)), .long (p1).toInt64] (hp q1.2) 0 0 _
    obtain ⟨q3, hq3, hf⟩ := bd_some hf
    refine Ev.callS (M' := mi_X10_isIn) (d' := d - 1) (As := [.long (p1).toInt64, .long (Int64.ofNat ((0 : Fin 2) : Nat)), .long (Int64.ofInt 2)]) (rest := []) (r' := (some (.int q3.1), hp q3.2)) (e_X10_isIn (d := d - 1) (by omega) ((p1).toInt64) (Int64.ofNat ((0 : Fin 2) : Nat)) (Int64.ofInt 2) q1.2 _ hq3) (by omega) wm_X10_isIn wt_X10_isIn km_10_321 rfl rfl rfl (Nat.le_of_ble_eq_true rfl) ⟨Nat.le_of_ble_eq_true rfl, Nat.le_of_ble_eq_true rfl⟩ (by decide +kernel) ?_
    show Ev l d mi_X10_sow 20 [some (.ref 65), some (.int p0), some (.int p1), none, none] [.int q3.1] (hp q3.2) 0 0 _
    refine Ev.if_ne (off := 5) (tgt := 25) (by decide +kernel) (by decide) (fun b4 => ?_) (fun b4 => ?_)
    · have hf := (if_neg b4).symm.trans hf
      refine Ev.blk (pc' := 27) [(.iconst 0, 0, 0, 0), (.istore_n 3, 0, 0, 0)] (by decide +kernel) trivial rfl (And.intro (Nat.le_of_ble_eq_true rfl) (?_))
      show Ev l d mi_X10_sow 27 [some (.ref 65), some (.int p0), some (.int p1), some (.int (Int32.ofInt 0)), none] [] (hp q3.2) 0 0 _
      exact (e_X10_sow_L27 hd f_X10_sow_j46 (e_X10_sow_j46 hd) fuel) p0 p1 (Int32.ofInt 0) q3.2 _ hf
    · have hf := (if_pos b4).symm.trans hf
      refine Ev.blk (pc' := 24) [(.iconst (-1), 0, 0, 0)] (by decide +kernel) trivial rfl (?_)
      show Ev l d mi_X10_sow 24 [some (.ref 65), some (.int p0), some (.int p1), none, none] [.int (Int32.ofInt (-1))] (hp q3.2) 0 0 _
      cases hf
      exact Ev.iret .int rfl rfl (by decide +kernel) (Nat.le_refl _) (Nat.le_refl _)
def f_X10_deeper (p0 : Int32) (p1 : Int32) (p2 : Int32) (s : ST) : Option (Int64 × ST) := (f_X10_isIn ((p0).toInt64) (Int64.ofNat ((0 : Fin 2) : Nat)) (Int64.ofNat ((1 : Fin 2) : Nat)) s).bind (fun q1 => (if q1.1 = 0 then some ((Int64.ofInt (-1000000000000000)), q1.2) else (f_X10_isIn ((p1).toInt64) (Int64.ofNat ((1 : Fin 2) : Nat)) (Int64.ofInt 2) q1.2).bind (fun q3 => (if q3.1 = 0 then some ((Int64.ofInt (-1000000000000000)), q3.2) else (f_X10_isAhead p2 (Int32.ofInt 0) ((Int8.ofInt 20).toInt32) q3.2).bind (fun q5 => (if q5.1 = 0 then some ((Int64.ofInt (-1000000000000000)), q5.2) else (f_X10_putsAside q5.2).bind (fun q7 => (f_X10_daysGo p2 q7).bind (fun q8 => (f_X10_bearAll q8).bind (fun q9 => (f_X10_triesAnew q9.2).bind (fun q10 => lt (uI (uI q10 65 78 p0) 65 79 p1) (fun s11 => (f_X10_daysGo p2 s11).bind (fun q12 => lt (uI q12 65 78 (Int32.ofInt (-1))) (fun s13 => (f_X10_bearAll s13).bind (fun q14 => (f_X10_takesBack q14.2).bind (fun q15 => some ((q14.1 - q9.1).toInt64, q15))))))))))))))))
set_option maxHeartbeats 2000000 in
set_option maxRecDepth 20000 in
theorem e_X10_deeper {l : Launch} {d : Nat} (hd : 12 ≤ d) (p0 : Int32) (p1 : Int32) (p2 : Int32) (s : ST) (r : Int64 × ST) (hf : f_X10_deeper p0 p1 p2 s = some r) : Cl l d mi_X10_deeper [.ref 65, .int p0, .int p1, .int p2] (hp s) (some (.long r.1), hp r.2) := by
  refine Ev.entry (by decide +kernel) rfl rfl ?_
  show Ev l d mi_X10_deeper 0 [some (.ref 65), some (.int p0), some (.int p1), some (.int p2), none, none] [] (hp s) 0 0 _
  unfold f_X10_deeper at hf
  refine Ev.blk (pc' := 4) [(.iload_n 1, 0, 0, 0), (.i2l, 0, 0, 0), (.lconst 0, 0, 0, 0), (.lconst 1, 0, 0, 0)] (by decide +kernel) trivial rfl (?_)
  show Ev l d mi_X10_deeper 4 [some (.ref 65), some (.int p0), some (.int p1), some (.int p2), none, none] [.long (Int64.ofNat ((1 : Fin 2) : Nat)), .long (Int64.ofNat ((0 : Fin 2) : Nat)), .long (p0).toInt64] (hp s) 0 0 _
  obtain ⟨q1, hq1, hf⟩ := bd_some hf
  refine Ev.callS (M' := mi_X10_isIn) (d' := d - 1) (As := [.long (p0).toInt64, .long (Int64.ofNat ((0 : Fin 2) : Nat)), .long (Int64.ofNat ((1 : Fin 2) : Nat))]) (rest := []) (r' := (some (.int q1.1), hp q1.2)) (e_X10_isIn (d := d - 1) (by omega) ((p0).toInt64) (Int64.ofNat ((0 : Fin 2) : Nat)) (Int64.ofNat ((1 : Fin 2) : Nat)) s _ hq1) (by omega) wm_X10_isIn wt_X10_isIn km_10_321 rfl rfl rfl (Nat.le_of_ble_eq_true rfl) ⟨Nat.le_of_ble_eq_true rfl, Nat.le_of_ble_eq_true rfl⟩ (by decide +kernel) ?_
  show Ev l d mi_X10_deeper 7 [some (.ref 65), some (.int p0), some (.int p1), some (.int p2), none, none] [.int q1.1] (hp q1.2) 0 0 _
  refine Ev.if_eq (off := 26) (tgt := 33) (by decide +kernel) (by decide) (fun b2 => ?_) (fun b2 => ?_)
  · have hf := (if_pos b2).symm.trans hf
    refine Ev.blk (pc' := 36) [(.ldc2_w 610, (-1000000000000000), 0, 0)] (by decide +kernel) ⟨kl_10_610, trivial⟩ rfl (?_)
    show Ev l d mi_X10_deeper 36 [some (.ref 65), some (.int p0), some (.int p1), some (.int p2), none, none] [.long (Int64.ofInt (-1000000000000000))] (hp q1.2) 0 0 _
    cases hf
    exact Ev.lret rfl (by decide +kernel) (Nat.le_refl _) (Nat.le_refl _)
  · have hf := (if_neg b2).symm.trans hf
    refine Ev.blk (pc' := 16) [(.iload_n 2, 0, 0, 0), (.i2l, 0, 0, 0), (.lconst 1, 0, 0, 0), (.ldc2_w 593, 2, 0, 0)] (by decide +kernel) ⟨kl_10_593, trivial⟩ rfl (?_)
    show Ev l d mi_X10_deeper 16 [some (.ref 65), some (.int p0), some (.int p1), some (.int p2), none, none] [.long (Int64.ofInt 2), .long (Int64.ofNat ((1 : Fin 2) : Nat)), .long (p1).toInt64] (hp q1.2) 0 0 _
    obtain ⟨q3, hq3, hf⟩ := bd_some hf
    refine Ev.callS (M' := mi_X10_isIn) (d' := d - 1) (As := [.long (p1).toInt64, .long (Int64.ofNat ((1 : Fin 2) : Nat)), .long (Int64.ofInt 2)]) (rest := []) (r' := (some (.int q3.1), hp q3.2)) (e_X10_isIn (d := d - 1) (by omega) ((p1).toInt64) (Int64.ofNat ((1 : Fin 2) : Nat)) (Int64.ofInt 2) q1.2 _ hq3) (by omega) wm_X10_isIn wt_X10_isIn km_10_321 rfl rfl rfl (Nat.le_of_ble_eq_true rfl) ⟨Nat.le_of_ble_eq_true rfl, Nat.le_of_ble_eq_true rfl⟩ (by decide +kernel) ?_
    show Ev l d mi_X10_deeper 19 [some (.ref 65), some (.int p0), some (.int p1), some (.int p2), none, none] [.int q3.1] (hp q3.2) 0 0 _
    refine Ev.if_eq (off := 14) (tgt := 33) (by decide +kernel) (by decide) (fun b4 => ?_) (fun b4 => ?_)
    · have hf := (if_pos b4).symm.trans hf
      refine Ev.blk (pc' := 36) [(.ldc2_w 610, (-1000000000000000), 0, 0)] (by decide +kernel) ⟨kl_10_610, trivial⟩ rfl (?_)
      show Ev l d mi_X10_deeper 36 [some (.ref 65), some (.int p0), some (.int p1), some (.int p2), none, none] [.long (Int64.ofInt (-1000000000000000))] (hp q3.2) 0 0 _
      cases hf
      exact Ev.lret rfl (by decide +kernel) (Nat.le_refl _) (Nat.le_refl _)
    · have hf := (if_neg b4).symm.trans hf
      refine Ev.blk (pc' := 27) [(.aload_n 0, 0, 0, 0), (.iload_n 3, 0, 0, 0), (.iconst 0, 0, 0, 0), (.bipush 20, 0, 0, 0)] (by decide +kernel) trivial rfl (?_)
      show Ev l d mi_X10_deeper 27 [some (.ref 65), some (.int p0), some (.int p1), some (.int p2), none, none] [.int ((Int8.ofInt 20).toInt32), .int (Int32.ofInt 0), .int p2, .ref 65] (hp q3.2) 0 0 _
      obtain ⟨q5, hq5, hf⟩ := bd_some hf
      refine Ev.callV (o := 65) (M' := mi_X10_isAhead) (d' := d - 1) (As := [.int p2, .int (Int32.ofInt 0), .int ((Int8.ofInt 20).toInt32)]) (rest := []) (r' := (some (.int q5.1), hp q5.2)) (e_X10_isAhead (d := d - 1) (by omega) p2 (Int32.ofInt 0) ((Int8.ofInt 20).toInt32) q3.2 _ hq5) (by omega) wm_X10_isAhead wi_X10_isAhead wv_X10_isAhead km_10_618 (kc rfl rfl) (Nat.le_of_ble_eq_true rfl) rfl rfl rfl (Nat.le_of_ble_eq_true rfl) ⟨Nat.le_of_ble_eq_true rfl, Nat.le_of_ble_eq_true rfl⟩ (by decide +kernel) ?_
      show Ev l d mi_X10_deeper 30 [some (.ref 65), some (.int p0), some (.int p1), some (.int p2), none, none] [.int q5.1] (hp q5.2) 0 0 _
      refine Ev.if_ne (off := 7) (tgt := 37) (by decide +kernel) (by decide) (fun b6 => ?_) (fun b6 => ?_)
      · have hf := (if_neg b6).symm.trans hf
        refine Ev.blk (pc' := 38) [(.aload_n 0, 0, 0, 0)] (by decide +kernel) trivial rfl (?_)
        show Ev l d mi_X10_deeper 38 [some (.ref 65), some (.int p0), some (.int p1), some (.int p2), none, none] [.ref 65] (hp q5.2) 0 0 _
        obtain ⟨q7, hq7, hf⟩ := bd_some hf
        refine Ev.callV (o := 65) (M' := mi_X10_putsAside) (d' := d - 1) (As := []) (rest := []) (r' := (none, hp q7)) (e_X10_putsAside (d := d - 1) (by omega) q5.2 _ hq7) (by omega) wm_X10_putsAside wi_X10_putsAside wv_X10_putsAside km_10_621 (kc rfl rfl) (Nat.le_of_ble_eq_true rfl) rfl rfl rfl (Nat.le_of_ble_eq_true rfl) ⟨Nat.le_of_ble_eq_true rfl, Nat.le_of_ble_eq_true rfl⟩ (by decide +kernel) ?_
        show Ev l d mi_X10_deeper 41 [some (.ref 65), some (.int p0), some (.int p1), some (.int p2), none, none] [] (hp q7) 0 0 _
        refine Ev.blk (pc' := 43) [(.aload_n 0, 0, 0, 0), (.iload_n 3, 0, 0, 0)] (by decide +kernel) trivial rfl (?_)
        show Ev l d mi_X10_deeper 43 [some (.ref 65), some (.int p0), some (.int p1), some (.int p2), none, none] [.int p2, .ref 65] (hp q7) 0 0 _
        obtain ⟨q8, hq8, hf⟩ := bd_some hf
        refine Ev.callV (o := 65) (M' := mi_X10_daysGo) (d' := d - 1) (As := [.int p2]) (rest := []) (r' := (none, hp q8)) (e_X10_daysGo (d := d - 1) (by omega) p2 q7 _ hq8) (by omega) wm_X10_daysGo wi_X10_daysGo wv_X10_daysGo km_10_624 (kc rfl rfl) (Nat.le_of_ble_eq_true rfl) rfl rfl rfl (Nat.le_of_ble_eq_true rfl) ⟨Nat.le_of_ble_eq_true rfl, Nat.le_of_ble_eq_true rfl⟩ (by decide +kernel) ?_
        show Ev l d mi_X10_deeper 46 [some (.ref 65), some (.int p0), some (.int p1), some (.int p2), none, none] [] (hp q8) 0 0 _
        refine Ev.blk (pc' := 47) [(.aload_n 0, 0, 0, 0)] (by decide +kernel) trivial rfl (?_)
        show Ev l d mi_X10_deeper 47 [some (.ref 65), some (.int p0), some (.int p1), some (.int p2), none, none] [.ref 65] (hp q8) 0 0 _
        obtain ⟨q9, hq9, hf⟩ := bd_some hf
        refine Ev.callV (o := 65) (M' := mi_X10_bearAll) (d' := d - 1) (As := []) (rest := []) (r' := (some (.int q9.1), hp q9.2)) (e_X10_bearAll (d := d - 1) (by omega) q8 _ hq9) (by omega) wm_X10_bearAll wi_X10_bearAll wv_X10_bearAll km_10_590 (kc rfl rfl) (Nat.le_of_ble_eq_true rfl) rfl rfl rfl (Nat.le_of_ble_eq_true rfl) ⟨Nat.le_of_ble_eq_true rfl, Nat.le_of_ble_eq_true rfl⟩ (by decide +kernel) ?_
        show Ev l d mi_X10_deeper 50 [some (.ref 65), some (.int p0), some (.int p1), some (.int p2), none, none] [.int q9.1] (hp q9.2) 0 0 _
        refine Ev.blk (pc' := 53) [(.istore 4, 0, 0, 0), (.aload_n 0, 0, 0, 0)] (by decide +kernel) trivial rfl (And.intro (Nat.le_of_ble_eq_true rfl) (?_))
        show Ev l d mi_X10_deeper 53 [some (.ref 65), some (.int p0), some (.int p1), some (.int p2), some (.int q9.1), none] [.ref 65] (hp q9.2) 0 0 _
        obtain ⟨q10, hq10, hf⟩ := bd_some hf
        refine Ev.callV (o := 65) (M' := mi_X10_triesAnew) (d' := d - 1) (As := []) (rest := []) (r' := (none, hp q10)) (e_X10_triesAnew (d := d - 1) (by omega) q9.2 _ hq10) (by omega) wm_X10_triesAnew wi_X10_triesAnew wv_X10_triesAnew km_10_581 (kc rfl rfl) (Nat.le_of_ble_eq_true rfl) rfl rfl rfl (Nat.le_of_ble_eq_true rfl) ⟨Nat.le_of_ble_eq_true rfl, Nat.le_of_ble_eq_true rfl⟩ (by decide +kernel) ?_
        show Ev l d mi_X10_deeper 56 [some (.ref 65), some (.int p0), some (.int p1), some (.int p2), some (.int q9.1), none] [] (hp q10) 0 0 _
        obtain ⟨s11, hs11, hf⟩ := lt_some hf
        refine Ev.blk (pc' := 68) [(.aload_n 0, 0, 0, 0), (.iload_n 1, 0, 0, 0), (.putfield 178, 0, 10, 78), (.aload_n 0, 0, 0, 0), (.iload_n 2, 0, 0, 0), (.putfield 569, 0, 10, 79), (.aload_n 0, 0, 0, 0), (.iload_n 3, 0, 0, 0)] (by decide +kernel) ⟨⟨kf_10_178, Or.inl rfl⟩, ⟨⟨kf_10_569, Or.inl rfl⟩, trivial⟩⟩ rfl (And.intro (kc rfl rfl) (And.intro (kc rfl rfl) (?_)))
        show Ev l d mi_X10_deeper 68 [some (.ref 65), some (.int p0), some (.int p1), some (.int p2), some (.int q9.1), none] [.int p2, .ref 65] (hp (uI (uI q10 65 78 p0) 65 79 p1)) 0 0 _
        rw [← hs11]
        obtain ⟨q12, hq12, hf⟩ := bd_some hf
        refine Ev.callV (o := 65) (M' := mi_X10_daysGo) (d' := d - 1) (As := [.int p2]) (rest := []) (r' := (none, hp q12)) (e_X10_daysGo (d := d - 1) (by omega) p2 s11 _ hq12) (by omega) wm_X10_daysGo wi_X10_daysGo wv_X10_daysGo km_10_624 (kc rfl rfl) (Nat.le_of_ble_eq_true rfl) rfl rfl rfl (Nat.le_of_ble_eq_true rfl) ⟨Nat.le_of_ble_eq_true rfl, Nat.le_of_ble_eq_true rfl⟩ (by decide +kernel) ?_
        show Ev l d mi_X10_deeper 71 [some (.ref 65), some (.int p0), some (.int p1), some (.int p2), some (.int q9.1), none] [] (hp q12) 0 0 _
        obtain ⟨s13, hs13, hf⟩ := lt_some hf
        refine Ev.blk (pc' := 77) [(.aload_n 0, 0, 0, 0), (.iconst (-1), 0, 0, 0), (.putfield 178, 0, 10, 78), (.aload_n 0, 0, 0, 0)] (by decide +kernel) ⟨⟨kf_10_178, Or.inl rfl⟩, trivial⟩ rfl (And.intro (kc rfl rfl) (?_))
        show Ev l d mi_X10_deeper 77 [some (.ref 65), some (.int p0), some (.int p1), some (.int p2), some (.int q9.1), none] [.ref 65] (hp (uI q12 65 78 (Int32.ofInt (-1)))) 0 0 _
        rw [← hs13]
        obtain ⟨q14, hq14, hf⟩ := bd_some hf
        refine Ev.callV (o := 65) (M' := mi_X10_bearAll) (d' := d - 1) (As := []) (rest := []) (r' := (some (.int q14.1), hp q14.2)) (e_X10_bearAll (d := d - 1) (by omega) s13 _ hq14) (by omega) wm_X10_bearAll wi_X10_bearAll wv_X10_bearAll km_10_590 (kc rfl rfl) (Nat.le_of_ble_eq_true rfl) rfl rfl rfl (Nat.le_of_ble_eq_true rfl) ⟨Nat.le_of_ble_eq_true rfl, Nat.le_of_ble_eq_true rfl⟩ (by decide +kernel) ?_
        show Ev l d mi_X10_deeper 80 [some (.ref 65), some (.int p0), some (.int p1), some (.int p2), some (.int q9.1), none] [.int q14.1] (hp q14.2) 0 0 _
        refine Ev.blk (pc' := 83) [(.istore 5, 0, 0, 0), (.aload_n 0, 0, 0, 0)] (by decide +kernel) trivial rfl (And.intro (Nat.le_of_ble_eq_true rfl) (?_))
        show Ev l d mi_X10_deeper 83 [some (.ref 65), some (.int p0), some (.int p1), some (.int p2), some (.int q9.1), some (.int q14.1)] [.ref 65] (hp q14.2) 0 0 _
        obtain ⟨q15, hq15, hf⟩ := bd_some hf
        refine Ev.callV (o := 65) (M' := mi_X10_takesBack) (d' := d - 1) (As := []) (rest := []) (r' := (none, hp q15)) (e_X10_takesBack (d := d - 1) (by omega) q14.2 _ hq15) (by omega) wm_X10_takesBack wi_X10_takesBack wv_X10_takesBack km_10_627 (kc rfl rfl) (Nat.le_of_ble_eq_true rfl) rfl rfl rfl (Nat.le_of_ble_eq_true rfl) ⟨Nat.le_of_ble_eq_true rfl, Nat.le_of_ble_eq_true rfl⟩ (by decide +kernel) ?_
        show Ev l d mi_X10_deeper 86 [some (.ref 65), some (.int p0), some (.int p1), some (.int p2), some (.int q9.1), some (.int q14.1)] [] (hp q15) 0 0 _
        refine Ev.blk (pc' := 92) [(.iload 5, 0, 0, 0), (.iload 4, 0, 0, 0), (.isub, 0, 0, 0), (.i2l, 0, 0, 0)] (by decide +kernel) trivial rfl (?_)
        show Ev l d mi_X10_deeper 92 [some (.ref 65), some (.int p0), some (.int p1), some (.int p2), some (.int q9.1), some (.int q14.1)] [.long (q14.1 - q9.1).toInt64] (hp q15) 0 0 _
        cases hf
        exact Ev.lret rfl (by decide +kernel) (Nat.le_refl _) (Nat.le_refl _)
      · have hf := (if_pos b6).symm.trans hf
        refine Ev.blk (pc' := 36) [(.ldc2_w 610, (-1000000000000000), 0, 0)] (by decide +kernel) ⟨kl_10_610, trivial⟩ rfl (?_)
        show Ev l d mi_X10_deeper 36 [some (.ref 65), some (.int p0), some (.int p1), some (.int p2), none, none] [.long (Int64.ofInt (-1000000000000000))] (hp q5.2) 0 0 _
        cases hf
        exact Ev.lret rfl (by decide +kernel) (Nat.le_refl _) (Nat.le_refl _)
def f_X10_refuses (p0 : Int32) (s : ST) : Option (Int32 × ST) := gd (ib p0 6) (gd (ib p0 6) (lt (uI s 67 p0.toNatClampNeg ((s.1 67 p0.toNatClampNeg) + (Int32.ofInt 1))) (fun s3 => some ((Int32.ofInt (-1)), s3))))
set_option maxHeartbeats 2000000 in
set_option maxRecDepth 20000 in
theorem e_X10_refuses {l : Launch} {d : Nat} (hd : 1 ≤ d) (p0 : Int32) (s : ST) (r : Int32 × ST) (hf : f_X10_refuses p0 s = some r) : Cl l d mi_X10_refuses [.ref 65, .int p0] (hp s) (some (.int r.1), hp r.2) := by
  refine Ev.entry (by decide +kernel) rfl rfl ?_
  show Ev l d mi_X10_refuses 0 [some (.ref 65), some (.int p0)] [] (hp s) 0 0 _
  unfold f_X10_refuses at hf
  obtain ⟨c1, hf⟩ := gd_some hf
  obtain ⟨c2, hf⟩ := gd_some hf
  obtain ⟨s3, hs3, hf⟩ := lt_some hf
  refine Ev.blk (pc' := 11) [(.aload_n 0, 0, 0, 0), (.getfield 17, 0, 10, 9), (.iload_n 1, 0, 0, 0), (.dup2, 0, 0, 0), (.iaload, 0, 0, 0), (.iconst 1, 0, 0, 0), (.iadd, 0, 0, 0), (.iastore, 0, 0, 0), (.iconst (-1), 0, 0, 0)] (by decide +kernel) ⟨kf_10_17, trivial⟩ rfl (And.intro (kc rfl rfl) (Exists.intro 67 (And.intro rfl (And.intro (And.intro rfl rfl) (And.intro (kc rfl rfl) (And.intro (ib_ok c1) (And.intro (kc rfl rfl) (And.intro (ib_ok c2) (?_)))))))))
  show Ev l d mi_X10_refuses 11 [some (.ref 65), some (.int p0)] [.int (Int32.ofInt (-1))] (hp (uI s 67 p0.toNatClampNeg ((s.1 67 p0.toNatClampNeg) + (Int32.ofInt 1)))) 0 0 _
  rw [← hs3]
  cases hf
  exact Ev.iret .int rfl rfl (by decide +kernel) (Nat.le_refl _) (Nat.le_refl _)
def f_X10_see_L36 (k62 : Int32 → Int32 → ST → Option (Int32 × ST)) : Nat → Int32 → Int32 → Int32 → ST → Option (Int32 × ST)
  | 0, _, _, _, _ => none
  | n + 1, x1, x2, x3, s => (if x1 ≤ x3 then k62 x1 x2 s else (if x2 = 0 then k62 x1 x2 s else gd (ib x3 1600) ((f_X10_isField (s.1 66 x3.toNatClampNeg) s).bind (fun q9 => (f_X10_see_L36 k62 n) x1 q9.1 (x3 + Int32.ofInt 3) q9.2))))
set_option maxHeartbeats 2000000 in
set_option maxRecDepth 20000 in
theorem e_X10_see_L36 {l : Launch} {d : Nat} (hd : 3 ≤ d) (k62 : Int32 → Int32 → ST → Option (Int32 × ST)) (hk62 : ∀ (x1 : Int32) (x2 : Int32) (s : ST) (r : Int32 × ST), k62 x1 x2 s = some r → Ev l d mi_X10_see 62 [some (.ref 65), some (.int x1), some (.int x2), none] [] (hp s) 0 0 (some (.int r.1), hp r.2)) : ∀ (n : Nat) (x1 : Int32) (x2 : Int32) (x3 : Int32) (s : ST) (r : Int32 × ST), f_X10_see_L36 k62 n x1 x2 x3 s = some r → Ev l d mi_X10_see 36 [some (.ref 65), some (.int x1), some (.int x2), some (.int x3)] [] (hp s) 0 0 (some (.int r.1), hp r.2) := by
  intro n
  induction n with
  | zero =>
    intro x1 x2 x3 s r hf
    cases hf
  | succ n ih =>
    intro x1 x2 x3 s r hf
    unfold f_X10_see_L36 at hf
    refine Ev.blk (pc' := 38) [(.iload_n 3, 0, 0, 0), (.iload_n 1, 0, 0, 0)] (by decide +kernel) trivial rfl (?_)
    show Ev l d mi_X10_see 38 [some (.ref 65), some (.int x1), some (.int x2), some (.int x3)] [.int x1, .int x3] (hp s) 0 0 _
    refine Ev.icmp_ge (off := 24) (tgt := 62) (by decide +kernel) (by decide) (fun b6 => ?_) (fun b6 => ?_)
    · have hf := (if_pos b6).symm.trans hf
      exact Ev.wk (hk62 x1 x2 s _ hf) (And.intro (Or.inr rfl) (And.intro (Or.inr rfl) (And.intro (Or.inr rfl) (And.intro (Or.inl rfl) (trivial)))))
    · have hf := (if_neg b6).symm.trans hf
      refine Ev.blk (pc' := 42) [(.iload_n 2, 0, 0, 0)] (by decide +kernel) trivial rfl (?_)
      show Ev l d mi_X10_see 42 [some (.ref 65), some (.int x1), some (.int x2), some (.int x3)] [.int x2] (hp s) 0 0 _
      refine Ev.if_eq (off := 20) (tgt := 62) (by decide +kernel) (by decide) (fun b7 => ?_) (fun b7 => ?_)
      · have hf := (if_pos b7).symm.trans hf
        exact Ev.wk (hk62 x1 x2 s _ hf) (And.intro (Or.inr rfl) (And.intro (Or.inr rfl) (And.intro (Or.inr rfl) (And.intro (Or.inl rfl) (trivial)))))
      · have hf := (if_neg b7).symm.trans hf
        obtain ⟨c8, hf⟩ := gd_some hf
        refine Ev.blk (pc' := 52) [(.aload_n 0, 0, 0, 0), (.aload_n 0, 0, 0, 0), (.getfield 7, 0, 10, 0), (.iload_n 3, 0, 0, 0), (.iaload, 0, 0, 0)] (by decide +kernel) ⟨kf_10_7, trivial⟩ rfl (And.intro (kc rfl rfl) (Exists.intro 66 (And.intro rfl (And.intro (kc rfl rfl) (And.intro (ib_ok c8) (?_))))))
        show Ev l d mi_X10_see 52 [some (.ref 65), some (.int x1), some (.int x2), some (.int x3)] [.int (s.1 66 x3.toNatClampNeg), .ref 65] (hp s) 0 0 _
        obtain ⟨q9, hq9, hf⟩ := bd_some hf
        refine Ev.callV (o := 65) (M' := mi_X10_isField) (d' := d - 1) (As := [.int (s.1 66 x3.toNatClampNeg)]) (rest := []) (r' := (some (.int q9.1), hp q9.2)) (e_X10_isField (d := d - 1) (by omega) (s.1 66 x3.toNatClampNeg) s _ hq9) (by omega) wm_X10_isField wi_X10_isField wv_X10_isField km_10_602 (kc rfl rfl) (Nat.le_of_ble_eq_true rfl) rfl rfl rfl (Nat.le_of_ble_eq_true rfl) ⟨Nat.le_of_ble_eq_true rfl, Nat.le_of_ble_eq_true rfl⟩ (by decide +kernel) ?_
        show Ev l d mi_X10_see 55 [some (.ref 65), some (.int x1), some (.int x2), some (.int x3)] [.int q9.1] (hp q9.2) 0 0 _
        refine Ev.blk (pc' := 59) [(.istore_n 2, 0, 0, 0), (.iinc 3 3, 0, 0, 0)] (by decide +kernel) trivial rfl (And.intro (Nat.le_of_ble_eq_true rfl) (And.intro (Nat.le_of_ble_eq_true rfl) (?_)))
        show Ev l d mi_X10_see 59 [some (.ref 65), some (.int x1), some (.int q9.1), some (.int (x3 + Int32.ofInt 3))] [] (hp q9.2) 0 0 _
        refine Ev.goto (off := -23) (tgt := 36) (by decide +kernel) (by decide) ?_
        exact ih x1 q9.1 (x3 + Int32.ofInt 3) q9.2 _ hf
def f_X10_see_L74 (k97 : Int32 → ST → Option (Int32 × ST)) : Nat → Int32 → Int32 → ST → Option (Int32 × ST)
  | 0, _, _, _ => none
  | n + 1, x1, x3, s => (if x1 ≤ x3 then k97 x1 s else gd (ib x3 1600) (gd (ib x3 48) (lt (uI s 120 x3.toNatClampNeg (s.1 66 x3.toNatClampNeg)) (fun s15 => (f_X10_see_L74 k97 n) x1 (x3 + Int32.ofInt 1) s15))))
set_option maxHeartbeats 2000000 in
set_option maxRecDepth 20000 in
theorem e_X10_see_L74 {l : Launch} {d : Nat} (hd : 3 ≤ d) (k97 : Int32 → ST → Option (Int32 × ST)) (hk97 : ∀ (x1 : Int32) (s : ST) (r : Int32 × ST), k97 x1 s = some r → Ev l d mi_X10_see 97 [some (.ref 65), some (.int x1), none, none] [] (hp s) 0 0 (some (.int r.1), hp r.2)) : ∀ (n : Nat) (x1 : Int32) (x3 : Int32) (s : ST) (r : Int32 × ST), f_X10_see_L74 k97 n x1 x3 s = some r → Ev l d mi_X10_see 74 [some (.ref 65), some (.int x1), none, some (.int x3)] [] (hp s) 0 0 (some (.int r.1), hp r.2) := by
  intro n
  induction n with
  | zero =>
    intro x1 x3 s r hf
    cases hf
  | succ n ih =>
    intro x1 x3 s r hf
    unfold f_X10_see_L74 at hf
    refine Ev.blk (pc' := 76) [(.iload_n 3, 0, 0, 0), (.iload_n 1, 0, 0, 0)] (by decide +kernel) trivial rfl (?_)
    show Ev l d mi_X10_see 76 [some (.ref 65), some (.int x1), none, some (.int x3)] [.int x1, .int x3] (hp s) 0 0 _
    refine Ev.icmp_ge (off := 21) (tgt := 97) (by decide +kernel) (by decide) (fun b12 => ?_) (fun b12 => ?_)
    · have hf := (if_pos b12).symm.trans hf
      exact Ev.wk (hk97 x1 s _ hf) (And.intro (Or.inr rfl) (And.intro (Or.inr rfl) (And.intro (Or.inr rfl) (And.intro (Or.inl rfl) (trivial)))))
    · have hf := (if_neg b12).symm.trans hf
      obtain ⟨c13, hf⟩ := gd_some hf
      obtain ⟨c14, hf⟩ := gd_some hf
      obtain ⟨s15, hs15, hf⟩ := lt_some hf
      refine Ev.blk (pc' := 94) [(.aload_n 0, 0, 0, 0), (.getfield 181, 0, 10, 81), (.iload_n 3, 0, 0, 0), (.aload_n 0, 0, 0, 0), (.getfield 7, 0, 10, 0), (.iload_n 3, 0, 0, 0), (.iaload, 0, 0, 0), (.iastore, 0, 0, 0), (.iinc 3 1, 0, 0, 0)] (by decide +kernel) ⟨kf_10_181, ⟨kf_10_7, trivial⟩⟩ rfl (And.intro (kc rfl rfl) (Exists.intro 120 (And.intro rfl (And.intro (kc rfl rfl) (Exists.intro 66 (And.intro rfl (And.intro (kc rfl rfl) (And.intro (ib_ok c13) (And.intro (kc rfl rfl) (And.intro (ib_ok c14) (And.intro (Nat.le_of_ble_eq_true rfl) (?_))))))))))))
      show Ev l d mi_X10_see 94 [some (.ref 65), some (.int x1), none, some (.int (x3 + Int32.ofInt 1))] [] (hp (uI s 120 x3.toNatClampNeg (s.1 66 x3.toNatClampNeg))) 0 0 _
      rw [← hs15]
      refine Ev.goto (off := -20) (tgt := 74) (by decide +kernel) (by decide) ?_
      exact ih x1 (x3 + Int32.ofInt 1) s15 _ hf
def f_X10_see_j97 (x1 : Int32) (s : ST) : Option (Int32 × ST) := lt (uI s 65 80 (x1 / (Int32.ofInt 3))) (fun s16 => some ((s16.1 65 80), s16))
set_option maxHeartbeats 2000000 in
set_option maxRecDepth 20000 in
theorem e_X10_see_j97 {l : Launch} {d : Nat} (hd : 3 ≤ d) (x1 : Int32) (s : ST) (r : Int32 × ST) (hf : f_X10_see_j97 x1 s = some r) : Ev l d mi_X10_see 97 [some (.ref 65), some (.int x1), none, none] [] (hp s) 0 0 (some (.int r.1), hp r.2) := by
  unfold f_X10_see_j97 at hf
  obtain ⟨s16, hs16, hf⟩ := lt_some hf
  refine Ev.blk (pc' := 108) [(.aload_n 0, 0, 0, 0), (.iload_n 1, 0, 0, 0), (.iconst 3, 0, 0, 0), (.idiv, 0, 0, 0), (.putfield 430, 0, 10, 80), (.aload_n 0, 0, 0, 0), (.getfield 430, 0, 10, 80)] (by decide +kernel) ⟨⟨kf_10_430, Or.inl rfl⟩, ⟨kf_10_430, trivial⟩⟩ rfl (And.intro (by decide) (And.intro (kc rfl rfl) (And.intro (kc rfl rfl) (?_))))
  show Ev l d mi_X10_see 108 [some (.ref 65), some (.int x1), none, none] [.int ((uI s 65 80 (x1 / (Int32.ofInt 3))).1 65 80)] (hp (uI s 65 80 (x1 / (Int32.ofInt 3)))) 0 0 _
  rw [← hs16]
  cases hf
  exact Ev.iret .int rfl rfl (by decide +kernel) (Nat.le_refl _) (Nat.le_refl _)
def f_X10_see_j62 (x1 : Int32) (x2 : Int32) (s : ST) : Option (Int32 × ST) := (if x2 = 0 then (f_X10_refuses (Int32.ofInt 1) s).bind (fun q11 => some (q11.1, q11.2)) else (f_X10_see_L74 f_X10_see_j97 fuel) x1 (Int32.ofInt 0) s)
set_option maxHeartbeats 2000000 in
set_option maxRecDepth 20000 in
theorem e_X10_see_j62 {l : Launch} {d : Nat} (hd : 3 ≤ d) (x1 : Int32) (x2 : Int32) (s : ST) (r : Int32 × ST) (hf : f_X10_see_j62 x1 x2 s = some r) : Ev l d mi_X10_see 62 [some (.ref 65), some (.int x1), some (.int x2), none] [] (hp s) 0 0 (some (.int r.1), hp r.2) := by
  unfold f_X10_see_j62 at hf
  refine Ev.blk (pc' := 63) [(.iload_n 2, 0, 0, 0)] (by decide +kernel) trivial rfl (?_)
  show Ev l d mi_X10_see 63 [some (.ref 65), some (.int x1), some (.int x2), none] [.int x2] (hp s) 0 0 _
  refine Ev.if_ne (off := 9) (tgt := 72) (by decide +kernel) (by decide) (fun b10 => ?_) (fun b10 => ?_)
  · have hf := (if_neg b10).symm.trans hf
    refine Ev.blk (pc' := 74) [(.iconst 0, 0, 0, 0), (.istore_n 3, 0, 0, 0)] (by decide +kernel) trivial rfl (And.intro (Nat.le_of_ble_eq_true rfl) (?_))
    show Ev l d mi_X10_see 74 [some (.ref 65), some (.int x1), some (.int x2), some (.int (Int32.ofInt 0))] [] (hp s) 0 0 _
    exact Ev.wk ((e_X10_see_L74 hd f_X10_see_j97 (e_X10_see_j97 hd) fuel) x1 (Int32.ofInt 0) s _ hf) (And.intro (Or.inr rfl) (And.intro (Or.inr rfl) (And.intro (Or.inl rfl) (And.intro (Or.inr rfl) (trivial)))))
  · have hf := (if_pos b10).symm.trans hf
    refine Ev.blk (pc' := 68) [(.aload_n 0, 0, 0, 0), (.iconst 1, 0, 0, 0)] (by decide +kernel) trivial rfl (?_)
    show Ev l d mi_X10_see 68 [some (.ref 65), some (.int x1), some (.int x2), none] [.int (Int32.ofInt 1), .ref 65] (hp s) 0 0 _
    obtain ⟨q11, hq11, hf⟩ := bd_some hf
    refine Ev.callV (o := 65) (M' := mi_X10_refuses) (d' := d - 1) (As := [.int (Int32.ofInt 1)]) (rest := []) (r' := (some (.int q11.1), hp q11.2)) (e_X10_refuses (d := d - 1) (by omega) (Int32.ofInt 1) s _ hq11) (by omega) wm_X10_refuses wi_X10_refuses wv_X10_refuses km_10_639 (kc rfl rfl) (Nat.le_of_ble_eq_true rfl) rfl rfl rfl (Nat.le_of_ble_eq_true rfl) ⟨Nat.le_of_ble_eq_true rfl, Nat.le_of_ble_eq_true rfl⟩ (by decide +kernel) ?_
    show Ev l d mi_X10_see 71 [some (.ref 65), some (.int x1), some (.int x2), none] [.int q11.1] (hp q11.2) 0 0 _
    cases hf
    exact Ev.iret .int rfl rfl (by decide +kernel) (Nat.le_refl _) (Nat.le_refl _)
def f_X10_see_j33 (x1 : Int32) (y0 : Int32) (s : ST) : Option (Int32 × ST) := (f_X10_see_L36 f_X10_see_j62 fuel) x1 y0 (Int32.ofInt 0) s
set_option maxHeartbeats 2000000 in
set_option maxRecDepth 20000 in
theorem e_X10_see_j33 {l : Launch} {d : Nat} (hd : 3 ≤ d) (x1 : Int32) (y0 : Int32) (s : ST) (r : Int32 × ST) (hf : f_X10_see_j33 x1 y0 s = some r) : Ev l d mi_X10_see 33 [some (.ref 65), some (.int x1), none, none] [.int y0] (hp s) 0 0 (some (.int r.1), hp r.2) := by
  unfold f_X10_see_j33 at hf
  refine Ev.blk (pc' := 36) [(.istore_n 2, 0, 0, 0), (.iconst 0, 0, 0, 0), (.istore_n 3, 0, 0, 0)] (by decide +kernel) trivial rfl (And.intro (Nat.le_of_ble_eq_true rfl) (And.intro (Nat.le_of_ble_eq_true rfl) (?_)))
  show Ev l d mi_X10_see 36 [some (.ref 65), some (.int x1), some (.int y0), some (.int (Int32.ofInt 0))] [] (hp s) 0 0 _
  exact (e_X10_see_L36 hd f_X10_see_j62 (e_X10_see_j62 hd) fuel) x1 y0 (Int32.ofInt 0) s _ hf
def f_X10_see_j32 (x1 : Int32) (s : ST) : Option (Int32 × ST) := f_X10_see_j33 x1 (Int32.ofInt 0) s
set_option maxHeartbeats 2000000 in
set_option maxRecDepth 20000 in
theorem e_X10_see_j32 {l : Launch} {d : Nat} (hd : 3 ≤ d) (x1 : Int32) (s : ST) (r : Int32 × ST) (hf : f_X10_see_j32 x1 s = some r) : Ev l d mi_X10_see 32 [some (.ref 65), some (.int x1), none, none] [] (hp s) 0 0 (some (.int r.1), hp r.2) := by
  unfold f_X10_see_j32 at hf
  refine Ev.blk (pc' := 33) [(.iconst 0, 0, 0, 0)] (by decide +kernel) trivial rfl (?_)
  show Ev l d mi_X10_see 33 [some (.ref 65), some (.int x1), none, none] [.int (Int32.ofInt 0)] (hp s) 0 0 _
  exact (e_X10_see_j33 hd) x1 (Int32.ofInt 0) s _ hf
def f_X10_see (s : ST) : Option (Int32 × ST) := lt (uI s 65 1 (Int32.ofInt 0)) (fun s1 => (if (s.1 65 1) ≤ 0 then f_X10_see_j32 (s.1 65 1) s1 else lt ((s.1 65 1) - (s.1 65 1) / (Int32.ofInt 3) * (Int32.ofInt 3)) (fun v3 => (if v3 = 0 then (if ((Int8.ofInt 16).toInt32) < ((s.1 65 1) / (Int32.ofInt 3)) then f_X10_see_j32 (s.1 65 1) s1 else f_X10_see_j33 (s.1 65 1) (Int32.ofInt 1) s1) else f_X10_see_j32 (s.1 65 1) s1))))
set_option maxHeartbeats 2000000 in
set_option maxRecDepth 20000 in
theorem e_X10_see {l : Launch} {d : Nat} (hd : 3 ≤ d) (s : ST) (r : Int32 × ST) (hf : f_X10_see s = some r) : Cl l d mi_X10_see [.ref 65] (hp s) (some (.int r.1), hp r.2) := by
  refine Ev.entry (by decide +kernel) rfl rfl ?_
  show Ev l d mi_X10_see 0 [some (.ref 65), none, none, none] [] (hp s) 0 0 _
  unfold f_X10_see at hf
  obtain ⟨s1, hs1, hf⟩ := lt_some hf
  refine Ev.blk (pc' := 11) [(.aload_n 0, 0, 0, 0), (.getfield 275, 0, 10, 1), (.istore_n 1, 0, 0, 0), (.aload_n 0, 0, 0, 0), (.iconst 0, 0, 0, 0), (.putfield 275, 0, 10, 1), (.iload_n 1, 0, 0, 0)] (by decide +kernel) ⟨kf_10_275, ⟨⟨kf_10_275, Or.inl rfl⟩, trivial⟩⟩ rfl (And.intro (kc rfl rfl) (And.intro (Nat.le_of_ble_eq_true rfl) (And.intro (kc rfl rfl) (?_))))
  show Ev l d mi_X10_see 11 [some (.ref 65), some (.int (s.1 65 1)), none, none] [.int (s.1 65 1)] (hp (uI s 65 1 (Int32.ofInt 0))) 0 0 _
  rw [← hs1]
  refine Ev.if_le (off := 21) (tgt := 32) (by decide +kernel) (by decide) (fun b2 => ?_) (fun b2 => ?_)
  · have hf := (if_pos b2).symm.trans hf
    exact (e_X10_see_j32 hd) (s.1 65 1) s1 _ hf
  · have hf := (if_neg b2).symm.trans hf
    obtain ⟨v3, hv3, hf⟩ := lt_some hf
    refine Ev.blk (pc' := 17) [(.iload_n 1, 0, 0, 0), (.iconst 3, 0, 0, 0), (.irem, 0, 0, 0)] (by decide +kernel) trivial rfl (And.intro (by decide) (?_))
    show Ev l d mi_X10_see 17 [some (.ref 65), some (.int (s.1 65 1)), none, none] [.int ((s.1 65 1) - (s.1 65 1) / (Int32.ofInt 3) * (Int32.ofInt 3))] (hp s1) 0 0 _
    rw [← hv3]
    refine Ev.if_ne (off := 15) (tgt := 32) (by decide +kernel) (by decide) (fun b4 => ?_) (fun b4 => ?_)
    · have hf := (if_neg b4).symm.trans hf
      exact (e_X10_see_j32 hd) (s.1 65 1) s1 _ hf
    · have hf := (if_pos b4).symm.trans hf
      refine Ev.blk (pc' := 25) [(.iload_n 1, 0, 0, 0), (.iconst 3, 0, 0, 0), (.idiv, 0, 0, 0), (.bipush 16, 0, 0, 0)] (by decide +kernel) trivial rfl (And.intro (by decide) (?_))
      show Ev l d mi_X10_see 25 [some (.ref 65), some (.int (s.1 65 1)), none, none] [.int ((Int8.ofInt 16).toInt32), .int ((s.1 65 1) / (Int32.ofInt 3))] (hp s1) 0 0 _
      refine Ev.icmp_gt (off := 7) (tgt := 32) (by decide +kernel) (by decide) (fun b5 => ?_) (fun b5 => ?_)
      · have hf := (if_pos b5).symm.trans hf
        exact (e_X10_see_j32 hd) (s.1 65 1) s1 _ hf
      · have hf := (if_neg b5).symm.trans hf
        refine Ev.blk (pc' := 29) [(.iconst 1, 0, 0, 0)] (by decide +kernel) trivial rfl (?_)
        show Ev l d mi_X10_see 29 [some (.ref 65), some (.int (s.1 65 1)), none, none] [.int (Int32.ofInt 1)] (hp s1) 0 0 _
        refine Ev.goto (off := 4) (tgt := 33) (by decide +kernel) (by decide) ?_
        exact (e_X10_see_j33 hd) (s.1 65 1) (Int32.ofInt 1) s1 _ hf
def f_X10_isAsSeen_L2 : Nat → Int32 → ST → Option (Int32 × ST)
  | 0, _, _ => none
  | n + 1, x1, s => (if (s.1 65 80) ≤ x1 then some ((Int32.ofInt 1), s) else gd (ib ((Int32.ofInt 3) * x1) 48) (gd (ib (((Int8.ofInt 18).toInt32) + (s.1 120 ((Int32.ofInt 3) * x1).toNatClampNeg)) 225) (gd (ib (((Int32.ofInt 3) * x1) + (Int32.ofInt 1)) 48) (gd (ib (((Int32.ofInt 3) * x1) + (Int32.ofInt 2)) 48) (lt (s.1 112 (((Int8.ofInt 18).toInt32) + (s.1 120 ((Int32.ofInt 3) * x1).toNatClampNeg)).toNatClampNeg) (fun v6 => lt ((((Int16.ofInt 256).toInt32) * (s.1 120 (((Int32.ofInt 3) * x1) + (Int32.ofInt 1)).toNatClampNeg)) + (s.1 120 (((Int32.ofInt 3) * x1) + (Int32.ofInt 2)).toNatClampNeg)) (fun v7 => (if v6 = v7 then (f_X10_isAsSeen_L2 n) (x1 + Int32.ofInt 1) s else some ((Int32.ofInt 0), s)))))))))
set_option maxHeartbeats 2000000 in
set_option maxRecDepth 20000 in
theorem e_X10_isAsSeen_L2 {l : Launch} {d : Nat} (hd : 1 ≤ d) : ∀ (n : Nat) (x1 : Int32) (s : ST) (r : Int32 × ST), f_X10_isAsSeen_L2 n x1 s = some r → Ev l d mi_X10_isAsSeen 2 [some (.ref 65), some (.int x1)] [] (hp s) 0 0 (some (.int r.1), hp r.2) := by
  intro n
  induction n with
  | zero =>
    intro x1 s r hf
    cases hf
  | succ n ih =>
    intro x1 s r hf
    unfold f_X10_isAsSeen_L2 at hf
    refine Ev.blk (pc' := 7) [(.iload_n 1, 0, 0, 0), (.aload_n 0, 0, 0, 0), (.getfield 430, 0, 10, 80)] (by decide +kernel) ⟨kf_10_430, trivial⟩ rfl (And.intro (kc rfl rfl) (?_))
    show Ev l d mi_X10_isAsSeen 7 [some (.ref 65), some (.int x1)] [.int (s.1 65 80), .int x1] (hp s) 0 0 _
    refine Ev.icmp_ge (off := 55) (tgt := 62) (by decide +kernel) (by decide) (fun b1 => ?_) (fun b1 => ?_)
    · have hf := (if_pos b1).symm.trans hf
      refine Ev.blk (pc' := 63) [(.iconst 1, 0, 0, 0)] (by decide +kernel) trivial rfl (?_)
      show Ev l d mi_X10_isAsSeen 63 [some (.ref 65), some (.int x1)] [.int (Int32.ofInt 1)] (hp s) 0 0 _
      cases hf
      exact Ev.iret .boolean rfl rfl (by decide +kernel) (Nat.le_refl _) (Nat.le_refl _)
    · have hf := (if_neg b1).symm.trans hf
      obtain ⟨c2, hf⟩ := gd_some hf
      obtain ⟨c3, hf⟩ := gd_some hf
      obtain ⟨c4, hf⟩ := gd_some hf
      obtain ⟨c5, hf⟩ := gd_some hf
      obtain ⟨v6, hv6, hf⟩ := lt_some hf
      obtain ⟨v7, hv7, hf⟩ := lt_some hf
      refine Ev.blk (pc' := 51) [(.aload_n 0, 0, 0, 0), (.getfield 154, 0, 10, 62), (.bipush 18, 0, 0, 0), (.aload_n 0, 0, 0, 0), (.getfield 181, 0, 10, 81), (.iconst 3, 0, 0, 0), (.iload_n 1, 0, 0, 0), (.imul, 0, 0, 0), (.iaload, 0, 0, 0), (.iadd, 0, 0, 0), (.iaload, 0, 0, 0), (.sipush 256, 0, 0, 0), (.aload_n 0, 0, 0, 0), (.getfield 181, 0, 10, 81), (.iconst 3, 0, 0, 0), (.iload_n 1, 0, 0, 0), (.imul, 0, 0, 0), (.iconst 1, 0, 0, 0), (.iadd, 0, 0, 0), (.iaload, 0, 0, 0), (.imul, 0, 0, 0), (.aload_n 0, 0, 0, 0), (.getfield 181, 0, 10, 81), (.iconst 3, 0, 0, 0), (.iload_n 1, 0, 0, 0), (.imul, 0, 0, 0), (.iconst 2, 0, 0, 0), (.iadd, 0, 0, 0), (.iaload, 0, 0, 0), (.iadd, 0, 0, 0)] (by decide +kernel) ⟨kf_10_154, ⟨kf_10_181, ⟨kf_10_181, ⟨kf_10_181, trivial⟩⟩⟩⟩ rfl (And.intro (kc rfl rfl) (Exists.intro 112 (And.intro rfl (And.intro (kc rfl rfl) (Exists.intro 120 (And.intro rfl (And.intro (kc rfl rfl) (And.intro (ib_ok c2) (And.intro (kc rfl rfl) (And.intro (ib_ok c3) (And.intro (kc rfl rfl) (Exists.intro 120 (And.intro rfl (And.intro (kc rfl rfl) (And.intro (ib_ok c4) (And.intro (kc rfl rfl) (Exists.intro 120 (And.intro rfl (And.intro (kc rfl rfl) (And.intro (ib_ok c5) (?_)))))))))))))))))))))
      show Ev l d mi_X10_isAsSeen 51 [some (.ref 65), some (.int x1)] [.int ((((Int16.ofInt 256).toInt32) * (s.1 120 (((Int32.ofInt 3) * x1) + (Int32.ofInt 1)).toNatClampNeg)) + (s.1 120 (((Int32.ofInt 3) * x1) + (Int32.ofInt 2)).toNatClampNeg)), .int (s.1 112 (((Int8.ofInt 18).toInt32) + (s.1 120 ((Int32.ofInt 3) * x1).toNatClampNeg)).toNatClampNeg)] (hp s) 0 0 _
      rw [← hv6, ← hv7]
      refine Ev.icmp_eq (off := 5) (tgt := 56) (by decide +kernel) (by decide) (fun b8 => ?_) (fun b8 => ?_)
      · have hf := (if_pos b8).symm.trans hf
        refine Ev.blk (pc' := 59) [(.iinc 1 1, 0, 0, 0)] (by decide +kernel) trivial rfl (And.intro (Nat.le_of_ble_eq_true rfl) (?_))
        show Ev l d mi_X10_isAsSeen 59 [some (.ref 65), some (.int (x1 + Int32.ofInt 1))] [] (hp s) 0 0 _
        refine Ev.goto (off := -57) (tgt := 2) (by decide +kernel) (by decide) ?_
        exact ih (x1 + Int32.ofInt 1) s _ hf
      · have hf := (if_neg b8).symm.trans hf
        refine Ev.blk (pc' := 55) [(.iconst 0, 0, 0, 0)] (by decide +kernel) trivial rfl (?_)
        show Ev l d mi_X10_isAsSeen 55 [some (.ref 65), some (.int x1)] [.int (Int32.ofInt 0)] (hp s) 0 0 _
        cases hf
        exact Ev.iret .boolean rfl rfl (by decide +kernel) (Nat.le_refl _) (Nat.le_refl _)
def f_X10_isAsSeen (s : ST) : Option (Int32 × ST) := (f_X10_isAsSeen_L2 fuel) (Int32.ofInt 0) s
set_option maxHeartbeats 2000000 in
set_option maxRecDepth 20000 in
theorem e_X10_isAsSeen {l : Launch} {d : Nat} (hd : 1 ≤ d) (s : ST) (r : Int32 × ST) (hf : f_X10_isAsSeen s = some r) : Cl l d mi_X10_isAsSeen [.ref 65] (hp s) (some (.int r.1), hp r.2) := by
  refine Ev.entry (by decide +kernel) rfl rfl ?_
  show Ev l d mi_X10_isAsSeen 0 [some (.ref 65), none] [] (hp s) 0 0 _
  unfold f_X10_isAsSeen at hf
  refine Ev.blk (pc' := 2) [(.iconst 0, 0, 0, 0), (.istore_n 1, 0, 0, 0)] (by decide +kernel) trivial rfl (And.intro (Nat.le_of_ble_eq_true rfl) (?_))
  show Ev l d mi_X10_isAsSeen 2 [some (.ref 65), some (.int (Int32.ofInt 0))] [] (hp s) 0 0 _
  exact (e_X10_isAsSeen_L2 hd fuel) (Int32.ofInt 0) s _ hf
def f_X10_played_L45 (k101 : Int32 → Int32 → Int32 → Int32 → ST → Option (Int32 × ST)) : Nat → Int32 → Int32 → Int32 → Int32 → Int32 → Int32 → ST → Option (Int32 × ST)
  | 0, _, _, _, _, _, _, _ => none
  | n + 1, x1, x2, x3, x4, x5, x6, s => (if x5 ≤ x6 then k101 x1 x2 x3 x4 s else (f_X10_chooses x6 s).bind (fun q7 => (f_X10_dayGoes q7).bind (fun q8 => (f_X10_isAsSeen q8).bind (fun q9 => (f_X10_triesAnew q9.2).bind (fun q10 => (if q9.1 = 0 then (f_X10_played_L45 k101 n) x1 x2 x3 x4 x5 (x6 + Int32.ofInt 1) q10 else (if x3 = (Int32.ofInt (-1)) then (f_X10_played_L45 k101 n) x1 (x2 + Int32.ofInt 1) x6 x6 x5 (x6 + Int32.ofInt 1) q10 else (f_X10_played_L45 k101 n) x1 (x2 + Int32.ofInt 1) x3 x6 x5 (x6 + Int32.ofInt 1) q10)))))))
set_option maxHeartbeats 2000000 in
set_option maxRecDepth 20000 in
theorem e_X10_played_L45 {l : Launch} {d : Nat} (hd : 8 ≤ d) (k101 : Int32 → Int32 → Int32 → Int32 → ST → Option (Int32 × ST)) (hk101 : ∀ (x1 : Int32) (x2 : Int32) (x3 : Int32) (x4 : Int32) (s : ST) (r : Int32 × ST), k101 x1 x2 x3 x4 s = some r → Ev l d mi_X10_played 101 [some (.ref 65), some (.int x1), some (.int x2), some (.int x3), some (.int x4), none, none, none] [] (hp s) 0 0 (some (.int r.1), hp r.2)) : ∀ (n : Nat) (x1 : Int32) (x2 : Int32) (x3 : Int32) (x4 : Int32) (x5 : Int32) (x6 : Int32) (s : ST) (r : Int32 × ST), f_X10_played_L45 k101 n x1 x2 x3 x4 x5 x6 s = some r → Ev l d mi_X10_played 45 [some (.ref 65), some (.int x1), some (.int x2), some (.int x3), some (.int x4), some (.int x5), some (.int x6), none] [] (hp s) 0 0 (some (.int r.1), hp r.2) := by
  intro n
  induction n with
  | zero =>
    intro x1 x2 x3 x4 x5 x6 s r hf
    cases hf
  | succ n ih =>
    intro x1 x2 x3 x4 x5 x6 s r hf
    unfold f_X10_played_L45 at hf
    refine Ev.blk (pc' := 49) [(.iload 6, 0, 0, 0), (.iload 5, 0, 0, 0)] (by decide +kernel) trivial rfl (?_)
    show Ev l d mi_X10_played 49 [some (.ref 65), some (.int x1), some (.int x2), some (.int x3), some (.int x4), some (.int x5), some (.int x6), none] [.int x5, .int x6] (hp s) 0 0 _
    refine Ev.icmp_ge (off := 52) (tgt := 101) (by decide +kernel) (by decide) (fun b6 => ?_) (fun b6 => ?_)
    · have hf := (if_pos b6).symm.trans hf
      exact Ev.wk (hk101 x1 x2 x3 x4 s _ hf) (And.intro (Or.inr rfl) (And.intro (Or.inr rfl) (And.intro (Or.inr rfl) (And.intro (Or.inr rfl) (And.intro (Or.inr rfl) (And.intro (Or.inl rfl) (And.intro (Or.inl rfl) (And.intro (Or.inr rfl) (trivial)))))))))
    · have hf := (if_neg b6).symm.trans hf
      refine Ev.blk (pc' := 55) [(.aload_n 0, 0, 0, 0), (.iload 6, 0, 0, 0)] (by decide +kernel) trivial rfl (?_)
      show Ev l d mi_X10_played 55 [some (.ref 65), some (.int x1), some (.int x2), some (.int x3), some (.int x4), some (.int x5), some (.int x6), none] [.int x6, .ref 65] (hp s) 0 0 _
      obtain ⟨q7, hq7, hf⟩ := bd_some hf
      refine Ev.callV (o := 65) (M' := mi_X10_chooses) (d' := d - 1) (As := [.int x6]) (rest := []) (r' := (none, hp q7)) (e_X10_chooses (d := d - 1) (by omega) x6 s _ hq7) (by omega) wm_X10_chooses wi_X10_chooses wv_X10_chooses km_10_607 (kc rfl rfl) (Nat.le_of_ble_eq_true rfl) rfl rfl rfl (Nat.le_of_ble_eq_true rfl) ⟨Nat.le_of_ble_eq_true rfl, Nat.le_of_ble_eq_true rfl⟩ (by decide +kernel) ?_
      show Ev l d mi_X10_played 58 [some (.ref 65), some (.int x1), some (.int x2), some (.int x3), some (.int x4), some (.int x5), some (.int x6), none] [] (hp q7) 0 0 _
      refine Ev.blk (pc' := 59) [(.aload_n 0, 0, 0, 0)] (by decide +kernel) trivial rfl (?_)
      show Ev l d mi_X10_played 59 [some (.ref 65), some (.int x1), some (.int x2), some (.int x3), some (.int x4), some (.int x5), some (.int x6), none] [.ref 65] (hp q7) 0 0 _
      obtain ⟨q8, hq8, hf⟩ := bd_some hf
      refine Ev.callV (o := 65) (M' := mi_X10_dayGoes) (d' := d - 1) (As := []) (rest := []) (r' := (none, hp q8)) (e_X10_dayGoes (d := d - 1) (by omega) q7 _ hq8) (by omega) wm_X10_dayGoes wi_X10_dayGoes wv_X10_dayGoes km_10_578 (kc rfl rfl) (Nat.le_of_ble_eq_true rfl) rfl rfl rfl (Nat.le_of_ble_eq_true rfl) ⟨Nat.le_of_ble_eq_true rfl, Nat.le_of_ble_eq_true rfl⟩ (by decide +kernel) ?_
      show Ev l d mi_X10_played 62 [some (.ref 65), some (.int x1), some (.int x2), some (.int x3), some (.int x4), some (.int x5), some (.int x6), none] [] (hp q8) 0 0 _
      refine Ev.blk (pc' := 63) [(.aload_n 0, 0, 0, 0)] (by decide +kernel) trivial rfl (?_)
      show Ev l d mi_X10_played 63 [some (.ref 65), some (.int x1), some (.int x2), some (.int x3), some (.int x4), some (.int x5), some (.int x6), none] [.ref 65] (hp q8) 0 0 _
      obtain ⟨q9, hq9, hf⟩ := bd_some hf
      refine Ev.callV (o := 65) (M' := mi_X10_isAsSeen) (d' := d - 1) (As := []) (rest := []) (r' := (some (.int q9.1), hp q9.2)) (e_X10_isAsSeen (d := d - 1) (by omega) q8 _ hq9) (by omega) wm_X10_isAsSeen wi_X10_isAsSeen wv_X10_isAsSeen km_10_642 (kc rfl rfl) (Nat.le_of_ble_eq_true rfl) rfl rfl rfl (Nat.le_of_ble_eq_true rfl) ⟨Nat.le_of_ble_eq_true rfl, Nat.le_of_ble_eq_true rfl⟩ (by decide +kernel) ?_
      show Ev l d mi_X10_played 66 [some (.ref 65), some (.int x1), some (.int x2), some (.int x3), some (.int x4), some (.int x5), some (.int x6), none] [.int q9.1] (hp q9.2) 0 0 _
      refine Ev.blk (pc' := 69) [(.istore 7, 0, 0, 0), (.aload_n 0, 0, 0, 0)] (by decide +kernel) trivial rfl (And.intro (Nat.le_of_ble_eq_true rfl) (?_))
      show Ev l d mi_X10_played 69 [some (.ref 65), some (.int x1), some (.int x2), some (.int x3), some (.int x4), some (.int x5), some (.int x6), some (.int q9.1)] [.ref 65] (hp q9.2) 0 0 _
      obtain ⟨q10, hq10, hf⟩ := bd_some hf
      refine Ev.callV (o := 65) (M' := mi_X10_triesAnew) (d' := d - 1) (As := []) (rest := []) (r' := (none, hp q10)) (e_X10_triesAnew (d := d - 1) (by omega) q9.2 _ hq10) (by omega) wm_X10_triesAnew wi_X10_triesAnew wv_X10_triesAnew km_10_581 (kc rfl rfl) (Nat.le_of_ble_eq_true rfl) rfl rfl rfl (Nat.le_of_ble_eq_true rfl) ⟨Nat.le_of_ble_eq_true rfl, Nat.le_of_ble_eq_true rfl⟩ (by decide +kernel) ?_
      show Ev l d mi_X10_played 72 [some (.ref 65), some (.int x1), some (.int x2), some (.int x3), some (.int x4), some (.int x5), some (.int x6), some (.int q9.1)] [] (hp q10) 0 0 _
      refine Ev.blk (pc' := 74) [(.iload 7, 0, 0, 0)] (by decide +kernel) trivial rfl (?_)
      show Ev l d mi_X10_played 74 [some (.ref 65), some (.int x1), some (.int x2), some (.int x3), some (.int x4), some (.int x5), some (.int x6), some (.int q9.1)] [.int q9.1] (hp q10) 0 0 _
      refine Ev.if_ne (off := 6) (tgt := 80) (by decide +kernel) (by decide) (fun b11 => ?_) (fun b11 => ?_)
      · have hf := (if_neg b11).symm.trans hf
        refine Ev.blk (pc' := 85) [(.iinc 2 1, 0, 0, 0), (.iload_n 3, 0, 0, 0), (.iconst (-1), 0, 0, 0)] (by decide +kernel) trivial rfl (And.intro (Nat.le_of_ble_eq_true rfl) (?_))
        show Ev l d mi_X10_played 85 [some (.ref 65), some (.int x1), some (.int (x2 + Int32.ofInt 1)), some (.int x3), some (.int x4), some (.int x5), some (.int x6), some (.int q9.1)] [.int (Int32.ofInt (-1)), .int x3] (hp q10) 0 0 _
        refine Ev.icmp_ne (off := 6) (tgt := 91) (by decide +kernel) (by decide) (fun b12 => ?_) (fun b12 => ?_)
        · have hf := (if_neg b12).symm.trans hf
          refine Ev.blk (pc' := 98) [(.iload 6, 0, 0, 0), (.istore 4, 0, 0, 0), (.iinc 6 1, 0, 0, 0)] (by decide +kernel) trivial rfl (And.intro (Nat.le_of_ble_eq_true rfl) (And.intro (Nat.le_of_ble_eq_true rfl) (?_)))
          show Ev l d mi_X10_played 98 [some (.ref 65), some (.int x1), some (.int (x2 + Int32.ofInt 1)), some (.int x3), some (.int x6), some (.int x5), some (.int (x6 + Int32.ofInt 1)), some (.int q9.1)] [] (hp q10) 0 0 _
          refine Ev.goto (off := -53) (tgt := 45) (by decide +kernel) (by decide) ?_
          exact Ev.wk (ih x1 (x2 + Int32.ofInt 1) x3 x6 x5 (x6 + Int32.ofInt 1) q10 _ hf) (And.intro (Or.inr rfl) (And.intro (Or.inr rfl) (And.intro (Or.inr rfl) (And.intro (Or.inr rfl) (And.intro (Or.inr rfl) (And.intro (Or.inr rfl) (And.intro (Or.inr rfl) (And.intro (Or.inl rfl) (trivial)))))))))
        · have hf := (if_pos b12).symm.trans hf
          refine Ev.blk (pc' := 98) [(.iload 6, 0, 0, 0), (.istore_n 3, 0, 0, 0), (.iload 6, 0, 0, 0), (.istore 4, 0, 0, 0), (.iinc 6 1, 0, 0, 0)] (by decide +kernel) trivial rfl (And.intro (Nat.le_of_ble_eq_true rfl) (And.intro (Nat.le_of_ble_eq_true rfl) (And.intro (Nat.le_of_ble_eq_true rfl) (?_))))
          show Ev l d mi_X10_played 98 [some (.ref 65), some (.int x1), some (.int (x2 + Int32.ofInt 1)), some (.int x6), some (.int x6), some (.int x5), some (.int (x6 + Int32.ofInt 1)), some (.int q9.1)] [] (hp q10) 0 0 _
          refine Ev.goto (off := -53) (tgt := 45) (by decide +kernel) (by decide) ?_
          exact Ev.wk (ih x1 (x2 + Int32.ofInt 1) x6 x6 x5 (x6 + Int32.ofInt 1) q10 _ hf) (And.intro (Or.inr rfl) (And.intro (Or.inr rfl) (And.intro (Or.inr rfl) (And.intro (Or.inr rfl) (And.intro (Or.inr rfl) (And.intro (Or.inr rfl) (And.intro (Or.inr rfl) (And.intro (Or.inl rfl) (trivial)))))))))
      · have hf := (if_pos b11).symm.trans hf
        refine Ev.goto (off := 18) (tgt := 95) (by decide +kernel) (by decide) ?_
        refine Ev.blk (pc' := 98) [(.iinc 6 1, 0, 0, 0)] (by decide +kernel) trivial rfl (And.intro (Nat.le_of_ble_eq_true rfl) (?_))
        show Ev l d mi_X10_played 98 [some (.ref 65), some (.int x1), some (.int x2), some (.int x3), some (.int x4), some (.int x5), some (.int (x6 + Int32.ofInt 1)), some (.int q9.1)] [] (hp q10) 0 0 _
        refine Ev.goto (off := -53) (tgt := 45) (by decide +kernel) (by decide) ?_
        exact Ev.wk (ih x1 x2 x3 x4 x5 (x6 + Int32.ofInt 1) q10 _ hf) (And.intro (Or.inr rfl) (And.intro (Or.inr rfl) (And.intro (Or.inr rfl) (And.intro (Or.inr rfl) (And.intro (Or.inr rfl) (And.intro (Or.inr rfl) (And.intro (Or.inr rfl) (And.intro (Or.inl rfl) (trivial)))))))))
def f_X10_played_j101 (x1 : Int32) (x2 : Int32) (x3 : Int32) (x4 : Int32) (s : ST) : Option (Int32 × ST) := (f_X10_takesBack s).bind (fun q13 => (if x1 = 0 then some (x2, q13) else (if x1 = (Int32.ofInt 1) then some (x3, q13) else some (x4, q13))))
set_option maxHeartbeats 2000000 in
set_option maxRecDepth 20000 in
theorem e_X10_played_j101 {l : Launch} {d : Nat} (hd : 8 ≤ d) (x1 : Int32) (x2 : Int32) (x3 : Int32) (x4 : Int32) (s : ST) (r : Int32 × ST) (hf : f_X10_played_j101 x1 x2 x3 x4 s = some r) : Ev l d mi_X10_played 101 [some (.ref 65), some (.int x1), some (.int x2), some (.int x3), some (.int x4), none, none, none] [] (hp s) 0 0 (some (.int r.1), hp r.2) := by
  unfold f_X10_played_j101 at hf
  refine Ev.blk (pc' := 102) [(.aload_n 0, 0, 0, 0)] (by decide +kernel) trivial rfl (?_)
  show Ev l d mi_X10_played 102 [some (.ref 65), some (.int x1), some (.int x2), some (.int x3), some (.int x4), none, none, none] [.ref 65] (hp s) 0 0 _
  obtain ⟨q13, hq13, hf⟩ := bd_some hf
  refine Ev.callV (o := 65) (M' := mi_X10_takesBack) (d' := d - 1) (As := []) (rest := []) (r' := (none, hp q13)) (e_X10_takesBack (d := d - 1) (by omega) s _ hq13) (by omega) wm_X10_takesBack wi_X10_takesBack wv_X10_takesBack km_10_627 (kc rfl rfl) (Nat.le_of_ble_eq_true rfl) rfl rfl rfl (Nat.le_of_ble_eq_true rfl) ⟨Nat.le_of_ble_eq_true rfl, Nat.le_of_ble_eq_true rfl⟩ (by decide +kernel) ?_
  show Ev l d mi_X10_played 105 [some (.ref 65), some (.int x1), some (.int x2), some (.int x3), some (.int x4), none, none, none] [] (hp q13) 0 0 _
  refine Ev.blk (pc' := 106) [(.iload_n 1, 0, 0, 0)] (by decide +kernel) trivial rfl (?_)
  show Ev l d mi_X10_played 106 [some (.ref 65), some (.int x1), some (.int x2), some (.int x3), some (.int x4), none, none, none] [.int x1] (hp q13) 0 0 _
  refine Ev.if_ne (off := 7) (tgt := 113) (by decide +kernel) (by decide) (fun b14 => ?_) (fun b14 => ?_)
  · have hf := (if_neg b14).symm.trans hf
    refine Ev.blk (pc' := 115) [(.iload_n 1, 0, 0, 0), (.iconst 1, 0, 0, 0)] (by decide +kernel) trivial rfl (?_)
    show Ev l d mi_X10_played 115 [some (.ref 65), some (.int x1), some (.int x2), some (.int x3), some (.int x4), none, none, none] [.int (Int32.ofInt 1), .int x1] (hp q13) 0 0 _
    refine Ev.icmp_ne (off := 7) (tgt := 122) (by decide +kernel) (by decide) (fun b15 => ?_) (fun b15 => ?_)
    · have hf := (if_neg b15).symm.trans hf
      refine Ev.blk (pc' := 124) [(.iload 4, 0, 0, 0)] (by decide +kernel) trivial rfl (?_)
      show Ev l d mi_X10_played 124 [some (.ref 65), some (.int x1), some (.int x2), some (.int x3), some (.int x4), none, none, none] [.int x4] (hp q13) 0 0 _
      cases hf
      exact Ev.iret .int rfl rfl (by decide +kernel) (Nat.le_refl _) (Nat.le_refl _)
    · have hf := (if_pos b15).symm.trans hf
      refine Ev.blk (pc' := 119) [(.iload_n 3, 0, 0, 0)] (by decide +kernel) trivial rfl (?_)
      show Ev l d mi_X10_played 119 [some (.ref 65), some (.int x1), some (.int x2), some (.int x3), some (.int x4), none, none, none] [.int x3] (hp q13) 0 0 _
      refine Ev.goto (off := 5) (tgt := 124) (by decide +kernel) (by decide) ?_
      cases hf
      exact Ev.iret .int rfl rfl (by decide +kernel) (Nat.le_refl _) (Nat.le_refl _)
  · have hf := (if_pos b14).symm.trans hf
    refine Ev.blk (pc' := 110) [(.iload_n 2, 0, 0, 0)] (by decide +kernel) trivial rfl (?_)
    show Ev l d mi_X10_played 110 [some (.ref 65), some (.int x1), some (.int x2), some (.int x3), some (.int x4), none, none, none] [.int x2] (hp q13) 0 0 _
    refine Ev.goto (off := 14) (tgt := 124) (by decide +kernel) (by decide) ?_
    cases hf
    exact Ev.iret .int rfl rfl (by decide +kernel) (Nat.le_refl _) (Nat.le_refl _)
def f_X10_played_j36 (x1 : Int32) (x2 : Int32) (x3 : Int32) (x4 : Int32) (y0 : Int32) (s : ST) : Option (Int32 × ST) := (f_X10_putsAside s).bind (fun q5 => (f_X10_played_L45 f_X10_played_j101 fuel) x1 x2 x3 x4 y0 (Int32.ofInt 0) q5)
set_option maxHeartbeats 2000000 in
set_option maxRecDepth 20000 in
theorem e_X10_played_j36 {l : Launch} {d : Nat} (hd : 8 ≤ d) (x1 : Int32) (x2 : Int32) (x3 : Int32) (x4 : Int32) (y0 : Int32) (s : ST) (r : Int32 × ST) (hf : f_X10_played_j36 x1 x2 x3 x4 y0 s = some r) : Ev l d mi_X10_played 36 [some (.ref 65), some (.int x1), some (.int x2), some (.int x3), some (.int x4), none, none, none] [.int y0] (hp s) 0 0 (some (.int r.1), hp r.2) := by
  unfold f_X10_played_j36 at hf
  refine Ev.blk (pc' := 39) [(.istore 5, 0, 0, 0), (.aload_n 0, 0, 0, 0)] (by decide +kernel) trivial rfl (And.intro (Nat.le_of_ble_eq_true rfl) (?_))
  show Ev l d mi_X10_played 39 [some (.ref 65), some (.int x1), some (.int x2), some (.int x3), some (.int x4), some (.int y0), none, none] [.ref 65] (hp s) 0 0 _
  obtain ⟨q5, hq5, hf⟩ := bd_some hf
  refine Ev.callV (o := 65) (M' := mi_X10_putsAside) (d' := d - 1) (As := []) (rest := []) (r' := (none, hp q5)) (e_X10_putsAside (d := d - 1) (by omega) s _ hq5) (by omega) wm_X10_putsAside wi_X10_putsAside wv_X10_putsAside km_10_621 (kc rfl rfl) (Nat.le_of_ble_eq_true rfl) rfl rfl rfl (Nat.le_of_ble_eq_true rfl) ⟨Nat.le_of_ble_eq_true rfl, Nat.le_of_ble_eq_true rfl⟩ (by decide +kernel) ?_
  show Ev l d mi_X10_played 42 [some (.ref 65), some (.int x1), some (.int x2), some (.int x3), some (.int x4), some (.int y0), none, none] [] (hp q5) 0 0 _
  refine Ev.blk (pc' := 45) [(.iconst 0, 0, 0, 0), (.istore 6, 0, 0, 0)] (by decide +kernel) trivial rfl (And.intro (Nat.le_of_ble_eq_true rfl) (?_))
  show Ev l d mi_X10_played 45 [some (.ref 65), some (.int x1), some (.int x2), some (.int x3), some (.int x4), some (.int y0), some (.int (Int32.ofInt 0)), none] [] (hp q5) 0 0 _
  exact (e_X10_played_L45 hd f_X10_played_j101 (e_X10_played_j101 hd) fuel) x1 x2 x3 x4 y0 (Int32.ofInt 0) q5 _ hf
def f_X10_played (p0 : Int32) (s : ST) : Option (Int32 × ST) := (f_X10_isIn ((p0).toInt64) (Int64.ofNat ((0 : Fin 2) : Nat)) (Int64.ofInt 2) s).bind (fun q1 => (if q1.1 = 0 then some ((Int32.ofInt (-1)), q1.2) else (if (q1.2.1 65 58) = 0 then f_X10_played_j36 p0 (Int32.ofInt 0) (Int32.ofInt (-1)) (Int32.ofInt (-1)) (Int32.ofInt 0) q1.2 else (f_X10_movesNow q1.2).bind (fun q4 => f_X10_played_j36 p0 (Int32.ofInt 0) (Int32.ofInt (-1)) (Int32.ofInt (-1)) q4.1 q4.2))))
set_option maxHeartbeats 2000000 in
set_option maxRecDepth 20000 in
theorem e_X10_played {l : Launch} {d : Nat} (hd : 8 ≤ d) (p0 : Int32) (s : ST) (r : Int32 × ST) (hf : f_X10_played p0 s = some r) : Cl l d mi_X10_played [.ref 65, .int p0] (hp s) (some (.int r.1), hp r.2) := by
  refine Ev.entry (by decide +kernel) rfl rfl ?_
  show Ev l d mi_X10_played 0 [some (.ref 65), some (.int p0), none, none, none, none, none, none] [] (hp s) 0 0 _
  unfold f_X10_played at hf
  refine Ev.blk (pc' := 6) [(.iload_n 1, 0, 0, 0), (.i2l, 0, 0, 0), (.lconst 0, 0, 0, 0), (.ldc2_w 593, 2, 0, 0)] (by decide +kernel) ⟨kl_10_593, trivial⟩ rfl (?_)
  show Ev l d mi_X10_played 6 [some (.ref 65), some (.int p0), none, none, none, none, none, none] [.long (Int64.ofInt 2), .long (Int64.ofNat ((0 : Fin 2) : Nat)), .long (p0).toInt64] (hp s) 0 0 _
  obtain ⟨q1, hq1, hf⟩ := bd_some hf
  refine Ev.callS (M' := mi_X10_isIn) (d' := d - 1) (As := [.long (p0).toInt64, .long (Int64.ofNat ((0 : Fin 2) : Nat)), .long (Int64.ofInt 2)]) (rest := []) (r' := (some (.int q1.1), hp q1.2)) (e_X10_isIn (d := d - 1) (by omega) ((p0).toInt64) (Int64.ofNat ((0 : Fin 2) : Nat)) (Int64.ofInt 2) s _ hq1) (by omega) wm_X10_isIn wt_X10_isIn km_10_321 rfl rfl rfl (Nat.le_of_ble_eq_true rfl) ⟨Nat.le_of_ble_eq_true rfl, Nat.le_of_ble_eq_true rfl⟩ (by decide +kernel) ?_
  show Ev l d mi_X10_played 9 [some (.ref 65), some (.int p0), none, none, none, none, none, none] [.int q1.1] (hp q1.2) 0 0 _
  refine Ev.if_ne (off := 5) (tgt := 14) (by decide +kernel) (by decide) (fun b2 => ?_) (fun b2 => ?_)
  · have hf := (if_neg b2).symm.trans hf
    refine Ev.blk (pc' := 25) [(.iconst 0, 0, 0, 0), (.istore_n 2, 0, 0, 0), (.iconst (-1), 0, 0, 0), (.istore_n 3, 0, 0, 0), (.iconst (-1), 0, 0, 0), (.istore 4, 0, 0, 0), (.aload_n 0, 0, 0, 0), (.getfield 424, 0, 10, 58)] (by decide +kernel) ⟨kf_10_424, trivial⟩ rfl (And.intro (Nat.le_of_ble_eq_true rfl) (And.intro (Nat.le_of_ble_eq_true rfl) (And.intro (Nat.le_of_ble_eq_true rfl) (And.intro (kc rfl rfl) (?_)))))
    show Ev l d mi_X10_played 25 [some (.ref 65), some (.int p0), some (.int (Int32.ofInt 0)), some (.int (Int32.ofInt (-1))), some (.int (Int32.ofInt (-1))), none, none, none] [.int (q1.2.1 65 58)] (hp q1.2) 0 0 _
    refine Ev.if_eq (off := 10) (tgt := 35) (by decide +kernel) (by decide) (fun b3 => ?_) (fun b3 => ?_)
    · have hf := (if_pos b3).symm.trans hf
      refine Ev.blk (pc' := 36) [(.iconst 0, 0, 0, 0)] (by decide +kernel) trivial rfl (?_)
      show Ev l d mi_X10_played 36 [some (.ref 65), some (.int p0), some (.int (Int32.ofInt 0)), some (.int (Int32.ofInt (-1))), some (.int (Int32.ofInt (-1))), none, none, none] [.int (Int32.ofInt 0)] (hp q1.2) 0 0 _
      exact (e_X10_played_j36 hd) p0 (Int32.ofInt 0) (Int32.ofInt (-1)) (Int32.ofInt (-1)) (Int32.ofInt 0) q1.2 _ hf
    · have hf := (if_neg b3).symm.trans hf
      refine Ev.blk (pc' := 29) [(.aload_n 0, 0, 0, 0)] (by decide +kernel) trivial rfl (?_)
      show Ev l d mi_X10_played 29 [some (.ref 65), some (.int p0), some (.int (Int32.ofInt 0)), some (.int (Int32.ofInt (-1))), some (.int (Int32.ofInt (-1))), none, none, none] [.ref 65] (hp q1.2) 0 0 _
      obtain ⟨q4, hq4, hf⟩ := bd_some hf
      refine Ev.callV (o := 65) (M' := mi_X10_movesNow) (d' := d - 1) (As := []) (rest := []) (r' := (some (.int q4.1), hp q4.2)) (e_X10_movesNow (d := d - 1) (by omega) q1.2 _ hq4) (by omega) wm_X10_movesNow wi_X10_movesNow wv_X10_movesNow km_10_630 (kc rfl rfl) (Nat.le_of_ble_eq_true rfl) rfl rfl rfl (Nat.le_of_ble_eq_true rfl) ⟨Nat.le_of_ble_eq_true rfl, Nat.le_of_ble_eq_true rfl⟩ (by decide +kernel) ?_
      show Ev l d mi_X10_played 32 [some (.ref 65), some (.int p0), some (.int (Int32.ofInt 0)), some (.int (Int32.ofInt (-1))), some (.int (Int32.ofInt (-1))), none, none, none] [.int q4.1] (hp q4.2) 0 0 _
      refine Ev.goto (off := 4) (tgt := 36) (by decide +kernel) (by decide) ?_
      exact (e_X10_played_j36 hd) p0 (Int32.ofInt 0) (Int32.ofInt (-1)) (Int32.ofInt (-1)) q4.1 q4.2 _ hf
  · have hf := (if_pos b2).symm.trans hf
    refine Ev.blk (pc' := 13) [(.iconst (-1), 0, 0, 0)] (by decide +kernel) trivial rfl (?_)
    show Ev l d mi_X10_played 13 [some (.ref 65), some (.int p0), none, none, none, none, none, none] [.int (Int32.ofInt (-1))] (hp q1.2) 0 0 _
    cases hf
    exact Ev.iret .int rfl rfl (by decide +kernel) (Nat.le_refl _) (Nat.le_refl _)
def f_X10_ways0_L2 : Nat → Int32 → ST → Option (Int32 × ST)
  | 0, _, _ => none
  | n + 1, x1, s => (f_X10_manMany s).bind (fun q1 => (if ((Int32.ofInt 2) * q1.1) ≤ x1 then some ((Int32.ofInt 1), q1.2) else gd (ib ((Int32.ofInt 2) + x1) 225) (gd (ib x1 16) ((if (q1.2.1 112 ((Int32.ofInt 2) + x1).toNatClampNeg) = (q1.2.1 121 x1.toNatClampNeg) then (f_X10_ways0_L2 n) (x1 + Int32.ofInt 1) q1.2 else some ((Int32.ofInt 0), q1.2))))))
set_option maxHeartbeats 2000000 in
set_option maxRecDepth 20000 in
theorem e_X10_ways0_L2 {l : Launch} {d : Nat} (hd : 2 ≤ d) : ∀ (n : Nat) (x1 : Int32) (s : ST) (r : Int32 × ST), f_X10_ways0_L2 n x1 s = some r → Ev l d mi_X10_ways0 2 [some (.ref 65), some (.int x1)] [] (hp s) 0 0 (some (.int r.1), hp r.2) := by
  intro n
  induction n with
  | zero =>
    intro x1 s r hf
    cases hf
  | succ n ih =>
    intro x1 s r hf
    unfold f_X10_ways0_L2 at hf
    refine Ev.blk (pc' := 5) [(.iload_n 1, 0, 0, 0), (.iconst 2, 0, 0, 0), (.aload_n 0, 0, 0, 0)] (by decide +kernel) trivial rfl (?_)
    show Ev l d mi_X10_ways0 5 [some (.ref 65), some (.int x1)] [.ref 65, .int (Int32.ofInt 2), .int x1] (hp s) 0 0 _
    obtain ⟨q1, hq1, hf⟩ := bd_some hf
    refine Ev.callV (o := 65) (M' := mi_X10_manMany) (d' := d - 1) (As := []) (rest := [.int (Int32.ofInt 2), .int x1]) (r' := (some (.int q1.1), hp q1.2)) (e_X10_manMany (d := d - 1) (by omega) s _ hq1) (by omega) wm_X10_manMany wi_X10_manMany wv_X10_manMany km_10_433 (kc rfl rfl) (Nat.le_of_ble_eq_true rfl) rfl rfl rfl (Nat.le_of_ble_eq_true rfl) ⟨Nat.le_of_ble_eq_true rfl, Nat.le_of_ble_eq_true rfl⟩ (by decide +kernel) ?_
    show Ev l d mi_X10_ways0 8 [some (.ref 65), some (.int x1)] [.int q1.1, .int (Int32.ofInt 2), .int x1] (hp q1.2) 0 0 _
    refine Ev.blk (pc' := 9) [(.imul, 0, 0, 0)] (by decide +kernel) trivial rfl (?_)
    show Ev l d mi_X10_ways0 9 [some (.ref 65), some (.int x1)] [.int ((Int32.ofInt 2) * q1.1), .int x1] (hp q1.2) 0 0 _
    refine Ev.icmp_ge (off := 28) (tgt := 37) (by decide +kernel) (by decide) (fun b2 => ?_) (fun b2 => ?_)
    · have hf := (if_pos b2).symm.trans hf
      refine Ev.blk (pc' := 38) [(.iconst 1, 0, 0, 0)] (by decide +kernel) trivial rfl (?_)
      show Ev l d mi_X10_ways0 38 [some (.ref 65), some (.int x1)] [.int (Int32.ofInt 1)] (hp q1.2) 0 0 _
      cases hf
      exact Ev.iret .int rfl rfl (by decide +kernel) (Nat.le_refl _) (Nat.le_refl _)
    · have hf := (if_neg b2).symm.trans hf
      obtain ⟨c3, hf⟩ := gd_some hf
      obtain ⟨c4, hf⟩ := gd_some hf
      refine Ev.blk (pc' := 26) [(.aload_n 0, 0, 0, 0), (.getfield 154, 0, 10, 62), (.iconst 2, 0, 0, 0), (.iload_n 1, 0, 0, 0), (.iadd, 0, 0, 0), (.iaload, 0, 0, 0), (.aload_n 0, 0, 0, 0), (.getfield 184, 0, 10, 82), (.iload_n 1, 0, 0, 0), (.iaload, 0, 0, 0)] (by decide +kernel) ⟨kf_10_154, ⟨kf_10_184, trivial⟩⟩ rfl (And.intro (kc rfl rfl) (Exists.intro 112 (And.intro rfl (And.intro (kc rfl rfl) (And.intro (ib_ok c3) (And.intro (kc rfl rfl) (Exists.intro 121 (And.intro rfl (And.intro (kc rfl rfl) (And.intro (ib_ok c4) (?_)))))))))))
      show Ev l d mi_X10_ways0 26 [some (.ref 65), some (.int x1)] [.int (q1.2.1 121 x1.toNatClampNeg), .int (q1.2.1 112 ((Int32.ofInt 2) + x1).toNatClampNeg)] (hp q1.2) 0 0 _
      refine Ev.icmp_eq (off := 5) (tgt := 31) (by decide +kernel) (by decide) (fun b5 => ?_) (fun b5 => ?_)
      · have hf := (if_pos b5).symm.trans hf
        refine Ev.blk (pc' := 34) [(.iinc 1 1, 0, 0, 0)] (by decide +kernel) trivial rfl (And.intro (Nat.le_of_ble_eq_true rfl) (?_))
        show Ev l d mi_X10_ways0 34 [some (.ref 65), some (.int (x1 + Int32.ofInt 1))] [] (hp q1.2) 0 0 _
        refine Ev.goto (off := -32) (tgt := 2) (by decide +kernel) (by decide) ?_
        exact ih (x1 + Int32.ofInt 1) q1.2 _ hf
      · have hf := (if_neg b5).symm.trans hf
        refine Ev.blk (pc' := 30) [(.iconst 0, 0, 0, 0)] (by decide +kernel) trivial rfl (?_)
        show Ev l d mi_X10_ways0 30 [some (.ref 65), some (.int x1)] [.int (Int32.ofInt 0)] (hp q1.2) 0 0 _
        cases hf
        exact Ev.iret .int rfl rfl (by decide +kernel) (Nat.le_refl _) (Nat.le_refl _)
def f_X10_ways0 (s : ST) : Option (Int32 × ST) := (f_X10_ways0_L2 fuel) (Int32.ofInt 0) s
set_option maxHeartbeats 2000000 in
set_option maxRecDepth 20000 in
theorem e_X10_ways0 {l : Launch} {d : Nat} (hd : 2 ≤ d) (s : ST) (r : Int32 × ST) (hf : f_X10_ways0 s = some r) : Cl l d mi_X10_ways0 [.ref 65] (hp s) (some (.int r.1), hp r.2) := by
  refine Ev.entry (by decide +kernel) rfl rfl ?_
  show Ev l d mi_X10_ways0 0 [some (.ref 65), none] [] (hp s) 0 0 _
  unfold f_X10_ways0 at hf
  refine Ev.blk (pc' := 2) [(.iconst 0, 0, 0, 0), (.istore_n 1, 0, 0, 0)] (by decide +kernel) trivial rfl (And.intro (Nat.le_of_ble_eq_true rfl) (?_))
  show Ev l d mi_X10_ways0 2 [some (.ref 65), some (.int (Int32.ofInt 0))] [] (hp s) 0 0 _
  exact (e_X10_ways0_L2 hd fuel) (Int32.ofInt 0) s _ hf
def f_X10_ways1_L23 (k13 : Int32 → Int32 → ST → Option (Int32 × ST)) : Nat → Int32 → Int32 → Int32 → ST → Option (Int32 × ST)
  | 0, _, _, _, _ => none
  | n + 1, x1, x2, x3, s => (f_X10_places s).bind (fun q5 => (if q5.1 ≤ x3 then k13 x1 (x2 + Int32.ofInt 1) q5.2 else (f_X10_sideOf x2 q5.2).bind (fun q7 => gd (ib (Int32.ofInt 1) 225) ((if q7.1 = (q7.2.1 112 (Int32.ofInt 1).toNatClampNeg) then (f_X10_canGo x2 x3 q7.2).bind (fun q10 => (if q10.1 = 0 then (f_X10_ways1_L23 k13 n) x1 x2 (x3 + Int32.ofInt 1) q10.2 else (f_X10_does (Int32.ofInt 1) x2 x3 q10.2).bind (fun q12 => (f_X10_ways0 q12).bind (fun q13 => (f_X10_undoes (Int32.ofInt 1) q13.2).bind (fun q14 => (f_X10_ways1_L23 k13 n) (x1 + q13.1) x2 (x3 + Int32.ofInt 1) q14))))) else (f_X10_ways1_L23 k13 n) x1 x2 (x3 + Int32.ofInt 1) q7.2)))))
set_option maxHeartbeats 2000000 in
set_option maxRecDepth 20000 in
theorem e_X10_ways1_L23 {l : Launch} {d : Nat} (hd : 5 ≤ d) (k13 : Int32 → Int32 → ST → Option (Int32 × ST)) (hk13 : ∀ (x1 : Int32) (x2 : Int32) (s : ST) (r : Int32 × ST), k13 x1 x2 s = some r → Ev l d mi_X10_ways1 13 [some (.ref 65), some (.int x1), some (.int x2), none] [] (hp s) 0 0 (some (.int r.1), hp r.2)) : ∀ (n : Nat) (x1 : Int32) (x2 : Int32) (x3 : Int32) (s : ST) (r : Int32 × ST), f_X10_ways1_L23 k13 n x1 x2 x3 s = some r → Ev l d mi_X10_ways1 23 [some (.ref 65), some (.int x1), some (.int x2), some (.int x3)] [] (hp s) 0 0 (some (.int r.1), hp r.2) := by
  intro n
  induction n with
  | zero =>
    intro x1 x2 x3 s r hf
    cases hf
  | succ n ih =>
    intro x1 x2 x3 s r hf
    unfold f_X10_ways1_L23 at hf
    refine Ev.blk (pc' := 25) [(.iload_n 3, 0, 0, 0), (.aload_n 0, 0, 0, 0)] (by decide +kernel) trivial rfl (?_)
    show Ev l d mi_X10_ways1 25 [some (.ref 65), some (.int x1), some (.int x2), some (.int x3)] [.ref 65, .int x3] (hp s) 0 0 _
    obtain ⟨q5, hq5, hf⟩ := bd_some hf
    refine Ev.callV (o := 65) (M' := mi_X10_places) (d' := d - 1) (As := []) (rest := [.int x3]) (r' := (some (.int q5.1), hp q5.2)) (e_X10_places (d := d - 1) (by omega) s _ hq5) (by omega) wm_X10_places wi_X10_places wv_X10_places km_10_471 (kc rfl rfl) (Nat.le_of_ble_eq_true rfl) rfl rfl rfl (Nat.le_of_ble_eq_true rfl) ⟨Nat.le_of_ble_eq_true rfl, Nat.le_of_ble_eq_true rfl⟩ (by decide +kernel) ?_
    show Ev l d mi_X10_ways1 28 [some (.ref 65), some (.int x1), some (.int x2), some (.int x3)] [.int q5.1, .int x3] (hp q5.2) 0 0 _
    refine Ev.icmp_ge (off := 54) (tgt := 82) (by decide +kernel) (by decide) (fun b6 => ?_) (fun b6 => ?_)
    · have hf := (if_pos b6).symm.trans hf
      refine Ev.blk (pc' := 85) [(.iinc 2 1, 0, 0, 0)] (by decide +kernel) trivial rfl (And.intro (Nat.le_of_ble_eq_true rfl) (?_))
      show Ev l d mi_X10_ways1 85 [some (.ref 65), some (.int x1), some (.int (x2 + Int32.ofInt 1)), some (.int x3)] [] (hp q5.2) 0 0 _
      refine Ev.goto (off := -72) (tgt := 13) (by decide +kernel) (by decide) ?_
      exact Ev.wk (hk13 x1 (x2 + Int32.ofInt 1) q5.2 _ hf) (And.intro (Or.inr rfl) (And.intro (Or.inr rfl) (And.intro (Or.inr rfl) (And.intro (Or.inl rfl) (trivial)))))
    · have hf := (if_neg b6).symm.trans hf
      refine Ev.blk (pc' := 33) [(.aload_n 0, 0, 0, 0), (.iload_n 2, 0, 0, 0)] (by decide +kernel) trivial rfl (?_)
      show Ev l d mi_X10_ways1 33 [some (.ref 65), some (.int x1), some (.int x2), some (.int x3)] [.int x2, .ref 65] (hp q5.2) 0 0 _
      obtain ⟨q7, hq7, hf⟩ := bd_some hf
      refine Ev.callV (o := 65) (M' := mi_X10_sideOf) (d' := d - 1) (As := [.int x2]) (rest := []) (r' := (some (.int q7.1), hp q7.2)) (e_X10_sideOf (d := d - 1) (by omega) x2 q5.2 _ hq7) (by omega) wm_X10_sideOf wi_X10_sideOf wv_X10_sideOf km_10_468 (kc rfl rfl) (Nat.le_of_ble_eq_true rfl) rfl rfl rfl (Nat.le_of_ble_eq_true rfl) ⟨Nat.le_of_ble_eq_true rfl, Nat.le_of_ble_eq_true rfl⟩ (by decide +kernel) ?_
      show Ev l d mi_X10_ways1 36 [some (.ref 65), some (.int x1), some (.int x2), some (.int x3)] [.int q7.1] (hp q7.2) 0 0 _
      obtain ⟨c8, hf⟩ := gd_some hf
      refine Ev.blk (pc' := 42) [(.aload_n 0, 0, 0, 0), (.getfield 154, 0, 10, 62), (.iconst 1, 0, 0, 0), (.iaload, 0, 0, 0)] (by decide +kernel) ⟨kf_10_154, trivial⟩ rfl (And.intro (kc rfl rfl) (Exists.intro 112 (And.intro rfl (And.intro (kc rfl rfl) (And.intro (ib_ok c8) (?_))))))
      show Ev l d mi_X10_ways1 42 [some (.ref 65), some (.int x1), some (.int x2), some (.int x3)] [.int (q7.2.1 112 (Int32.ofInt 1).toNatClampNeg), .int q7.1] (hp q7.2) 0 0 _
      refine Ev.icmp_ne (off := 34) (tgt := 76) (by decide +kernel) (by decide) (fun b9 => ?_) (fun b9 => ?_)
      · have hf := (if_neg b9).symm.trans hf
        refine Ev.blk (pc' := 79) [(.iinc 3 1, 0, 0, 0)] (by decide +kernel) trivial rfl (And.intro (Nat.le_of_ble_eq_true rfl) (?_))
        show Ev l d mi_X10_ways1 79 [some (.ref 65), some (.int x1), some (.int x2), some (.int (x3 + Int32.ofInt 1))] [] (hp q7.2) 0 0 _
        refine Ev.goto (off := -56) (tgt := 23) (by decide +kernel) (by decide) ?_
        exact ih x1 x2 (x3 + Int32.ofInt 1) q7.2 _ hf
      · have hf := (if_pos b9).symm.trans hf
        refine Ev.blk (pc' := 48) [(.aload_n 0, 0, 0, 0), (.iload_n 2, 0, 0, 0), (.iload_n 3, 0, 0, 0)] (by decide +kernel) trivial rfl (?_)
        show Ev l d mi_X10_ways1 48 [some (.ref 65), some (.int x1), some (.int x2), some (.int x3)] [.int x3, .int x2, .ref 65] (hp q7.2) 0 0 _
        obtain ⟨q10, hq10, hf⟩ := bd_some hf
        refine Ev.callV (o := 65) (M' := mi_X10_canGo) (d' := d - 1) (As := [.int x2, .int x3]) (rest := []) (r' := (some (.int q10.1), hp q10.2)) (e_X10_canGo (d := d - 1) (by omega) x2 x3 q7.2 _ hq10) (by omega) wm_X10_canGo wi_X10_canGo wv_X10_canGo km_10_474 (kc rfl rfl) (Nat.le_of_ble_eq_true rfl) rfl rfl rfl (Nat.le_of_ble_eq_true rfl) ⟨Nat.le_of_ble_eq_true rfl, Nat.le_of_ble_eq_true rfl⟩ (by decide +kernel) ?_
        show Ev l d mi_X10_ways1 51 [some (.ref 65), some (.int x1), some (.int x2), some (.int x3)] [.int q10.1] (hp q10.2) 0 0 _
        refine Ev.if_ne (off := 6) (tgt := 57) (by decide +kernel) (by decide) (fun b11 => ?_) (fun b11 => ?_)
        · have hf := (if_neg b11).symm.trans hf
          refine Ev.blk (pc' := 61) [(.aload_n 0, 0, 0, 0), (.iconst 1, 0, 0, 0), (.iload_n 2, 0, 0, 0), (.iload_n 3, 0, 0, 0)] (by decide +kernel) trivial rfl (?_)
          show Ev l d mi_X10_ways1 61 [some (.ref 65), some (.int x1), some (.int x2), some (.int x3)] [.int x3, .int x2, .int (Int32.ofInt 1), .ref 65] (hp q10.2) 0 0 _
          obtain ⟨q12, hq12, hf⟩ := bd_some hf
          refine Ev.callV (o := 65) (M' := mi_X10_does) (d' := d - 1) (As := [.int (Int32.ofInt 1), .int x2, .int x3]) (rest := []) (r' := (none, hp q12)) (e_X10_does (d := d - 1) (by omega) (Int32.ofInt 1) x2 x3 q10.2 _ hq12) (by omega) wm_X10_does wi_X10_does wv_X10_does km_10_496 (kc rfl rfl) (Nat.le_of_ble_eq_true rfl) rfl rfl rfl (Nat.le_of_ble_eq_true rfl) ⟨Nat.le_of_ble_eq_true rfl, Nat.le_of_ble_eq_true rfl⟩ (by decide +kernel) ?_
          show Ev l d mi_X10_ways1 64 [some (.ref 65), some (.int x1), some (.int x2), some (.int x3)] [] (hp q12) 0 0 _
          refine Ev.blk (pc' := 66) [(.iload_n 1, 0, 0, 0), (.aload_n 0, 0, 0, 0)] (by decide +kernel) trivial rfl (?_)
          show Ev l d mi_X10_ways1 66 [some (.ref 65), some (.int x1), some (.int x2), some (.int x3)] [.ref 65, .int x1] (hp q12) 0 0 _
          obtain ⟨q13, hq13, hf⟩ := bd_some hf
          refine Ev.callV (o := 65) (M' := mi_X10_ways0) (d' := d - 1) (As := []) (rest := [.int x1]) (r' := (some (.int q13.1), hp q13.2)) (e_X10_ways0 (d := d - 1) (by omega) q12 _ hq13) (by omega) wm_X10_ways0 wi_X10_ways0 wv_X10_ways0 km_10_645 (kc rfl rfl) (Nat.le_of_ble_eq_true rfl) rfl rfl rfl (Nat.le_of_ble_eq_true rfl) ⟨Nat.le_of_ble_eq_true rfl, Nat.le_of_ble_eq_true rfl⟩ (by decide +kernel) ?_
          show Ev l d mi_X10_ways1 69 [some (.ref 65), some (.int x1), some (.int x2), some (.int x3)] [.int q13.1, .int x1] (hp q13.2) 0 0 _
          refine Ev.blk (pc' := 73) [(.iadd, 0, 0, 0), (.istore_n 1, 0, 0, 0), (.aload_n 0, 0, 0, 0), (.iconst 1, 0, 0, 0)] (by decide +kernel) trivial rfl (And.intro (Nat.le_of_ble_eq_true rfl) (?_))
          show Ev l d mi_X10_ways1 73 [some (.ref 65), some (.int (x1 + q13.1)), some (.int x2), some (.int x3)] [.int (Int32.ofInt 1), .ref 65] (hp q13.2) 0 0 _
          obtain ⟨q14, hq14, hf⟩ := bd_some hf
          refine Ev.callV (o := 65) (M' := mi_X10_undoes) (d' := d - 1) (As := [.int (Int32.ofInt 1)]) (rest := []) (r' := (none, hp q14)) (e_X10_undoes (d := d - 1) (by omega) (Int32.ofInt 1) q13.2 _ hq14) (by omega) wm_X10_undoes wi_X10_undoes wv_X10_undoes km_10_503 (kc rfl rfl) (Nat.le_of_ble_eq_true rfl) rfl rfl rfl (Nat.le_of_ble_eq_true rfl) ⟨Nat.le_of_ble_eq_true rfl, Nat.le_of_ble_eq_true rfl⟩ (by decide +kernel) ?_
          show Ev l d mi_X10_ways1 76 [some (.ref 65), some (.int (x1 + q13.1)), some (.int x2), some (.int x3)] [] (hp q14) 0 0 _
          refine Ev.blk (pc' := 79) [(.iinc 3 1, 0, 0, 0)] (by decide +kernel) trivial rfl (And.intro (Nat.le_of_ble_eq_true rfl) (?_))
          show Ev l d mi_X10_ways1 79 [some (.ref 65), some (.int (x1 + q13.1)), some (.int x2), some (.int (x3 + Int32.ofInt 1))] [] (hp q14) 0 0 _
          refine Ev.goto (off := -56) (tgt := 23) (by decide +kernel) (by decide) ?_
          exact ih (x1 + q13.1) x2 (x3 + Int32.ofInt 1) q14 _ hf
        · have hf := (if_pos b11).symm.trans hf
          refine Ev.goto (off := 22) (tgt := 76) (by decide +kernel) (by decide) ?_
          refine Ev.blk (pc' := 79) [(.iinc 3 1, 0, 0, 0)] (by decide +kernel) trivial rfl (And.intro (Nat.le_of_ble_eq_true rfl) (?_))
          show Ev l d mi_X10_ways1 79 [some (.ref 65), some (.int x1), some (.int x2), some (.int (x3 + Int32.ofInt 1))] [] (hp q10.2) 0 0 _
          refine Ev.goto (off := -56) (tgt := 23) (by decide +kernel) (by decide) ?_
          exact ih x1 x2 (x3 + Int32.ofInt 1) q10.2 _ hf
def f_X10_ways1_L13 : Nat → Int32 → Int32 → ST → Option (Int32 × ST)
  | 0, _, _, _ => none
  | n + 1, x1, x2, s => (f_X10_manMany s).bind (fun q3 => (if q3.1 ≤ x2 then some (x1, q3.2) else (f_X10_ways1_L23 (f_X10_ways1_L13 n) fuel) x1 x2 (Int32.ofInt 0) q3.2))
set_option maxHeartbeats 2000000 in
set_option maxRecDepth 20000 in
theorem e_X10_ways1_L13 {l : Launch} {d : Nat} (hd : 5 ≤ d) : ∀ (n : Nat) (x1 : Int32) (x2 : Int32) (s : ST) (r : Int32 × ST), f_X10_ways1_L13 n x1 x2 s = some r → Ev l d mi_X10_ways1 13 [some (.ref 65), some (.int x1), some (.int x2), none] [] (hp s) 0 0 (some (.int r.1), hp r.2) := by
  intro n
  induction n with
  | zero =>
    intro x1 x2 s r hf
    cases hf
  | succ n ih =>
    intro x1 x2 s r hf
    unfold f_X10_ways1_L13 at hf
    refine Ev.blk (pc' := 15) [(.iload_n 2, 0, 0, 0), (.aload_n 0, 0, 0, 0)] (by decide +kernel) trivial rfl (?_)
    show Ev l d mi_X10_ways1 15 [some (.ref 65), some (.int x1), some (.int x2), none] [.ref 65, .int x2] (hp s) 0 0 _
    obtain ⟨q3, hq3, hf⟩ := bd_some hf
    refine Ev.callV (o := 65) (M' := mi_X10_manMany) (d' := d - 1) (As := []) (rest := [.int x2]) (r' := (some (.int q3.1), hp q3.2)) (e_X10_manMany (d := d - 1) (by omega) s _ hq3) (by omega) wm_X10_manMany wi_X10_manMany wv_X10_manMany km_10_433 (kc rfl rfl) (Nat.le_of_ble_eq_true rfl) rfl rfl rfl (Nat.le_of_ble_eq_true rfl) ⟨Nat.le_of_ble_eq_true rfl, Nat.le_of_ble_eq_true rfl⟩ (by decide +kernel) ?_
    show Ev l d mi_X10_ways1 18 [some (.ref 65), some (.int x1), some (.int x2), none] [.int q3.1, .int x2] (hp q3.2) 0 0 _
    refine Ev.icmp_ge (off := 70) (tgt := 88) (by decide +kernel) (by decide) (fun b4 => ?_) (fun b4 => ?_)
    · have hf := (if_pos b4).symm.trans hf
      refine Ev.blk (pc' := 89) [(.iload_n 1, 0, 0, 0)] (by decide +kernel) trivial rfl (?_)
      show Ev l d mi_X10_ways1 89 [some (.ref 65), some (.int x1), some (.int x2), none] [.int x1] (hp q3.2) 0 0 _
      cases hf
      exact Ev.iret .int rfl rfl (by decide +kernel) (Nat.le_refl _) (Nat.le_refl _)
    · have hf := (if_neg b4).symm.trans hf
      refine Ev.blk (pc' := 23) [(.iconst 0, 0, 0, 0), (.istore_n 3, 0, 0, 0)] (by decide +kernel) trivial rfl (And.intro (Nat.le_of_ble_eq_true rfl) (?_))
      show Ev l d mi_X10_ways1 23 [some (.ref 65), some (.int x1), some (.int x2), some (.int (Int32.ofInt 0))] [] (hp q3.2) 0 0 _
      exact (e_X10_ways1_L23 hd (f_X10_ways1_L13 n) ih fuel) x1 x2 (Int32.ofInt 0) q3.2 _ hf
def f_X10_ways1 (s : ST) : Option (Int32 × ST) := (f_X10_isCrownTaken s).bind (fun q1 => (if q1.1 = 0 then (f_X10_ways1_L13 fuel) (Int32.ofInt 0) (Int32.ofInt 0) q1.2 else some ((Int32.ofInt 0), q1.2)))
set_option maxHeartbeats 2000000 in
set_option maxRecDepth 20000 in
theorem e_X10_ways1 {l : Launch} {d : Nat} (hd : 5 ≤ d) (s : ST) (r : Int32 × ST) (hf : f_X10_ways1 s = some r) : Cl l d mi_X10_ways1 [.ref 65] (hp s) (some (.int r.1), hp r.2) := by
  refine Ev.entry (by decide +kernel) rfl rfl ?_
  show Ev l d mi_X10_ways1 0 [some (.ref 65), none, none, none] [] (hp s) 0 0 _
  unfold f_X10_ways1 at hf
  refine Ev.blk (pc' := 3) [(.iconst 0, 0, 0, 0), (.istore_n 1, 0, 0, 0), (.aload_n 0, 0, 0, 0)] (by decide +kernel) trivial rfl (And.intro (Nat.le_of_ble_eq_true rfl) (?_))
  show Ev l d mi_X10_ways1 3 [some (.ref 65), some (.int (Int32.ofInt 0)), none, none] [.ref 65] (hp s) 0 0 _
  obtain ⟨q1, hq1, hf⟩ := bd_some hf
  refine Ev.callV (o := 65) (M' := mi_X10_isCrownTaken) (d' := d - 1) (As := []) (rest := []) (r' := (some (.int q1.1), hp q1.2)) (e_X10_isCrownTaken (d := d - 1) (by omega) s _ hq1) (by omega) wm_X10_isCrownTaken wi_X10_isCrownTaken wv_X10_isCrownTaken km_10_484 (kc rfl rfl) (Nat.le_of_ble_eq_true rfl) rfl rfl rfl (Nat.le_of_ble_eq_true rfl) ⟨Nat.le_of_ble_eq_true rfl, Nat.le_of_ble_eq_true rfl⟩ (by decide +kernel) ?_
  show Ev l d mi_X10_ways1 6 [some (.ref 65), some (.int (Int32.ofInt 0)), none, none] [.int q1.1] (hp q1.2) 0 0 _
  refine Ev.if_eq (off := 5) (tgt := 11) (by decide +kernel) (by decide) (fun b2 => ?_) (fun b2 => ?_)
  · have hf := (if_pos b2).symm.trans hf
    refine Ev.blk (pc' := 13) [(.iconst 0, 0, 0, 0), (.istore_n 2, 0, 0, 0)] (by decide +kernel) trivial rfl (And.intro (Nat.le_of_ble_eq_true rfl) (?_))
    show Ev l d mi_X10_ways1 13 [some (.ref 65), some (.int (Int32.ofInt 0)), some (.int (Int32.ofInt 0)), none] [] (hp q1.2) 0 0 _
    exact (e_X10_ways1_L13 hd fuel) (Int32.ofInt 0) (Int32.ofInt 0) q1.2 _ hf
  · have hf := (if_neg b2).symm.trans hf
    refine Ev.blk (pc' := 10) [(.iconst 0, 0, 0, 0)] (by decide +kernel) trivial rfl (?_)
    show Ev l d mi_X10_ways1 10 [some (.ref 65), some (.int (Int32.ofInt 0)), none, none] [.int (Int32.ofInt 0)] (hp q1.2) 0 0 _
    cases hf
    exact Ev.iret .int rfl rfl (by decide +kernel) (Nat.le_refl _) (Nat.le_refl _)
def f_X10_ways2_L23 (k13 : Int32 → Int32 → ST → Option (Int32 × ST)) : Nat → Int32 → Int32 → Int32 → ST → Option (Int32 × ST)
  | 0, _, _, _, _ => none
  | n + 1, x1, x2, x3, s => (f_X10_places s).bind (fun q5 => (if q5.1 ≤ x3 then k13 x1 (x2 + Int32.ofInt 1) q5.2 else (f_X10_sideOf x2 q5.2).bind (fun q7 => gd (ib (Int32.ofInt 1) 225) ((if q7.1 = (q7.2.1 112 (Int32.ofInt 1).toNatClampNeg) then (f_X10_canGo x2 x3 q7.2).bind (fun q10 => (if q10.1 = 0 then (f_X10_ways2_L23 k13 n) x1 x2 (x3 + Int32.ofInt 1) q10.2 else (f_X10_does (Int32.ofInt 2) x2 x3 q10.2).bind (fun q12 => (f_X10_ways1 q12).bind (fun q13 => (f_X10_undoes (Int32.ofInt 2) q13.2).bind (fun q14 => (f_X10_ways2_L23 k13 n) (x1 + q13.1) x2 (x3 + Int32.ofInt 1) q14))))) else (f_X10_ways2_L23 k13 n) x1 x2 (x3 + Int32.ofInt 1) q7.2)))))
set_option maxHeartbeats 2000000 in
set_option maxRecDepth 20000 in
theorem e_X10_ways2_L23 {l : Launch} {d : Nat} (hd : 6 ≤ d) (k13 : Int32 → Int32 → ST → Option (Int32 × ST)) (hk13 : ∀ (x1 : Int32) (x2 : Int32) (s : ST) (r : Int32 × ST), k13 x1 x2 s = some r → Ev l d mi_X10_ways2 13 [some (.ref 65), some (.int x1), some (.int x2), none] [] (hp s) 0 0 (some (.int r.1), hp r.2)) : ∀ (n : Nat) (x1 : Int32) (x2 : Int32) (x3 : Int32) (s : ST) (r : Int32 × ST), f_X10_ways2_L23 k13 n x1 x2 x3 s = some r → Ev l d mi_X10_ways2 23 [some (.ref 65), some (.int x1), some (.int x2), some (.int x3)] [] (hp s) 0 0 (some (.int r.1), hp r.2) := by
  intro n
  induction n with
  | zero =>
    intro x1 x2 x3 s r hf
    cases hf
  | succ n ih =>
    intro x1 x2 x3 s r hf
    unfold f_X10_ways2_L23 at hf
    refine Ev.blk (pc' := 25) [(.iload_n 3, 0, 0, 0), (.aload_n 0, 0, 0, 0)] (by decide +kernel) trivial rfl (?_)
    show Ev l d mi_X10_ways2 25 [some (.ref 65), some (.int x1), some (.int x2), some (.int x3)] [.ref 65, .int x3] (hp s) 0 0 _
    obtain ⟨q5, hq5, hf⟩ := bd_some hf
    refine Ev.callV (o := 65) (M' := mi_X10_places) (d' := d - 1) (As := []) (rest := [.int x3]) (r' := (some (.int q5.1), hp q5.2)) (e_X10_places (d := d - 1) (by omega) s _ hq5) (by omega) wm_X10_places wi_X10_places wv_X10_places km_10_471 (kc rfl rfl) (Nat.le_of_ble_eq_true rfl) rfl rfl rfl (Nat.le_of_ble_eq_true rfl) ⟨Nat.le_of_ble_eq_true rfl, Nat.le_of_ble_eq_true rfl⟩ (by decide +kernel) ?_
    show Ev l d mi_X10_ways2 28 [some (.ref 65), some (.int x1), some (.int x2), some (.int x3)] [.int q5.1, .int x3] (hp q5.2) 0 0 _
    refine Ev.icmp_ge (off := 54) (tgt := 82) (by decide +kernel) (by decide) (fun b6 => ?_) (fun b6 => ?_)
    · have hf := (if_pos b6).symm.trans hf
      refine Ev.blk (pc' := 85) [(.iinc 2 1, 0, 0, 0)] (by decide +kernel) trivial rfl (And.intro (Nat.le_of_ble_eq_true rfl) (?_))
      show Ev l d mi_X10_ways2 85 [some (.ref 65), some (.int x1), some (.int (x2 + Int32.ofInt 1)), some (.int x3)] [] (hp q5.2) 0 0 _
      refine Ev.goto (off := -72) (tgt := 13) (by decide +kernel) (by decide) ?_
      exact Ev.wk (hk13 x1 (x2 + Int32.ofInt 1) q5.2 _ hf) (And.intro (Or.inr rfl) (And.intro (Or.inr rfl) (And.intro (Or.inr rfl) (And.intro (Or.inl rfl) (trivial)))))
    · have hf := (if_neg b6).symm.trans hf
      refine Ev.blk (pc' := 33) [(.aload_n 0, 0, 0, 0), (.iload_n 2, 0, 0, 0)] (by decide +kernel) trivial rfl (?_)
      show Ev l d mi_X10_ways2 33 [some (.ref 65), some (.int x1), some (.int x2), some (.int x3)] [.int x2, .ref 65] (hp q5.2) 0 0 _
      obtain ⟨q7, hq7, hf⟩ := bd_some hf
      refine Ev.callV (o := 65) (M' := mi_X10_sideOf) (d' := d - 1) (As := [.int x2]) (rest := []) (r' := (some (.int q7.1), hp q7.2)) (e_X10_sideOf (d := d - 1) (by omega) x2 q5.2 _ hq7) (by omega) wm_X10_sideOf wi_X10_sideOf wv_X10_sideOf km_10_468 (kc rfl rfl) (Nat.le_of_ble_eq_true rfl) rfl rfl rfl (Nat.le_of_ble_eq_true rfl) ⟨Nat.le_of_ble_eq_true rfl, Nat.le_of_ble_eq_true rfl⟩ (by decide +kernel) ?_
      show Ev l d mi_X10_ways2 36 [some (.ref 65), some (.int x1), some (.int x2), some (.int x3)] [.int q7.1] (hp q7.2) 0 0 _
      obtain ⟨c8, hf⟩ := gd_some hf
      refine Ev.blk (pc' := 42) [(.aload_n 0, 0, 0, 0), (.getfield 154, 0, 10, 62), (.iconst 1, 0, 0, 0), (.iaload, 0, 0, 0)] (by decide +kernel) ⟨kf_10_154, trivial⟩ rfl (And.intro (kc rfl rfl) (Exists.intro 112 (And.intro rfl (And.intro (kc rfl rfl) (And.intro (ib_ok c8) (?_))))))
      show Ev l d mi_X10_ways2 42 [some (.ref 65), some (.int x1), some (.int x2), some (.int x3)] [.int (q7.2.1 112 (Int32.ofInt 1).toNatClampNeg), .int q7.1] (hp q7.2) 0 0 _
      refine Ev.icmp_ne (off := 34) (tgt := 76) (by decide +kernel) (by decide) (fun b9 => ?_) (fun b9 => ?_)
      · have hf := (if_neg b9).symm.trans hf
        refine Ev.blk (pc' := 79) [(.iinc 3 1, 0, 0, 0)] (by decide +kernel) trivial rfl (And.intro (Nat.le_of_ble_eq_true rfl) (?_))
        show Ev l d mi_X10_ways2 79 [some (.ref 65), some (.int x1), some (.int x2), some (.int (x3 + Int32.ofInt 1))] [] (hp q7.2) 0 0 _
        refine Ev.goto (off := -56) (tgt := 23) (by decide +kernel) (by decide) ?_
        exact ih x1 x2 (x3 + Int32.ofInt 1) q7.2 _ hf
      · have hf := (if_pos b9).symm.trans hf
        refine Ev.blk (pc' := 48) [(.aload_n 0, 0, 0, 0), (.iload_n 2, 0, 0, 0), (.iload_n 3, 0, 0, 0)] (by decide +kernel) trivial rfl (?_)
        show Ev l d mi_X10_ways2 48 [some (.ref 65), some (.int x1), some (.int x2), some (.int x3)] [.int x3, .int x2, .ref 65] (hp q7.2) 0 0 _
        obtain ⟨q10, hq10, hf⟩ := bd_some hf
        refine Ev.callV (o := 65) (M' := mi_X10_canGo) (d' := d - 1) (As := [.int x2, .int x3]) (rest := []) (r' := (some (.int q10.1), hp q10.2)) (e_X10_canGo (d := d - 1) (by omega) x2 x3 q7.2 _ hq10) (by omega) wm_X10_canGo wi_X10_canGo wv_X10_canGo km_10_474 (kc rfl rfl) (Nat.le_of_ble_eq_true rfl) rfl rfl rfl (Nat.le_of_ble_eq_true rfl) ⟨Nat.le_of_ble_eq_true rfl, Nat.le_of_ble_eq_true rfl⟩ (by decide +kernel) ?_
        show Ev l d mi_X10_ways2 51 [some (.ref 65), some (.int x1), some (.int x2), some (.int x3)] [.int q10.1] (hp q10.2) 0 0 _
        refine Ev.if_ne (off := 6) (tgt := 57) (by decide +kernel) (by decide) (fun b11 => ?_) (fun b11 => ?_)
        · have hf := (if_neg b11).symm.trans hf
          refine Ev.blk (pc' := 61) [(.aload_n 0, 0, 0, 0), (.iconst 2, 0, 0, 0), (.iload_n 2, 0, 0, 0), (.iload_n 3, 0, 0, 0)] (by decide +kernel) trivial rfl (?_)
          show Ev l d mi_X10_ways2 61 [some (.ref 65), some (.int x1), some (.int x2), some (.int x3)] [.int x3, .int x2, .int (Int32.ofInt 2), .ref 65] (hp q10.2) 0 0 _
          obtain ⟨q12, hq12, hf⟩ := bd_some hf
          refine Ev.callV (o := 65) (M' := mi_X10_does) (d' := d - 1) (As := [.int (Int32.ofInt 2), .int x2, .int x3]) (rest := []) (r' := (none, hp q12)) (e_X10_does (d := d - 1) (by omega) (Int32.ofInt 2) x2 x3 q10.2 _ hq12) (by omega) wm_X10_does wi_X10_does wv_X10_does km_10_496 (kc rfl rfl) (Nat.le_of_ble_eq_true rfl) rfl rfl rfl (Nat.le_of_ble_eq_true rfl) ⟨Nat.le_of_ble_eq_true rfl, Nat.le_of_ble_eq_true rfl⟩ (by decide +kernel) ?_
          show Ev l d mi_X10_ways2 64 [some (.ref 65), some (.int x1), some (.int x2), some (.int x3)] [] (hp q12) 0 0 _
          refine Ev.blk (pc' := 66) [(.iload_n 1, 0, 0, 0), (.aload_n 0, 0, 0, 0)] (by decide +kernel) trivial rfl (?_)
          show Ev l d mi_X10_ways2 66 [some (.ref 65), some (.int x1), some (.int x2), some (.int x3)] [.ref 65, .int x1] (hp q12) 0 0 _
          obtain ⟨q13, hq13, hf⟩ := bd_some hf
          refine Ev.callV (o := 65) (M' := mi_X10_ways1) (d' := d - 1) (As := []) (rest := [.int x1]) (r' := (some (.int q13.1), hp q13.2)) (e_X10_ways1 (d := d - 1) (by omega) q12 _ hq13) (by omega) wm_X10_ways1 wi_X10_ways1 wv_X10_ways1 km_10_648 (kc rfl rfl) (Nat.le_of_ble_eq_true rfl) rfl rfl rfl (Nat.le_of_ble_eq_true rfl) ⟨Nat.le_of_ble_eq_true rfl, Nat.le_of_ble_eq_true rfl⟩ (by decide +kernel) ?_
          show Ev l d mi_X10_ways2 69 [some (.ref 65), some (.int x1), some (.int x2), some (.int x3)] [.int q13.1, .int x1] (hp q13.2) 0 0 _
          refine Ev.blk (pc' := 73) [(.iadd, 0, 0, 0), (.istore_n 1, 0, 0, 0), (.aload_n 0, 0, 0, 0), (.iconst 2, 0, 0, 0)] (by decide +kernel) trivial rfl (And.intro (Nat.le_of_ble_eq_true rfl) (?_))
          show Ev l d mi_X10_ways2 73 [some (.ref 65), some (.int (x1 + q13.1)), some (.int x2), some (.int x3)] [.int (Int32.ofInt 2), .ref 65] (hp q13.2) 0 0 _
          obtain ⟨q14, hq14, hf⟩ := bd_some hf
          refine Ev.callV (o := 65) (M' := mi_X10_undoes) (d' := d - 1) (As := [.int (Int32.ofInt 2)]) (rest := []) (r' := (none, hp q14)) (e_X10_undoes (d := d - 1) (by omega) (Int32.ofInt 2) q13.2 _ hq14) (by omega) wm_X10_undoes wi_X10_undoes wv_X10_undoes km_10_503 (kc rfl rfl) (Nat.le_of_ble_eq_true rfl) rfl rfl rfl (Nat.le_of_ble_eq_true rfl) ⟨Nat.le_of_ble_eq_true rfl, Nat.le_of_ble_eq_true rfl⟩ (by decide +kernel) ?_
          show Ev l d mi_X10_ways2 76 [some (.ref 65), some (.int (x1 + q13.1)), some (.int x2), some (.int x3)] [] (hp q14) 0 0 _
          refine Ev.blk (pc' := 79) [(.iinc 3 1, 0, 0, 0)] (by decide +kernel) trivial rfl (And.intro (Nat.le_of_ble_eq_true rfl) (?_))
          show Ev l d mi_X10_ways2 79 [some (.ref 65), some (.int (x1 + q13.1)), some (.int x2), some (.int (x3 + Int32.ofInt 1))] [] (hp q14) 0 0 _
          refine Ev.goto (off := -56) (tgt := 23) (by decide +kernel) (by decide) ?_
          exact ih (x1 + q13.1) x2 (x3 + Int32.ofInt 1) q14 _ hf
        · have hf := (if_pos b11).symm.trans hf
          refine Ev.goto (off := 22) (tgt := 76) (by decide +kernel) (by decide) ?_
          refine Ev.blk (pc' := 79) [(.iinc 3 1, 0, 0, 0)] (by decide +kernel) trivial rfl (And.intro (Nat.le_of_ble_eq_true rfl) (?_))
          show Ev l d mi_X10_ways2 79 [some (.ref 65), some (.int x1), some (.int x2), some (.int (x3 + Int32.ofInt 1))] [] (hp q10.2) 0 0 _
          refine Ev.goto (off := -56) (tgt := 23) (by decide +kernel) (by decide) ?_
          exact ih x1 x2 (x3 + Int32.ofInt 1) q10.2 _ hf
def f_X10_ways2_L13 : Nat → Int32 → Int32 → ST → Option (Int32 × ST)
  | 0, _, _, _ => none
  | n + 1, x1, x2, s => (f_X10_manMany s).bind (fun q3 => (if q3.1 ≤ x2 then some (x1, q3.2) else (f_X10_ways2_L23 (f_X10_ways2_L13 n) fuel) x1 x2 (Int32.ofInt 0) q3.2))
set_option maxHeartbeats 2000000 in
set_option maxRecDepth 20000 in
theorem e_X10_ways2_L13 {l : Launch} {d : Nat} (hd : 6 ≤ d) : ∀ (n : Nat) (x1 : Int32) (x2 : Int32) (s : ST) (r : Int32 × ST), f_X10_ways2_L13 n x1 x2 s = some r → Ev l d mi_X10_ways2 13 [some (.ref 65), some (.int x1), some (.int x2), none] [] (hp s) 0 0 (some (.int r.1), hp r.2) := by
  intro n
  induction n with
  | zero =>
    intro x1 x2 s r hf
    cases hf
  | succ n ih =>
    intro x1 x2 s r hf
    unfold f_X10_ways2_L13 at hf
    refine Ev.blk (pc' := 15) [(.iload_n 2, 0, 0, 0), (.aload_n 0, 0, 0, 0)] (by decide +kernel) trivial rfl (?_)
    show Ev l d mi_X10_ways2 15 [some (.ref 65), some (.int x1), some (.int x2), none] [.ref 65, .int x2] (hp s) 0 0 _
    obtain ⟨q3, hq3, hf⟩ := bd_some hf
    refine Ev.callV (o := 65) (M' := mi_X10_manMany) (d' := d - 1) (As := []) (rest := [.int x2]) (r' := (some (.int q3.1), hp q3.2)) (e_X10_manMany (d := d - 1) (by omega) s _ hq3) (by omega) wm_X10_manMany wi_X10_manMany wv_X10_manMany km_10_433 (kc rfl rfl) (Nat.le_of_ble_eq_true rfl) rfl rfl rfl (Nat.le_of_ble_eq_true rfl) ⟨Nat.le_of_ble_eq_true rfl, Nat.le_of_ble_eq_true rfl⟩ (by decide +kernel) ?_
    show Ev l d mi_X10_ways2 18 [some (.ref 65), some (.int x1), some (.int x2), none] [.int q3.1, .int x2] (hp q3.2) 0 0 _
    refine Ev.icmp_ge (off := 70) (tgt := 88) (by decide +kernel) (by decide) (fun b4 => ?_) (fun b4 => ?_)
    · have hf := (if_pos b4).symm.trans hf
      refine Ev.blk (pc' := 89) [(.iload_n 1, 0, 0, 0)] (by decide +kernel) trivial rfl (?_)
      show Ev l d mi_X10_ways2 89 [some (.ref 65), some (.int x1), some (.int x2), none] [.int x1] (hp q3.2) 0 0 _
      cases hf
      exact Ev.iret .int rfl rfl (by decide +kernel) (Nat.le_refl _) (Nat.le_refl _)
    · have hf := (if_neg b4).symm.trans hf
      refine Ev.blk (pc' := 23) [(.iconst 0, 0, 0, 0), (.istore_n 3, 0, 0, 0)] (by decide +kernel) trivial rfl (And.intro (Nat.le_of_ble_eq_true rfl) (?_))
      show Ev l d mi_X10_ways2 23 [some (.ref 65), some (.int x1), some (.int x2), some (.int (Int32.ofInt 0))] [] (hp q3.2) 0 0 _
      exact (e_X10_ways2_L23 hd (f_X10_ways2_L13 n) ih fuel) x1 x2 (Int32.ofInt 0) q3.2 _ hf
def f_X10_ways2 (s : ST) : Option (Int32 × ST) := (f_X10_isCrownTaken s).bind (fun q1 => (if q1.1 = 0 then (f_X10_ways2_L13 fuel) (Int32.ofInt 0) (Int32.ofInt 0) q1.2 else some ((Int32.ofInt 0), q1.2)))
set_option maxHeartbeats 2000000 in
set_option maxRecDepth 20000 in
theorem e_X10_ways2 {l : Launch} {d : Nat} (hd : 6 ≤ d) (s : ST) (r : Int32 × ST) (hf : f_X10_ways2 s = some r) : Cl l d mi_X10_ways2 [.ref 65] (hp s) (some (.int r.1), hp r.2) := by
  refine Ev.entry (by decide +kernel) rfl rfl ?_
  show Ev l d mi_X10_ways2 0 [some (.ref 65), none, none, none] [] (hp s) 0 0 _
  unfold f_X10_ways2 at hf
  refine Ev.blk (pc' := 3) [(.iconst 0, 0, 0, 0), (.istore_n 1, 0, 0, 0), (.aload_n 0, 0, 0, 0)] (by decide +kernel) trivial rfl (And.intro (Nat.le_of_ble_eq_true rfl) (?_))
  show Ev l d mi_X10_ways2 3 [some (.ref 65), some (.int (Int32.ofInt 0)), none, none] [.ref 65] (hp s) 0 0 _
  obtain ⟨q1, hq1, hf⟩ := bd_some hf
  refine Ev.callV (o := 65) (M' := mi_X10_isCrownTaken) (d' := d - 1) (As := []) (rest := []) (r' := (some (.int q1.1), hp q1.2)) (e_X10_isCrownTaken (d := d - 1) (by omega) s _ hq1) (by omega) wm_X10_isCrownTaken wi_X10_isCrownTaken wv_X10_isCrownTaken km_10_484 (kc rfl rfl) (Nat.le_of_ble_eq_true rfl) rfl rfl rfl (Nat.le_of_ble_eq_true rfl) ⟨Nat.le_of_ble_eq_true rfl, Nat.le_of_ble_eq_true rfl⟩ (by decide +kernel) ?_
  show Ev l d mi_X10_ways2 6 [some (.ref 65), some (.int (Int32.ofInt 0)), none, none] [.int q1.1] (hp q1.2) 0 0 _
  refine Ev.if_eq (off := 5) (tgt := 11) (by decide +kernel) (by decide) (fun b2 => ?_) (fun b2 => ?_)
  · have hf := (if_pos b2).symm.trans hf
    refine Ev.blk (pc' := 13) [(.iconst 0, 0, 0, 0), (.istore_n 2, 0, 0, 0)] (by decide +kernel) trivial rfl (And.intro (Nat.le_of_ble_eq_true rfl) (?_))
    show Ev l d mi_X10_ways2 13 [some (.ref 65), some (.int (Int32.ofInt 0)), some (.int (Int32.ofInt 0)), none] [] (hp q1.2) 0 0 _
    exact (e_X10_ways2_L13 hd fuel) (Int32.ofInt 0) (Int32.ofInt 0) q1.2 _ hf
  · have hf := (if_neg b2).symm.trans hf
    refine Ev.blk (pc' := 10) [(.iconst 0, 0, 0, 0)] (by decide +kernel) trivial rfl (?_)
    show Ev l d mi_X10_ways2 10 [some (.ref 65), some (.int (Int32.ofInt 0)), none, none] [.int (Int32.ofInt 0)] (hp q1.2) 0 0 _
    cases hf
    exact Ev.iret .int rfl rfl (by decide +kernel) (Nat.le_refl _) (Nat.le_refl _)
def f_X10_ways3_L23 (k13 : Int32 → Int32 → ST → Option (Int32 × ST)) : Nat → Int32 → Int32 → Int32 → ST → Option (Int32 × ST)
  | 0, _, _, _, _ => none
  | n + 1, x1, x2, x3, s => (f_X10_places s).bind (fun q5 => (if q5.1 ≤ x3 then k13 x1 (x2 + Int32.ofInt 1) q5.2 else (f_X10_sideOf x2 q5.2).bind (fun q7 => gd (ib (Int32.ofInt 1) 225) ((if q7.1 = (q7.2.1 112 (Int32.ofInt 1).toNatClampNeg) then (f_X10_canGo x2 x3 q7.2).bind (fun q10 => (if q10.1 = 0 then (f_X10_ways3_L23 k13 n) x1 x2 (x3 + Int32.ofInt 1) q10.2 else (f_X10_does (Int32.ofInt 3) x2 x3 q10.2).bind (fun q12 => (f_X10_ways2 q12).bind (fun q13 => (f_X10_undoes (Int32.ofInt 3) q13.2).bind (fun q14 => (f_X10_ways3_L23 k13 n) (x1 + q13.1) x2 (x3 + Int32.ofInt 1) q14))))) else (f_X10_ways3_L23 k13 n) x1 x2 (x3 + Int32.ofInt 1) q7.2)))))
set_option maxHeartbeats 2000000 in
set_option maxRecDepth 20000 in
theorem e_X10_ways3_L23 {l : Launch} {d : Nat} (hd : 7 ≤ d) (k13 : Int32 → Int32 → ST → Option (Int32 × ST)) (hk13 : ∀ (x1 : Int32) (x2 : Int32) (s : ST) (r : Int32 × ST), k13 x1 x2 s = some r → Ev l d mi_X10_ways3 13 [some (.ref 65), some (.int x1), some (.int x2), none] [] (hp s) 0 0 (some (.int r.1), hp r.2)) : ∀ (n : Nat) (x1 : Int32) (x2 : Int32) (x3 : Int32) (s : ST) (r : Int32 × ST), f_X10_ways3_L23 k13 n x1 x2 x3 s = some r → Ev l d mi_X10_ways3 23 [some (.ref 65), some (.int x1), some (.int x2), some (.int x3)] [] (hp s) 0 0 (some (.int r.1), hp r.2) := by
  intro n
  induction n with
  | zero =>
    intro x1 x2 x3 s r hf
    cases hf
  | succ n ih =>
    intro x1 x2 x3 s r hf
    unfold f_X10_ways3_L23 at hf
    refine Ev.blk (pc' := 25) [(.iload_n 3, 0, 0, 0), (.aload_n 0, 0, 0, 0)] (by decide +kernel) trivial rfl (?_)
    show Ev l d mi_X10_ways3 25 [some (.ref 65), some (.int x1), some (.int x2), some (.int x3)] [.ref 65, .int x3] (hp s) 0 0 _
    obtain ⟨q5, hq5, hf⟩ := bd_some hf
    refine Ev.callV (o := 65) (M' := mi_X10_places) (d' := d - 1) (As := []) (rest := [.int x3]) (r' := (some (.int q5.1), hp q5.2)) (e_X10_places (d := d - 1) (by omega) s _ hq5) (by omega) wm_X10_places wi_X10_places wv_X10_places km_10_471 (kc rfl rfl) (Nat.le_of_ble_eq_true rfl) rfl rfl rfl (Nat.le_of_ble_eq_true rfl) ⟨Nat.le_of_ble_eq_true rfl, Nat.le_of_ble_eq_true rfl⟩ (by decide +kernel) ?_
    show Ev l d mi_X10_ways3 28 [some (.ref 65), some (.int x1), some (.int x2), some (.int x3)] [.int q5.1, .int x3] (hp q5.2) 0 0 _
    refine Ev.icmp_ge (off := 54) (tgt := 82) (by decide +kernel) (by decide) (fun b6 => ?_) (fun b6 => ?_)
    · have hf := (if_pos b6).symm.trans hf
      refine Ev.blk (pc' := 85) [(.iinc 2 1, 0, 0, 0)] (by decide +kernel) trivial rfl (And.intro (Nat.le_of_ble_eq_true rfl) (?_))
      show Ev l d mi_X10_ways3 85 [some (.ref 65), some (.int x1), some (.int (x2 + Int32.ofInt 1)), some (.int x3)] [] (hp q5.2) 0 0 _
      refine Ev.goto (off := -72) (tgt := 13) (by decide +kernel) (by decide) ?_
      exact Ev.wk (hk13 x1 (x2 + Int32.ofInt 1) q5.2 _ hf) (And.intro (Or.inr rfl) (And.intro (Or.inr rfl) (And.intro (Or.inr rfl) (And.intro (Or.inl rfl) (trivial)))))
    · have hf := (if_neg b6).symm.trans hf
      refine Ev.blk (pc' := 33) [(.aload_n 0, 0, 0, 0), (.iload_n 2, 0, 0, 0)] (by decide +kernel) trivial rfl (?_)
      show Ev l d mi_X10_ways3 33 [some (.ref 65), some (.int x1), some (.int x2), some (.int x3)] [.int x2, .ref 65] (hp q5.2) 0 0 _
      obtain ⟨q7, hq7, hf⟩ := bd_some hf
      refine Ev.callV (o := 65) (M' := mi_X10_sideOf) (d' := d - 1) (As := [.int x2]) (rest := []) (r' := (some (.int q7.1), hp q7.2)) (e_X10_sideOf (d := d - 1) (by omega) x2 q5.2 _ hq7) (by omega) wm_X10_sideOf wi_X10_sideOf wv_X10_sideOf km_10_468 (kc rfl rfl) (Nat.le_of_ble_eq_true rfl) rfl rfl rfl (Nat.le_of_ble_eq_true rfl) ⟨Nat.le_of_ble_eq_true rfl, Nat.le_of_ble_eq_true rfl⟩ (by decide +kernel) ?_
      show Ev l d mi_X10_ways3 36 [some (.ref 65), some (.int x1), some (.int x2), some (.int x3)] [.int q7.1] (hp q7.2) 0 0 _
      obtain ⟨c8, hf⟩ := gd_some hf
      refine Ev.blk (pc' := 42) [(.aload_n 0, 0, 0, 0), (.getfield 154, 0, 10, 62), (.iconst 1, 0, 0, 0), (.iaload, 0, 0, 0)] (by decide +kernel) ⟨kf_10_154, trivial⟩ rfl (And.intro (kc rfl rfl) (Exists.intro 112 (And.intro rfl (And.intro (kc rfl rfl) (And.intro (ib_ok c8) (?_))))))
      show Ev l d mi_X10_ways3 42 [some (.ref 65), some (.int x1), some (.int x2), some (.int x3)] [.int (q7.2.1 112 (Int32.ofInt 1).toNatClampNeg), .int q7.1] (hp q7.2) 0 0 _
      refine Ev.icmp_ne (off := 34) (tgt := 76) (by decide +kernel) (by decide) (fun b9 => ?_) (fun b9 => ?_)
      · have hf := (if_neg b9).symm.trans hf
        refine Ev.blk (pc' := 79) [(.iinc 3 1, 0, 0, 0)] (by decide +kernel) trivial rfl (And.intro (Nat.le_of_ble_eq_true rfl) (?_))
        show Ev l d mi_X10_ways3 79 [some (.ref 65), some (.int x1), some (.int x2), some (.int (x3 + Int32.ofInt 1))] [] (hp q7.2) 0 0 _
        refine Ev.goto (off := -56) (tgt := 23) (by decide +kernel) (by decide) ?_
        exact ih x1 x2 (x3 + Int32.ofInt 1) q7.2 _ hf
      · have hf := (if_pos b9).symm.trans hf
        refine Ev.blk (pc' := 48) [(.aload_n 0, 0, 0, 0), (.iload_n 2, 0, 0, 0), (.iload_n 3, 0, 0, 0)] (by decide +kernel) trivial rfl (?_)
        show Ev l d mi_X10_ways3 48 [some (.ref 65), some (.int x1), some (.int x2), some (.int x3)] [.int x3, .int x2, .ref 65] (hp q7.2) 0 0 _
        obtain ⟨q10, hq10, hf⟩ := bd_some hf
        refine Ev.callV (o := 65) (M' := mi_X10_canGo) (d' := d - 1) (As := [.int x2, .int x3]) (rest := []) (r' := (some (.int q10.1), hp q10.2)) (e_X10_canGo (d := d - 1) (by omega) x2 x3 q7.2 _ hq10) (by omega) wm_X10_canGo wi_X10_canGo wv_X10_canGo km_10_474 (kc rfl rfl) (Nat.le_of_ble_eq_true rfl) rfl rfl rfl (Nat.le_of_ble_eq_true rfl) ⟨Nat.le_of_ble_eq_true rfl, Nat.le_of_ble_eq_true rfl⟩ (by decide +kernel) ?_
        show Ev l d mi_X10_ways3 51 [some (.ref 65), some (.int x1), some (.int x2), some (.int x3)] [.int q10.1] (hp q10.2) 0 0 _
        refine Ev.if_ne (off := 6) (tgt := 57) (by decide +kernel) (by decide) (fun b11 => ?_) (fun b11 => ?_)
        · have hf := (if_neg b11).symm.trans hf
          refine Ev.blk (pc' := 61) [(.aload_n 0, 0, 0, 0), (.iconst 3, 0, 0, 0), (.iload_n 2, 0, 0, 0), (.iload_n 3, 0, 0, 0)] (by decide +kernel) trivial rfl (?_)
          show Ev l d mi_X10_ways3 61 [some (.ref 65), some (.int x1), some (.int x2), some (.int x3)] [.int x3, .int x2, .int (Int32.ofInt 3), .ref 65] (hp q10.2) 0 0 _
          obtain ⟨q12, hq12, hf⟩ := bd_some hf
          refine Ev.callV (o := 65) (M' := mi_X10_does) (d' := d - 1) (As := [.int (Int32.ofInt 3), .int x2, .int x3]) (rest := []) (r' := (none, hp q12)) (e_X10_does (d := d - 1) (by omega) (Int32.ofInt 3) x2 x3 q10.2 _ hq12) (by omega) wm_X10_does wi_X10_does wv_X10_does km_10_496 (kc rfl rfl) (Nat.le_of_ble_eq_true rfl) rfl rfl rfl (Nat.le_of_ble_eq_true rfl) ⟨Nat.le_of_ble_eq_true rfl, Nat.le_of_ble_eq_true rfl⟩ (by decide +kernel) ?_
          show Ev l d mi_X10_ways3 64 [some (.ref 65), some (.int x1), some (.int x2), some (.int x3)] [] (hp q12) 0 0 _
          refine Ev.blk (pc' := 66) [(.iload_n 1, 0, 0, 0), (.aload_n 0, 0, 0, 0)] (by decide +kernel) trivial rfl (?_)
          show Ev l d mi_X10_ways3 66 [some (.ref 65), some (.int x1), some (.int x2), some (.int x3)] [.ref 65, .int x1] (hp q12) 0 0 _
          obtain ⟨q13, hq13, hf⟩ := bd_some hf
          refine Ev.callV (o := 65) (M' := mi_X10_ways2) (d' := d - 1) (As := []) (rest := [.int x1]) (r' := (some (.int q13.1), hp q13.2)) (e_X10_ways2 (d := d - 1) (by omega) q12 _ hq13) (by omega) wm_X10_ways2 wi_X10_ways2 wv_X10_ways2 km_10_651 (kc rfl rfl) (Nat.le_of_ble_eq_true rfl) rfl rfl rfl (Nat.le_of_ble_eq_true rfl) ⟨Nat.le_of_ble_eq_true rfl, Nat.le_of_ble_eq_true rfl⟩ (by decide +kernel) ?_
          show Ev l d mi_X10_ways3 69 [some (.ref 65), some (.int x1), some (.int x2), some (.int x3)] [.int q13.1, .int x1] (hp q13.2) 0 0 _
          refine Ev.blk (pc' := 73) [(.iadd, 0, 0, 0), (.istore_n 1, 0, 0, 0), (.aload_n 0, 0, 0, 0), (.iconst 3, 0, 0, 0)] (by decide +kernel) trivial rfl (And.intro (Nat.le_of_ble_eq_true rfl) (?_))
          show Ev l d mi_X10_ways3 73 [some (.ref 65), some (.int (x1 + q13.1)), some (.int x2), some (.int x3)] [.int (Int32.ofInt 3), .ref 65] (hp q13.2) 0 0 _
          obtain ⟨q14, hq14, hf⟩ := bd_some hf
          refine Ev.callV (o := 65) (M' := mi_X10_undoes) (d' := d - 1) (As := [.int (Int32.ofInt 3)]) (rest := []) (r' := (none, hp q14)) (e_X10_undoes (d := d - 1) (by omega) (Int32.ofInt 3) q13.2 _ hq14) (by omega) wm_X10_undoes wi_X10_undoes wv_X10_undoes km_10_503 (kc rfl rfl) (Nat.le_of_ble_eq_true rfl) rfl rfl rfl (Nat.le_of_ble_eq_true rfl) ⟨Nat.le_of_ble_eq_true rfl, Nat.le_of_ble_eq_true rfl⟩ (by decide +kernel) ?_
          show Ev l d mi_X10_ways3 76 [some (.ref 65), some (.int (x1 + q13.1)), some (.int x2), some (.int x3)] [] (hp q14) 0 0 _
          refine Ev.blk (pc' := 79) [(.iinc 3 1, 0, 0, 0)] (by decide +kernel) trivial rfl (And.intro (Nat.le_of_ble_eq_true rfl) (?_))
          show Ev l d mi_X10_ways3 79 [some (.ref 65), some (.int (x1 + q13.1)), some (.int x2), some (.int (x3 + Int32.ofInt 1))] [] (hp q14) 0 0 _
          refine Ev.goto (off := -56) (tgt := 23) (by decide +kernel) (by decide) ?_
          exact ih (x1 + q13.1) x2 (x3 + Int32.ofInt 1) q14 _ hf
        · have hf := (if_pos b11).symm.trans hf
          refine Ev.goto (off := 22) (tgt := 76) (by decide +kernel) (by decide) ?_
          refine Ev.blk (pc' := 79) [(.iinc 3 1, 0, 0, 0)] (by decide +kernel) trivial rfl (And.intro (Nat.le_of_ble_eq_true rfl) (?_))
          show Ev l d mi_X10_ways3 79 [some (.ref 65), some (.int x1), some (.int x2), some (.int (x3 + Int32.ofInt 1))] [] (hp q10.2) 0 0 _
          refine Ev.goto (off := -56) (tgt := 23) (by decide +kernel) (by decide) ?_
          exact ih x1 x2 (x3 + Int32.ofInt 1) q10.2 _ hf
def f_X10_ways3_L13 : Nat → Int32 → Int32 → ST → Option (Int32 × ST)
  | 0, _, _, _ => none
  | n + 1, x1, x2, s => (f_X10_manMany s).bind (fun q3 => (if q3.1 ≤ x2 then some (x1, q3.2) else (f_X10_ways3_L23 (f_X10_ways3_L13 n) fuel) x1 x2 (Int32.ofInt 0) q3.2))
set_option maxHeartbeats 2000000 in
set_option maxRecDepth 20000 in
theorem e_X10_ways3_L13 {l : Launch} {d : Nat} (hd : 7 ≤ d) : ∀ (n : Nat) (x1 : Int32) (x2 : Int32) (s : ST) (r : Int32 × ST), f_X10_ways3_L13 n x1 x2 s = some r → Ev l d mi_X10_ways3 13 [some (.ref 65), some (.int x1), some (.int x2), none] [] (hp s) 0 0 (some (.int r.1), hp r.2) := by
  intro n
  induction n with
  | zero =>
    intro x1 x2 s r hf
    cases hf
  | succ n ih =>
    intro x1 x2 s r hf
    unfold f_X10_ways3_L13 at hf
    refine Ev.blk (pc' := 15) [(.iload_n 2, 0, 0, 0), (.aload_n 0, 0, 0, 0)] (by decide +kernel) trivial rfl (?_)
    show Ev l d mi_X10_ways3 15 [some (.ref 65), some (.int x1), some (.int x2), none] [.ref 65, .int x2] (hp s) 0 0 _
    obtain ⟨q3, hq3, hf⟩ := bd_some hf
    refine Ev.callV (o := 65) (M' := mi_X10_manMany) (d' := d - 1) (As := []) (rest := [.int x2]) (r' := (some (.int q3.1), hp q3.2)) (e_X10_manMany (d := d - 1) (by omega) s _ hq3) (by omega) wm_X10_manMany wi_X10_manMany wv_X10_manMany km_10_433 (kc rfl rfl) (Nat.le_of_ble_eq_true rfl) rfl rfl rfl (Nat.le_of_ble_eq_true rfl) ⟨Nat.le_of_ble_eq_true rfl, Nat.le_of_ble_eq_true rfl⟩ (by decide +kernel) ?_
    show Ev l d mi_X10_ways3 18 [some (.ref 65), some (.int x1), some (.int x2), none] [.int q3.1, .int x2] (hp q3.2) 0 0 _
    refine Ev.icmp_ge (off := 70) (tgt := 88) (by decide +kernel) (by decide) (fun b4 => ?_) (fun b4 => ?_)
    · have hf := (if_pos b4).symm.trans hf
      refine Ev.blk (pc' := 89) [(.iload_n 1, 0, 0, 0)] (by decide +kernel) trivial rfl (?_)
      show Ev l d mi_X10_ways3 89 [some (.ref 65), some (.int x1), some (.int x2), none] [.int x1] (hp q3.2) 0 0 _
      cases hf
      exact Ev.iret .int rfl rfl (by decide +kernel) (Nat.le_refl _) (Nat.le_refl _)
    · have hf := (if_neg b4).symm.trans hf
      refine Ev.blk (pc' := 23) [(.iconst 0, 0, 0, 0), (.istore_n 3, 0, 0, 0)] (by decide +kernel) trivial rfl (And.intro (Nat.le_of_ble_eq_true rfl) (?_))
      show Ev l d mi_X10_ways3 23 [some (.ref 65), some (.int x1), some (.int x2), some (.int (Int32.ofInt 0))] [] (hp q3.2) 0 0 _
      exact (e_X10_ways3_L23 hd (f_X10_ways3_L13 n) ih fuel) x1 x2 (Int32.ofInt 0) q3.2 _ hf
def f_X10_ways3 (s : ST) : Option (Int32 × ST) := (f_X10_isCrownTaken s).bind (fun q1 => (if q1.1 = 0 then (f_X10_ways3_L13 fuel) (Int32.ofInt 0) (Int32.ofInt 0) q1.2 else some ((Int32.ofInt 0), q1.2)))
set_option maxHeartbeats 2000000 in
set_option maxRecDepth 20000 in
theorem e_X10_ways3 {l : Launch} {d : Nat} (hd : 7 ≤ d) (s : ST) (r : Int32 × ST) (hf : f_X10_ways3 s = some r) : Cl l d mi_X10_ways3 [.ref 65] (hp s) (some (.int r.1), hp r.2) := by
  refine Ev.entry (by decide +kernel) rfl rfl ?_
  show Ev l d mi_X10_ways3 0 [some (.ref 65), none, none, none] [] (hp s) 0 0 _
  unfold f_X10_ways3 at hf
  refine Ev.blk (pc' := 3) [(.iconst 0, 0, 0, 0), (.istore_n 1, 0, 0, 0), (.aload_n 0, 0, 0, 0)] (by decide +kernel) trivial rfl (And.intro (Nat.le_of_ble_eq_true rfl) (?_))
  show Ev l d mi_X10_ways3 3 [some (.ref 65), some (.int (Int32.ofInt 0)), none, none] [.ref 65] (hp s) 0 0 _
  obtain ⟨q1, hq1, hf⟩ := bd_some hf
  refine Ev.callV (o := 65) (M' := mi_X10_isCrownTaken) (d' := d - 1) (As := []) (rest := []) (r' := (some (.int q1.1), hp q1.2)) (e_X10_isCrownTaken (d := d - 1) (by omega) s _ hq1) (by omega) wm_X10_isCrownTaken wi_X10_isCrownTaken wv_X10_isCrownTaken km_10_484 (kc rfl rfl) (Nat.le_of_ble_eq_true rfl) rfl rfl rfl (Nat.le_of_ble_eq_true rfl) ⟨Nat.le_of_ble_eq_true rfl, Nat.le_of_ble_eq_true rfl⟩ (by decide +kernel) ?_
  show Ev l d mi_X10_ways3 6 [some (.ref 65), some (.int (Int32.ofInt 0)), none, none] [.int q1.1] (hp q1.2) 0 0 _
  refine Ev.if_eq (off := 5) (tgt := 11) (by decide +kernel) (by decide) (fun b2 => ?_) (fun b2 => ?_)
  · have hf := (if_pos b2).symm.trans hf
    refine Ev.blk (pc' := 13) [(.iconst 0, 0, 0, 0), (.istore_n 2, 0, 0, 0)] (by decide +kernel) trivial rfl (And.intro (Nat.le_of_ble_eq_true rfl) (?_))
    show Ev l d mi_X10_ways3 13 [some (.ref 65), some (.int (Int32.ofInt 0)), some (.int (Int32.ofInt 0)), none] [] (hp q1.2) 0 0 _
    exact (e_X10_ways3_L13 hd fuel) (Int32.ofInt 0) (Int32.ofInt 0) q1.2 _ hf
  · have hf := (if_neg b2).symm.trans hf
    refine Ev.blk (pc' := 10) [(.iconst 0, 0, 0, 0)] (by decide +kernel) trivial rfl (?_)
    show Ev l d mi_X10_ways3 10 [some (.ref 65), some (.int (Int32.ofInt 0)), none, none] [.int (Int32.ofInt 0)] (hp q1.2) 0 0 _
    cases hf
    exact Ev.iret .int rfl rfl (by decide +kernel) (Nat.le_refl _) (Nat.le_refl _)
def f_X10_areMen_L79 (k2 : Int32 → Int32 → ST → Option (Int32 × ST)) : Nat → Int32 → Int32 → Int32 → Int32 → Int32 → ST → Option (Int32 × ST)
  | 0, _, _, _, _, _, _ => none
  | n + 1, x1, x2, x3, x4, x5, s => (if x2 ≤ x5 then k2 x1 (x2 + Int32.ofInt 1) s else gd (ib (x1 + ((Int32.ofInt 2) * x5)) 1600) ((if (s.1 66 (x1 + ((Int32.ofInt 2) * x5)).toNatClampNeg) = x3 then gd (ib ((x1 + ((Int32.ofInt 2) * x5)) + (Int32.ofInt 1)) 1600) (lt (s.1 66 ((x1 + ((Int32.ofInt 2) * x5)) + (Int32.ofInt 1)).toNatClampNeg) (fun v16 => (if v16 = x4 then some ((Int32.ofInt 0), s) else (f_X10_areMen_L79 k2 n) x1 x2 x3 x4 (x5 + Int32.ofInt 1) s))) else (f_X10_areMen_L79 k2 n) x1 x2 x3 x4 (x5 + Int32.ofInt 1) s)))
set_option maxHeartbeats 2000000 in
set_option maxRecDepth 20000 in
theorem e_X10_areMen_L79 {l : Launch} {d : Nat} (hd : 2 ≤ d) (k2 : Int32 → Int32 → ST → Option (Int32 × ST)) (hk2 : ∀ (x1 : Int32) (x2 : Int32) (s : ST) (r : Int32 × ST), k2 x1 x2 s = some r → Ev l d mi_X10_areMen 2 [some (.ref 65), some (.int x1), some (.int x2), none, none, none] [] (hp s) 0 0 (some (.int r.1), hp r.2)) : ∀ (n : Nat) (x1 : Int32) (x2 : Int32) (x3 : Int32) (x4 : Int32) (x5 : Int32) (s : ST) (r : Int32 × ST), f_X10_areMen_L79 k2 n x1 x2 x3 x4 x5 s = some r → Ev l d mi_X10_areMen 79 [some (.ref 65), some (.int x1), some (.int x2), some (.int x3), some (.int x4), some (.int x5)] [] (hp s) 0 0 (some (.int r.1), hp r.2) := by
  intro n
  induction n with
  | zero =>
    intro x1 x2 x3 x4 x5 s r hf
    cases hf
  | succ n ih =>
    intro x1 x2 x3 x4 x5 s r hf
    unfold f_X10_areMen_L79 at hf
    refine Ev.blk (pc' := 82) [(.iload 5, 0, 0, 0), (.iload_n 2, 0, 0, 0)] (by decide +kernel) trivial rfl (?_)
    show Ev l d mi_X10_areMen 82 [some (.ref 65), some (.int x1), some (.int x2), some (.int x3), some (.int x4), some (.int x5)] [.int x2, .int x5] (hp s) 0 0 _
    refine Ev.icmp_ge (off := 44) (tgt := 126) (by decide +kernel) (by decide) (fun b12 => ?_) (fun b12 => ?_)
    · have hf := (if_pos b12).symm.trans hf
      refine Ev.blk (pc' := 129) [(.iinc 2 1, 0, 0, 0)] (by decide +kernel) trivial rfl (And.intro (Nat.le_of_ble_eq_true rfl) (?_))
      show Ev l d mi_X10_areMen 129 [some (.ref 65), some (.int x1), some (.int (x2 + Int32.ofInt 1)), some (.int x3), some (.int x4), some (.int x5)] [] (hp s) 0 0 _
      refine Ev.goto (off := -127) (tgt := 2) (by decide +kernel) (by decide) ?_
      exact Ev.wk (hk2 x1 (x2 + Int32.ofInt 1) s _ hf) (And.intro (Or.inr rfl) (And.intro (Or.inr rfl) (And.intro (Or.inr rfl) (And.intro (Or.inl rfl) (And.intro (Or.inl rfl) (And.intro (Or.inl rfl) (trivial)))))))
    · have hf := (if_neg b12).symm.trans hf
      obtain ⟨c13, hf⟩ := gd_some hf
      refine Ev.blk (pc' := 97) [(.aload_n 0, 0, 0, 0), (.getfield 7, 0, 10, 0), (.iload_n 1, 0, 0, 0), (.iconst 2, 0, 0, 0), (.iload 5, 0, 0, 0), (.imul, 0, 0, 0), (.iadd, 0, 0, 0), (.iaload, 0, 0, 0), (.iload_n 3, 0, 0, 0)] (by decide +kernel) ⟨kf_10_7, trivial⟩ rfl (And.intro (kc rfl rfl) (Exists.intro 66 (And.intro rfl (And.intro (kc rfl rfl) (And.intro (ib_ok c13) (?_))))))
      show Ev l d mi_X10_areMen 97 [some (.ref 65), some (.int x1), some (.int x2), some (.int x3), some (.int x4), some (.int x5)] [.int x3, .int (s.1 66 (x1 + ((Int32.ofInt 2) * x5)).toNatClampNeg)] (hp s) 0 0 _
      refine Ev.icmp_ne (off := 23) (tgt := 120) (by decide +kernel) (by decide) (fun b14 => ?_) (fun b14 => ?_)
      · have hf := (if_neg b14).symm.trans hf
        refine Ev.blk (pc' := 123) [(.iinc 5 1, 0, 0, 0)] (by decide +kernel) trivial rfl (And.intro (Nat.le_of_ble_eq_true rfl) (?_))
        show Ev l d mi_X10_areMen 123 [some (.ref 65), some (.int x1), some (.int x2), some (.int x3), some (.int x4), some (.int (x5 + Int32.ofInt 1))] [] (hp s) 0 0 _
        refine Ev.goto (off := -44) (tgt := 79) (by decide +kernel) (by decide) ?_
        exact ih x1 x2 x3 x4 (x5 + Int32.ofInt 1) s _ hf
      · have hf := (if_pos b14).symm.trans hf
        obtain ⟨c15, hf⟩ := gd_some hf
        obtain ⟨v16, hv16, hf⟩ := lt_some hf
        refine Ev.blk (pc' := 115) [(.aload_n 0, 0, 0, 0), (.getfield 7, 0, 10, 0), (.iload_n 1, 0, 0, 0), (.iconst 2, 0, 0, 0), (.iload 5, 0, 0, 0), (.imul, 0, 0, 0), (.iadd, 0, 0, 0), (.iconst 1, 0, 0, 0), (.iadd, 0, 0, 0), (.iaload, 0, 0, 0), (.iload 4, 0, 0, 0)] (by decide +kernel) ⟨kf_10_7, trivial⟩ rfl (And.intro (kc rfl rfl) (Exists.intro 66 (And.intro rfl (And.intro (kc rfl rfl) (And.intro (ib_ok c15) (?_))))))
        show Ev l d mi_X10_areMen 115 [some (.ref 65), some (.int x1), some (.int x2), some (.int x3), some (.int x4), some (.int x5)] [.int x4, .int (s.1 66 ((x1 + ((Int32.ofInt 2) * x5)) + (Int32.ofInt 1)).toNatClampNeg)] (hp s) 0 0 _
        rw [← hv16]
        refine Ev.icmp_ne (off := 5) (tgt := 120) (by decide +kernel) (by decide) (fun b17 => ?_) (fun b17 => ?_)
        · have hf := (if_neg b17).symm.trans hf
          refine Ev.blk (pc' := 123) [(.iinc 5 1, 0, 0, 0)] (by decide +kernel) trivial rfl (And.intro (Nat.le_of_ble_eq_true rfl) (?_))
          show Ev l d mi_X10_areMen 123 [some (.ref 65), some (.int x1), some (.int x2), some (.int x3), some (.int x4), some (.int (x5 + Int32.ofInt 1))] [] (hp s) 0 0 _
          refine Ev.goto (off := -44) (tgt := 79) (by decide +kernel) (by decide) ?_
          exact ih x1 x2 x3 x4 (x5 + Int32.ofInt 1) s _ hf
        · have hf := (if_pos b17).symm.trans hf
          refine Ev.blk (pc' := 119) [(.iconst 0, 0, 0, 0)] (by decide +kernel) trivial rfl (?_)
          show Ev l d mi_X10_areMen 119 [some (.ref 65), some (.int x1), some (.int x2), some (.int x3), some (.int x4), some (.int x5)] [.int (Int32.ofInt 0)] (hp s) 0 0 _
          cases hf
          exact Ev.iret .boolean rfl rfl (by decide +kernel) (Nat.le_refl _) (Nat.le_refl _)
def f_X10_areMen_j53 (k2 : Int32 → Int32 → ST → Option (Int32 × ST)) (x1 : Int32) (x2 : Int32) (x3 : Int32) (x4 : Int32) (s : ST) : Option (Int32 × ST) := gd (ib (Int32.ofInt 4) 8) ((if (s.1 103 (Int32.ofInt 4).toNatClampNeg) ≤ x3 then some ((Int32.ofInt 0), s) else gd (ib (Int32.ofInt 5) 8) ((if x4 < (s.1 103 (Int32.ofInt 5).toNatClampNeg) then (f_X10_areMen_L79 k2 fuel) x1 x2 x3 x4 (Int32.ofInt 0) s else some ((Int32.ofInt 0), s)))))
set_option maxHeartbeats 2000000 in
set_option maxRecDepth 20000 in
theorem e_X10_areMen_j53 {l : Launch} {d : Nat} (hd : 2 ≤ d) (k2 : Int32 → Int32 → ST → Option (Int32 × ST)) (hk2 : ∀ (x1 : Int32) (x2 : Int32) (s : ST) (r : Int32 × ST), k2 x1 x2 s = some r → Ev l d mi_X10_areMen 2 [some (.ref 65), some (.int x1), some (.int x2), none, none, none] [] (hp s) 0 0 (some (.int r.1), hp r.2)) (x1 : Int32) (x2 : Int32) (x3 : Int32) (x4 : Int32) (s : ST) (r : Int32 × ST) (hf : f_X10_areMen_j53 k2 x1 x2 x3 x4 s = some r) : Ev l d mi_X10_areMen 53 [some (.ref 65), some (.int x1), some (.int x2), some (.int x3), some (.int x4), none] [] (hp s) 0 0 (some (.int r.1), hp r.2) := by
  unfold f_X10_areMen_j53 at hf
  obtain ⟨c8, hf⟩ := gd_some hf
  refine Ev.blk (pc' := 60) [(.iload_n 3, 0, 0, 0), (.aload_n 0, 0, 0, 0), (.getfield 127, 0, 10, 47), (.iconst 4, 0, 0, 0), (.iaload, 0, 0, 0)] (by decide +kernel) ⟨kf_10_127, trivial⟩ rfl (And.intro (kc rfl rfl) (Exists.intro 103 (And.intro rfl (And.intro (kc rfl rfl) (And.intro (ib_ok c8) (?_))))))
  show Ev l d mi_X10_areMen 60 [some (.ref 65), some (.int x1), some (.int x2), some (.int x3), some (.int x4), none] [.int (s.1 103 (Int32.ofInt 4).toNatClampNeg), .int x3] (hp s) 0 0 _
  refine Ev.icmp_ge (off := 14) (tgt := 74) (by decide +kernel) (by decide) (fun b9 => ?_) (fun b9 => ?_)
  · have hf := (if_pos b9).symm.trans hf
    refine Ev.blk (pc' := 75) [(.iconst 0, 0, 0, 0)] (by decide +kernel) trivial rfl (?_)
    show Ev l d mi_X10_areMen 75 [some (.ref 65), some (.int x1), some (.int x2), some (.int x3), some (.int x4), none] [.int (Int32.ofInt 0)] (hp s) 0 0 _
    cases hf
    exact Ev.iret .boolean rfl rfl (by decide +kernel) (Nat.le_refl _) (Nat.le_refl _)
  · have hf := (if_neg b9).symm.trans hf
    obtain ⟨c10, hf⟩ := gd_some hf
    refine Ev.blk (pc' := 71) [(.iload 4, 0, 0, 0), (.aload_n 0, 0, 0, 0), (.getfield 127, 0, 10, 47), (.iconst 5, 0, 0, 0), (.iaload, 0, 0, 0)] (by decide +kernel) ⟨kf_10_127, trivial⟩ rfl (And.intro (kc rfl rfl) (Exists.intro 103 (And.intro rfl (And.intro (kc rfl rfl) (And.intro (ib_ok c10) (?_))))))
    show Ev l d mi_X10_areMen 71 [some (.ref 65), some (.int x1), some (.int x2), some (.int x3), some (.int x4), none] [.int (s.1 103 (Int32.ofInt 5).toNatClampNeg), .int x4] (hp s) 0 0 _
    refine Ev.icmp_lt (off := 5) (tgt := 76) (by decide +kernel) (by decide) (fun b11 => ?_) (fun b11 => ?_)
    · have hf := (if_pos b11).symm.trans hf
      refine Ev.blk (pc' := 79) [(.iconst 0, 0, 0, 0), (.istore 5, 0, 0, 0)] (by decide +kernel) trivial rfl (And.intro (Nat.le_of_ble_eq_true rfl) (?_))
      show Ev l d mi_X10_areMen 79 [some (.ref 65), some (.int x1), some (.int x2), some (.int x3), some (.int x4), some (.int (Int32.ofInt 0))] [] (hp s) 0 0 _
      exact (e_X10_areMen_L79 hd k2 hk2 fuel) x1 x2 x3 x4 (Int32.ofInt 0) s _ hf
    · have hf := (if_neg b11).symm.trans hf
      refine Ev.blk (pc' := 75) [(.iconst 0, 0, 0, 0)] (by decide +kernel) trivial rfl (?_)
      show Ev l d mi_X10_areMen 75 [some (.ref 65), some (.int x1), some (.int x2), some (.int x3), some (.int x4), none] [.int (Int32.ofInt 0)] (hp s) 0 0 _
      cases hf
      exact Ev.iret .boolean rfl rfl (by decide +kernel) (Nat.le_refl _) (Nat.le_refl _)
def f_X10_areMen_L2 : Nat → Int32 → Int32 → ST → Option (Int32 × ST)
  | 0, _, _, _ => none
  | n + 1, x1, x2, s => (f_X10_manMany s).bind (fun q1 => (if q1.1 ≤ x2 then some ((Int32.ofInt 1), q1.2) else gd (ib (x1 + ((Int32.ofInt 2) * x2)) 1600) (gd (ib ((x1 + ((Int32.ofInt 2) * x2)) + (Int32.ofInt 1)) 1600) (lt (q1.2.1 66 ((x1 + ((Int32.ofInt 2) * x2)) + (Int32.ofInt 1)).toNatClampNeg) (fun v5 => (if (q1.2.1 66 (x1 + ((Int32.ofInt 2) * x2)).toNatClampNeg) = ((Int16.ofInt 255).toInt32) then (if v5 = ((Int16.ofInt 255).toInt32) then (f_X10_areMen_L2 n) x1 (x2 + Int32.ofInt 1) q1.2 else (f_X10_areMen_j53 (f_X10_areMen_L2 n)) x1 x2 (q1.2.1 66 (x1 + ((Int32.ofInt 2) * x2)).toNatClampNeg) v5 q1.2) else (f_X10_areMen_j53 (f_X10_areMen_L2 n)) x1 x2 (q1.2.1 66 (x1 + ((Int32.ofInt 2) * x2)).toNatClampNeg) v5 q1.2))))))
set_option maxHeartbeats 2000000 in
set_option maxRecDepth 20000 in
theorem e_X10_areMen_L2 {l : Launch} {d : Nat} (hd : 2 ≤ d) : ∀ (n : Nat) (x1 : Int32) (x2 : Int32) (s : ST) (r : Int32 × ST), f_X10_areMen_L2 n x1 x2 s = some r → Ev l d mi_X10_areMen 2 [some (.ref 65), some (.int x1), some (.int x2), none, none, none] [] (hp s) 0 0 (some (.int r.1), hp r.2) := by
  intro n
  induction n with
  | zero =>
    intro x1 x2 s r hf
    cases hf
  | succ n ih =>
    intro x1 x2 s r hf
    unfold f_X10_areMen_L2 at hf
    refine Ev.blk (pc' := 4) [(.iload_n 2, 0, 0, 0), (.aload_n 0, 0, 0, 0)] (by decide +kernel) trivial rfl (?_)
    show Ev l d mi_X10_areMen 4 [some (.ref 65), some (.int x1), some (.int x2), none, none, none] [.ref 65, .int x2] (hp s) 0 0 _
    obtain ⟨q1, hq1, hf⟩ := bd_some hf
    refine Ev.callV (o := 65) (M' := mi_X10_manMany) (d' := d - 1) (As := []) (rest := [.int x2]) (r' := (some (.int q1.1), hp q1.2)) (e_X10_manMany (d := d - 1) (by omega) s _ hq1) (by omega) wm_X10_manMany wi_X10_manMany wv_X10_manMany km_10_433 (kc rfl rfl) (Nat.le_of_ble_eq_true rfl) rfl rfl rfl (Nat.le_of_ble_eq_true rfl) ⟨Nat.le_of_ble_eq_true rfl, Nat.le_of_ble_eq_true rfl⟩ (by decide +kernel) ?_
    show Ev l d mi_X10_areMen 7 [some (.ref 65), some (.int x1), some (.int x2), none, none, none] [.int q1.1, .int x2] (hp q1.2) 0 0 _
    refine Ev.icmp_ge (off := 125) (tgt := 132) (by decide +kernel) (by decide) (fun b2 => ?_) (fun b2 => ?_)
    · have hf := (if_pos b2).symm.trans hf
      refine Ev.blk (pc' := 133) [(.iconst 1, 0, 0, 0)] (by decide +kernel) trivial rfl (?_)
      show Ev l d mi_X10_areMen 133 [some (.ref 65), some (.int x1), some (.int x2), none, none, none] [.int (Int32.ofInt 1)] (hp q1.2) 0 0 _
      cases hf
      exact Ev.iret .boolean rfl rfl (by decide +kernel) (Nat.le_refl _) (Nat.le_refl _)
    · have hf := (if_neg b2).symm.trans hf
      obtain ⟨c3, hf⟩ := gd_some hf
      obtain ⟨c4, hf⟩ := gd_some hf
      obtain ⟨v5, hv5, hf⟩ := lt_some hf
      refine Ev.blk (pc' := 39) [(.aload_n 0, 0, 0, 0), (.getfield 7, 0, 10, 0), (.iload_n 1, 0, 0, 0), (.iconst 2, 0, 0, 0), (.iload_n 2, 0, 0, 0), (.imul, 0, 0, 0), (.iadd, 0, 0, 0), (.iaload, 0, 0, 0), (.istore_n 3, 0, 0, 0), (.aload_n 0, 0, 0, 0), (.getfield 7, 0, 10, 0), (.iload_n 1, 0, 0, 0), (.iconst 2, 0, 0, 0), (.iload_n 2, 0, 0, 0), (.imul, 0, 0, 0), (.iadd, 0, 0, 0), (.iconst 1, 0, 0, 0), (.iadd, 0, 0, 0), (.iaload, 0, 0, 0), (.istore 4, 0, 0, 0), (.iload_n 3, 0, 0, 0), (.sipush 255, 0, 0, 0)] (by decide +kernel) ⟨kf_10_7, ⟨kf_10_7, trivial⟩⟩ rfl (And.intro (kc rfl rfl) (Exists.intro 66 (And.intro rfl (And.intro (kc rfl rfl) (And.intro (ib_ok c3) (And.intro (Nat.le_of_ble_eq_true rfl) (And.intro (kc rfl rfl) (Exists.intro 66 (And.intro rfl (And.intro (kc rfl rfl) (And.intro (ib_ok c4) (And.intro (Nat.le_of_ble_eq_true rfl) (?_)))))))))))))
      show Ev l d mi_X10_areMen 39 [some (.ref 65), some (.int x1), some (.int x2), some (.int (q1.2.1 66 (x1 + ((Int32.ofInt 2) * x2)).toNatClampNeg)), some (.int (q1.2.1 66 ((x1 + ((Int32.ofInt 2) * x2)) + (Int32.ofInt 1)).toNatClampNeg)), none] [.int ((Int16.ofInt 255).toInt32), .int (q1.2.1 66 (x1 + ((Int32.ofInt 2) * x2)).toNatClampNeg)] (hp q1.2) 0 0 _
      rw [← hv5]
      refine Ev.icmp_ne (off := 14) (tgt := 53) (by decide +kernel) (by decide) (fun b6 => ?_) (fun b6 => ?_)
      · have hf := (if_neg b6).symm.trans hf
        exact (e_X10_areMen_j53 hd (f_X10_areMen_L2 n) ih) x1 x2 (q1.2.1 66 (x1 + ((Int32.ofInt 2) * x2)).toNatClampNeg) v5 q1.2 _ hf
      · have hf := (if_pos b6).symm.trans hf
        refine Ev.blk (pc' := 47) [(.iload 4, 0, 0, 0), (.sipush 255, 0, 0, 0)] (by decide +kernel) trivial rfl (?_)
        show Ev l d mi_X10_areMen 47 [some (.ref 65), some (.int x1), some (.int x2), some (.int (q1.2.1 66 (x1 + ((Int32.ofInt 2) * x2)).toNatClampNeg)), some (.int v5), none] [.int ((Int16.ofInt 255).toInt32), .int v5] (hp q1.2) 0 0 _
        refine Ev.icmp_ne (off := 6) (tgt := 53) (by decide +kernel) (by decide) (fun b7 => ?_) (fun b7 => ?_)
        · have hf := (if_neg b7).symm.trans hf
          exact (e_X10_areMen_j53 hd (f_X10_areMen_L2 n) ih) x1 x2 (q1.2.1 66 (x1 + ((Int32.ofInt 2) * x2)).toNatClampNeg) v5 q1.2 _ hf
        · have hf := (if_pos b7).symm.trans hf
          refine Ev.goto (off := 76) (tgt := 126) (by decide +kernel) (by decide) ?_
          refine Ev.blk (pc' := 129) [(.iinc 2 1, 0, 0, 0)] (by decide +kernel) trivial rfl (And.intro (Nat.le_of_ble_eq_true rfl) (?_))
          show Ev l d mi_X10_areMen 129 [some (.ref 65), some (.int x1), some (.int (x2 + Int32.ofInt 1)), some (.int (q1.2.1 66 (x1 + ((Int32.ofInt 2) * x2)).toNatClampNeg)), some (.int v5), none] [] (hp q1.2) 0 0 _
          refine Ev.goto (off := -127) (tgt := 2) (by decide +kernel) (by decide) ?_
          exact Ev.wk (ih x1 (x2 + Int32.ofInt 1) q1.2 _ hf) (And.intro (Or.inr rfl) (And.intro (Or.inr rfl) (And.intro (Or.inr rfl) (And.intro (Or.inl rfl) (And.intro (Or.inl rfl) (And.intro (Or.inr rfl) (trivial)))))))
def f_X10_areMen (p0 : Int32) (s : ST) : Option (Int32 × ST) := (f_X10_areMen_L2 fuel) p0 (Int32.ofInt 0) s
set_option maxHeartbeats 2000000 in
set_option maxRecDepth 20000 in
theorem e_X10_areMen {l : Launch} {d : Nat} (hd : 2 ≤ d) (p0 : Int32) (s : ST) (r : Int32 × ST) (hf : f_X10_areMen p0 s = some r) : Cl l d mi_X10_areMen [.ref 65, .int p0] (hp s) (some (.int r.1), hp r.2) := by
  refine Ev.entry (by decide +kernel) rfl rfl ?_
  show Ev l d mi_X10_areMen 0 [some (.ref 65), some (.int p0), none, none, none, none] [] (hp s) 0 0 _
  unfold f_X10_areMen at hf
  refine Ev.blk (pc' := 2) [(.iconst 0, 0, 0, 0), (.istore_n 2, 0, 0, 0)] (by decide +kernel) trivial rfl (And.intro (Nat.le_of_ble_eq_true rfl) (?_))
  show Ev l d mi_X10_areMen 2 [some (.ref 65), some (.int p0), some (.int (Int32.ofInt 0)), none, none, none] [] (hp s) 0 0 _
  exact (e_X10_areMen_L2 hd fuel) p0 (Int32.ofInt 0) s _ hf
def f_X10_reached_j87 (k55 : Int32 → Int32 → Int32 → ST → Option (Int32 × ST)) (x1 : Int32) (x2 : Int32) (x3 : Int32) (y1 : Int32) (y2 : Int32) (s : ST) : Option (Int32 × ST) := gd (ib y1 16) (lt (uI s 121 y1.toNatClampNeg y2) (fun s15 => k55 x1 x2 (x3 + Int32.ofInt 1) s15))
set_option maxHeartbeats 2000000 in
set_option maxRecDepth 20000 in
theorem e_X10_reached_j87 {l : Launch} {d : Nat} (hd : 8 ≤ d) (k55 : Int32 → Int32 → Int32 → ST → Option (Int32 × ST)) (hk55 : ∀ (x1 : Int32) (x2 : Int32) (x3 : Int32) (s : ST) (r : Int32 × ST), k55 x1 x2 x3 s = some r → Ev l d mi_X10_reached 55 [some (.ref 65), some (.int x1), some (.int x2), some (.int x3)] [] (hp s) 0 0 (some (.int r.1), hp r.2)) (x1 : Int32) (x2 : Int32) (x3 : Int32) (y1 : Int32) (y2 : Int32) (s : ST) (r : Int32 × ST) (hf : f_X10_reached_j87 k55 x1 x2 x3 y1 y2 s = some r) : Ev l d mi_X10_reached 87 [some (.ref 65), some (.int x1), some (.int x2), some (.int x3)] [.int y2, .int y1, .ref 121] (hp s) 0 0 (some (.int r.1), hp r.2) := by
  unfold f_X10_reached_j87 at hf
  obtain ⟨c14, hf⟩ := gd_some hf
  obtain ⟨s15, hs15, hf⟩ := lt_some hf
  refine Ev.blk (pc' := 91) [(.iastore, 0, 0, 0), (.iinc 3 1, 0, 0, 0)] (by decide +kernel) trivial rfl (And.intro (kc rfl rfl) (And.intro (ib_ok c14) (And.intro (Nat.le_of_ble_eq_true rfl) (?_))))
  show Ev l d mi_X10_reached 91 [some (.ref 65), some (.int x1), some (.int x2), some (.int (x3 + Int32.ofInt 1))] [] (hp (uI s 121 y1.toNatClampNeg y2)) 0 0 _
  rw [← hs15]
  refine Ev.goto (off := -36) (tgt := 55) (by decide +kernel) (by decide) ?_
  exact hk55 x1 x2 (x3 + Int32.ofInt 1) s15 _ hf
def f_X10_reached_L55 (k94 : Int32 → ST → Option (Int32 × ST)) : Nat → Int32 → Int32 → Int32 → ST → Option (Int32 × ST)
  | 0, _, _, _, _ => none
  | n + 1, x1, x2, x3, s => (if x2 ≤ x3 then k94 x1 s else gd (ib x3 1600) ((if (s.1 66 x3.toNatClampNeg) = ((Int16.ofInt 255).toInt32) then (f_X10_reached_j87 (f_X10_reached_L55 k94 n)) x1 x2 x3 x3 (Int32.ofInt (-1)) s else gd (ib x3 1600) ((f_X10_reached_j87 (f_X10_reached_L55 k94 n)) x1 x2 x3 x3 (s.1 66 x3.toNatClampNeg) s))))
set_option maxHeartbeats 2000000 in
set_option maxRecDepth 20000 in
theorem e_X10_reached_L55 {l : Launch} {d : Nat} (hd : 8 ≤ d) (k94 : Int32 → ST → Option (Int32 × ST)) (hk94 : ∀ (x1 : Int32) (s : ST) (r : Int32 × ST), k94 x1 s = some r → Ev l d mi_X10_reached 94 [some (.ref 65), some (.int x1), none, none] [] (hp s) 0 0 (some (.int r.1), hp r.2)) : ∀ (n : Nat) (x1 : Int32) (x2 : Int32) (x3 : Int32) (s : ST) (r : Int32 × ST), f_X10_reached_L55 k94 n x1 x2 x3 s = some r → Ev l d mi_X10_reached 55 [some (.ref 65), some (.int x1), some (.int x2), some (.int x3)] [] (hp s) 0 0 (some (.int r.1), hp r.2) := by
  intro n
  induction n with
  | zero =>
    intro x1 x2 x3 s r hf
    cases hf
  | succ n ih =>
    intro x1 x2 x3 s r hf
    unfold f_X10_reached_L55 at hf
    refine Ev.blk (pc' := 57) [(.iload_n 3, 0, 0, 0), (.iload_n 2, 0, 0, 0)] (by decide +kernel) trivial rfl (?_)
    show Ev l d mi_X10_reached 57 [some (.ref 65), some (.int x1), some (.int x2), some (.int x3)] [.int x2, .int x3] (hp s) 0 0 _
    refine Ev.icmp_ge (off := 37) (tgt := 94) (by decide +kernel) (by decide) (fun b10 => ?_) (fun b10 => ?_)
    · have hf := (if_pos b10).symm.trans hf
      exact Ev.wk (hk94 x1 s _ hf) (And.intro (Or.inr rfl) (And.intro (Or.inr rfl) (And.intro (Or.inl rfl) (And.intro (Or.inl rfl) (trivial)))))
    · have hf := (if_neg b10).symm.trans hf
      obtain ⟨c11, hf⟩ := gd_some hf
      refine Ev.blk (pc' := 74) [(.aload_n 0, 0, 0, 0), (.getfield 184, 0, 10, 82), (.iload_n 3, 0, 0, 0), (.aload_n 0, 0, 0, 0), (.getfield 7, 0, 10, 0), (.iload_n 3, 0, 0, 0), (.iaload, 0, 0, 0), (.sipush 255, 0, 0, 0)] (by decide +kernel) ⟨kf_10_184, ⟨kf_10_7, trivial⟩⟩ rfl (And.intro (kc rfl rfl) (Exists.intro 121 (And.intro rfl (And.intro (kc rfl rfl) (Exists.intro 66 (And.intro rfl (And.intro (kc rfl rfl) (And.intro (ib_ok c11) (?_)))))))))
      show Ev l d mi_X10_reached 74 [some (.ref 65), some (.int x1), some (.int x2), some (.int x3)] [.int ((Int16.ofInt 255).toInt32), .int (s.1 66 x3.toNatClampNeg), .int x3, .ref 121] (hp s) 0 0 _
      refine Ev.icmp_ne (off := 7) (tgt := 81) (by decide +kernel) (by decide) (fun b12 => ?_) (fun b12 => ?_)
      · have hf := (if_neg b12).symm.trans hf
        obtain ⟨c13, hf⟩ := gd_some hf
        refine Ev.blk (pc' := 87) [(.aload_n 0, 0, 0, 0), (.getfield 7, 0, 10, 0), (.iload_n 3, 0, 0, 0), (.iaload, 0, 0, 0)] (by decide +kernel) ⟨kf_10_7, trivial⟩ rfl (And.intro (kc rfl rfl) (Exists.intro 66 (And.intro rfl (And.intro (kc rfl rfl) (And.intro (ib_ok c13) (?_))))))
        show Ev l d mi_X10_reached 87 [some (.ref 65), some (.int x1), some (.int x2), some (.int x3)] [.int (s.1 66 x3.toNatClampNeg), .int x3, .ref 121] (hp s) 0 0 _
        exact (e_X10_reached_j87 hd (f_X10_reached_L55 k94 n) ih) x1 x2 x3 x3 (s.1 66 x3.toNatClampNeg) s _ hf
      · have hf := (if_pos b12).symm.trans hf
        refine Ev.blk (pc' := 78) [(.iconst (-1), 0, 0, 0)] (by decide +kernel) trivial rfl (?_)
        show Ev l d mi_X10_reached 78 [some (.ref 65), some (.int x1), some (.int x2), some (.int x3)] [.int (Int32.ofInt (-1)), .int x3, .ref 121] (hp s) 0 0 _
        refine Ev.goto (off := 9) (tgt := 87) (by decide +kernel) (by decide) ?_
        exact (e_X10_reached_j87 hd (f_X10_reached_L55 k94 n) ih) x1 x2 x3 x3 (Int32.ofInt (-1)) s _ hf
def f_X10_reached_j94 (x1 : Int32) (s : ST) : Option (Int32 × ST) := (if x1 = 0 then (f_X10_ways0 s).bind (fun q22 => some (q22.1, q22.2)) else (if x1 = (Int32.ofInt 1) then (f_X10_ways1 s).bind (fun q21 => some (q21.1, q21.2)) else (if x1 = (Int32.ofInt 2) then (f_X10_ways2 s).bind (fun q20 => some (q20.1, q20.2)) else (f_X10_ways3 s).bind (fun q19 => some (q19.1, q19.2)))))
set_option maxHeartbeats 2000000 in
set_option maxRecDepth 20000 in
theorem e_X10_reached_j94 {l : Launch} {d : Nat} (hd : 8 ≤ d) (x1 : Int32) (s : ST) (r : Int32 × ST) (hf : f_X10_reached_j94 x1 s = some r) : Ev l d mi_X10_reached 94 [some (.ref 65), some (.int x1), none, none] [] (hp s) 0 0 (some (.int r.1), hp r.2) := by
  unfold f_X10_reached_j94 at hf
  refine Ev.blk (pc' := 95) [(.iload_n 1, 0, 0, 0)] (by decide +kernel) trivial rfl (?_)
  show Ev l d mi_X10_reached 95 [some (.ref 65), some (.int x1), none, none] [.int x1] (hp s) 0 0 _
  refine Ev.if_ne (off := 10) (tgt := 105) (by decide +kernel) (by decide) (fun b16 => ?_) (fun b16 => ?_)
  · have hf := (if_neg b16).symm.trans hf
    refine Ev.blk (pc' := 107) [(.iload_n 1, 0, 0, 0), (.iconst 1, 0, 0, 0)] (by decide +kernel) trivial rfl (?_)
    show Ev l d mi_X10_reached 107 [some (.ref 65), some (.int x1), none, none] [.int (Int32.ofInt 1), .int x1] (hp s) 0 0 _
    refine Ev.icmp_ne (off := 10) (tgt := 117) (by decide +kernel) (by decide) (fun b17 => ?_) (fun b17 => ?_)
    · have hf := (if_neg b17).symm.trans hf
      refine Ev.blk (pc' := 119) [(.iload_n 1, 0, 0, 0), (.iconst 2, 0, 0, 0)] (by decide +kernel) trivial rfl (?_)
      show Ev l d mi_X10_reached 119 [some (.ref 65), some (.int x1), none, none] [.int (Int32.ofInt 2), .int x1] (hp s) 0 0 _
      refine Ev.icmp_ne (off := 10) (tgt := 129) (by decide +kernel) (by decide) (fun b18 => ?_) (fun b18 => ?_)
      · have hf := (if_neg b18).symm.trans hf
        refine Ev.blk (pc' := 130) [(.aload_n 0, 0, 0, 0)] (by decide +kernel) trivial rfl (?_)
        show Ev l d mi_X10_reached 130 [some (.ref 65), some (.int x1), none, none] [.ref 65] (hp s) 0 0 _
        obtain ⟨q19, hq19, hf⟩ := bd_some hf
        refine Ev.callV (o := 65) (M' := mi_X10_ways3) (d' := d - 1) (As := []) (rest := []) (r' := (some (.int q19.1), hp q19.2)) (e_X10_ways3 (d := d - 1) (by omega) s _ hq19) (by omega) wm_X10_ways3 wi_X10_ways3 wv_X10_ways3 km_10_657 (kc rfl rfl) (Nat.le_of_ble_eq_true rfl) rfl rfl rfl (Nat.le_of_ble_eq_true rfl) ⟨Nat.le_of_ble_eq_true rfl, Nat.le_of_ble_eq_true rfl⟩ (by decide +kernel) ?_
        show Ev l d mi_X10_reached 133 [some (.ref 65), some (.int x1), none, none] [.int q19.1] (hp q19.2) 0 0 _
        cases hf
        exact Ev.iret .int rfl rfl (by decide +kernel) (Nat.le_refl _) (Nat.le_refl _)
      · have hf := (if_pos b18).symm.trans hf
        refine Ev.blk (pc' := 123) [(.aload_n 0, 0, 0, 0)] (by decide +kernel) trivial rfl (?_)
        show Ev l d mi_X10_reached 123 [some (.ref 65), some (.int x1), none, none] [.ref 65] (hp s) 0 0 _
        obtain ⟨q20, hq20, hf⟩ := bd_some hf
        refine Ev.callV (o := 65) (M' := mi_X10_ways2) (d' := d - 1) (As := []) (rest := []) (r' := (some (.int q20.1), hp q20.2)) (e_X10_ways2 (d := d - 1) (by omega) s _ hq20) (by omega) wm_X10_ways2 wi_X10_ways2 wv_X10_ways2 km_10_651 (kc rfl rfl) (Nat.le_of_ble_eq_true rfl) rfl rfl rfl (Nat.le_of_ble_eq_true rfl) ⟨Nat.le_of_ble_eq_true rfl, Nat.le_of_ble_eq_true rfl⟩ (by decide +kernel) ?_
        show Ev l d mi_X10_reached 126 [some (.ref 65), some (.int x1), none, none] [.int q20.1] (hp q20.2) 0 0 _
        refine Ev.goto (off := 7) (tgt := 133) (by decide +kernel) (by decide) ?_
        cases hf
        exact Ev.iret .int rfl rfl (by decide +kernel) (Nat.le_refl _) (Nat.le_refl _)
    · have hf := (if_pos b17).symm.trans hf
      refine Ev.blk (pc' := 111) [(.aload_n 0, 0, 0, 0)] (by decide +kernel) trivial rfl (?_)
      show Ev l d mi_X10_reached 111 [some (.ref 65), some (.int x1), none, none] [.ref 65] (hp s) 0 0 _
      obtain ⟨q21, hq21, hf⟩ := bd_some hf
      refine Ev.callV (o := 65) (M' := mi_X10_ways1) (d' := d - 1) (As := []) (rest := []) (r' := (some (.int q21.1), hp q21.2)) (e_X10_ways1 (d := d - 1) (by omega) s _ hq21) (by omega) wm_X10_ways1 wi_X10_ways1 wv_X10_ways1 km_10_648 (kc rfl rfl) (Nat.le_of_ble_eq_true rfl) rfl rfl rfl (Nat.le_of_ble_eq_true rfl) ⟨Nat.le_of_ble_eq_true rfl, Nat.le_of_ble_eq_true rfl⟩ (by decide +kernel) ?_
      show Ev l d mi_X10_reached 114 [some (.ref 65), some (.int x1), none, none] [.int q21.1] (hp q21.2) 0 0 _
      refine Ev.goto (off := 19) (tgt := 133) (by decide +kernel) (by decide) ?_
      cases hf
      exact Ev.iret .int rfl rfl (by decide +kernel) (Nat.le_refl _) (Nat.le_refl _)
  · have hf := (if_pos b16).symm.trans hf
    refine Ev.blk (pc' := 99) [(.aload_n 0, 0, 0, 0)] (by decide +kernel) trivial rfl (?_)
    show Ev l d mi_X10_reached 99 [some (.ref 65), some (.int x1), none, none] [.ref 65] (hp s) 0 0 _
    obtain ⟨q22, hq22, hf⟩ := bd_some hf
    refine Ev.callV (o := 65) (M' := mi_X10_ways0) (d' := d - 1) (As := []) (rest := []) (r' := (some (.int q22.1), hp q22.2)) (e_X10_ways0 (d := d - 1) (by omega) s _ hq22) (by omega) wm_X10_ways0 wi_X10_ways0 wv_X10_ways0 km_10_645 (kc rfl rfl) (Nat.le_of_ble_eq_true rfl) rfl rfl rfl (Nat.le_of_ble_eq_true rfl) ⟨Nat.le_of_ble_eq_true rfl, Nat.le_of_ble_eq_true rfl⟩ (by decide +kernel) ?_
    show Ev l d mi_X10_reached 102 [some (.ref 65), some (.int x1), none, none] [.int q22.1] (hp q22.2) 0 0 _
    refine Ev.goto (off := 31) (tgt := 133) (by decide +kernel) (by decide) ?_
    cases hf
    exact Ev.iret .int rfl rfl (by decide +kernel) (Nat.le_refl _) (Nat.le_refl _)
def f_X10_reached_j47 (s : ST) : Option (Int32 × ST) := (f_X10_refuses (Int32.ofInt 1) s).bind (fun q9 => some (q9.1, q9.2))
set_option maxHeartbeats 2000000 in
set_option maxRecDepth 20000 in
theorem e_X10_reached_j47 {l : Launch} {d : Nat} (hd : 8 ≤ d) (s : ST) (r : Int32 × ST) (hf : f_X10_reached_j47 s = some r) : Ev l d mi_X10_reached 47 [some (.ref 65), none, none, none] [] (hp s) 0 0 (some (.int r.1), hp r.2) := by
  unfold f_X10_reached_j47 at hf
  refine Ev.blk (pc' := 49) [(.aload_n 0, 0, 0, 0), (.iconst 1, 0, 0, 0)] (by decide +kernel) trivial rfl (?_)
  show Ev l d mi_X10_reached 49 [some (.ref 65), none, none, none] [.int (Int32.ofInt 1), .ref 65] (hp s) 0 0 _
  obtain ⟨q9, hq9, hf⟩ := bd_some hf
  refine Ev.callV (o := 65) (M' := mi_X10_refuses) (d' := d - 1) (As := [.int (Int32.ofInt 1)]) (rest := []) (r' := (some (.int q9.1), hp q9.2)) (e_X10_refuses (d := d - 1) (by omega) (Int32.ofInt 1) s _ hq9) (by omega) wm_X10_refuses wi_X10_refuses wv_X10_refuses km_10_639 (kc rfl rfl) (Nat.le_of_ble_eq_true rfl) rfl rfl rfl (Nat.le_of_ble_eq_true rfl) ⟨Nat.le_of_ble_eq_true rfl, Nat.le_of_ble_eq_true rfl⟩ (by decide +kernel) ?_
  show Ev l d mi_X10_reached 52 [some (.ref 65), none, none, none] [.int q9.1] (hp q9.2) 0 0 _
  cases hf
  exact Ev.iret .int rfl rfl (by decide +kernel) (Nat.le_refl _) (Nat.le_refl _)
def f_X10_reached (p0 : Int32) (s : ST) : Option (Int32 × ST) := lt (uI s 65 1 (Int32.ofInt 0)) (fun s1 => (if (s1.1 65 58) = 0 then f_X10_reached_j47 s1 else (f_X10_isIn ((p0).toInt64) (Int64.ofNat ((0 : Fin 2) : Nat)) (Int64.ofInt 3) s1).bind (fun q3 => (if q3.1 = 0 then f_X10_reached_j47 q3.2 else (f_X10_manMany q3.2).bind (fun q5 => (if (s.1 65 1) = ((Int32.ofInt 2) * q5.1) then (f_X10_areMen (Int32.ofInt 0) q5.2).bind (fun q7 => (if q7.1 = 0 then f_X10_reached_j47 q7.2 else (f_X10_reached_L55 f_X10_reached_j94 fuel) p0 (s.1 65 1) (Int32.ofInt 0) q7.2)) else f_X10_reached_j47 q5.2))))))
set_option maxHeartbeats 2000000 in
set_option maxRecDepth 20000 in
theorem e_X10_reached {l : Launch} {d : Nat} (hd : 8 ≤ d) (p0 : Int32) (s : ST) (r : Int32 × ST) (hf : f_X10_reached p0 s = some r) : Cl l d mi_X10_reached [.ref 65, .int p0] (hp s) (some (.int r.1), hp r.2) := by
  refine Ev.entry (by decide +kernel) rfl rfl ?_
  show Ev l d mi_X10_reached 0 [some (.ref 65), some (.int p0), none, none] [] (hp s) 0 0 _
  unfold f_X10_reached at hf
  obtain ⟨s1, hs1, hf⟩ := lt_some hf
  refine Ev.blk (pc' := 14) [(.aload_n 0, 0, 0, 0), (.getfield 275, 0, 10, 1), (.istore_n 2, 0, 0, 0), (.aload_n 0, 0, 0, 0), (.iconst 0, 0, 0, 0), (.putfield 275, 0, 10, 1), (.aload_n 0, 0, 0, 0), (.getfield 424, 0, 10, 58)] (by decide +kernel) ⟨kf_10_275, ⟨⟨kf_10_275, Or.inl rfl⟩, ⟨kf_10_424, trivial⟩⟩⟩ rfl (And.intro (kc rfl rfl) (And.intro (Nat.le_of_ble_eq_true rfl) (And.intro (kc rfl rfl) (And.intro (kc rfl rfl) (?_)))))
  show Ev l d mi_X10_reached 14 [some (.ref 65), some (.int p0), some (.int (s.1 65 1)), none] [.int ((uI s 65 1 (Int32.ofInt 0)).1 65 58)] (hp (uI s 65 1 (Int32.ofInt 0))) 0 0 _
  rw [← hs1]
  refine Ev.if_eq (off := 33) (tgt := 47) (by decide +kernel) (by decide) (fun b2 => ?_) (fun b2 => ?_)
  · have hf := (if_pos b2).symm.trans hf
    exact Ev.wk ((e_X10_reached_j47 hd) s1 _ hf) (And.intro (Or.inr rfl) (And.intro (Or.inl rfl) (And.intro (Or.inl rfl) (And.intro (Or.inr rfl) (trivial)))))
  · have hf := (if_neg b2).symm.trans hf
    refine Ev.blk (pc' := 23) [(.iload_n 1, 0, 0, 0), (.i2l, 0, 0, 0), (.lconst 0, 0, 0, 0), (.ldc2_w 597, 3, 0, 0)] (by decide +kernel) ⟨kl_10_597, trivial⟩ rfl (?_)
    show Ev l d mi_X10_reached 23 [some (.ref 65), some (.int p0), some (.int (s.1 65 1)), none] [.long (Int64.ofInt 3), .long (Int64.ofNat ((0 : Fin 2) : Nat)), .long (p0).toInt64] (hp s1) 0 0 _
    obtain ⟨q3, hq3, hf⟩ := bd_some hf
    refine Ev.callS (M' := mi_X10_isIn) (d' := d - 1) (As := [.long (p0).toInt64, .long (Int64.ofNat ((0 : Fin 2) : Nat)), .long (Int64.ofInt 3)]) (rest := []) (r' := (some (.int q3.1), hp q3.2)) (e_X10_isIn (d := d - 1) (by omega) ((p0).toInt64) (Int64.ofNat ((0 : Fin 2) : Nat)) (Int64.ofInt 3) s1 _ hq3) (by omega) wm_X10_isIn wt_X10_isIn km_10_321 rfl rfl rfl (Nat.le_of_ble_eq_true rfl) ⟨Nat.le_of_ble_eq_true rfl, Nat.le_of_ble_eq_true rfl⟩ (by decide +kernel) ?_
    show Ev l d mi_X10_reached 26 [some (.ref 65), some (.int p0), some (.int (s.1 65 1)), none] [.int q3.1] (hp q3.2) 0 0 _
    refine Ev.if_eq (off := 21) (tgt := 47) (by decide +kernel) (by decide) (fun b4 => ?_) (fun b4 => ?_)
    · have hf := (if_pos b4).symm.trans hf
      exact Ev.wk ((e_X10_reached_j47 hd) q3.2 _ hf) (And.intro (Or.inr rfl) (And.intro (Or.inl rfl) (And.intro (Or.inl rfl) (And.intro (Or.inr rfl) (trivial)))))
    · have hf := (if_neg b4).symm.trans hf
      refine Ev.blk (pc' := 32) [(.iload_n 2, 0, 0, 0), (.iconst 2, 0, 0, 0), (.aload_n 0, 0, 0, 0)] (by decide +kernel) trivial rfl (?_)
      show Ev l d mi_X10_reached 32 [some (.ref 65), some (.int p0), some (.int (s.1 65 1)), none] [.ref 65, .int (Int32.ofInt 2), .int (s.1 65 1)] (hp q3.2) 0 0 _
      obtain ⟨q5, hq5, hf⟩ := bd_some hf
      refine Ev.callV (o := 65) (M' := mi_X10_manMany) (d' := d - 1) (As := []) (rest := [.int (Int32.ofInt 2), .int (s.1 65 1)]) (r' := (some (.int q5.1), hp q5.2)) (e_X10_manMany (d := d - 1) (by omega) q3.2 _ hq5) (by omega) wm_X10_manMany wi_X10_manMany wv_X10_manMany km_10_433 (kc rfl rfl) (Nat.le_of_ble_eq_true rfl) rfl rfl rfl (Nat.le_of_ble_eq_true rfl) ⟨Nat.le_of_ble_eq_true rfl, Nat.le_of_ble_eq_true rfl⟩ (by decide +kernel) ?_
      show Ev l d mi_X10_reached 35 [some (.ref 65), some (.int p0), some (.int (s.1 65 1)), none] [.int q5.1, .int (Int32.ofInt 2), .int (s.1 65 1)] (hp q5.2) 0 0 _
      refine Ev.blk (pc' := 36) [(.imul, 0, 0, 0)] (by decide +kernel) trivial rfl (?_)
      show Ev l d mi_X10_reached 36 [some (.ref 65), some (.int p0), some (.int (s.1 65 1)), none] [.int ((Int32.ofInt 2) * q5.1), .int (s.1 65 1)] (hp q5.2) 0 0 _
      refine Ev.icmp_ne (off := 11) (tgt := 47) (by decide +kernel) (by decide) (fun b6 => ?_) (fun b6 => ?_)
      · have hf := (if_neg b6).symm.trans hf
        exact Ev.wk ((e_X10_reached_j47 hd) q5.2 _ hf) (And.intro (Or.inr rfl) (And.intro (Or.inl rfl) (And.intro (Or.inl rfl) (And.intro (Or.inr rfl) (trivial)))))
      · have hf := (if_pos b6).symm.trans hf
        refine Ev.blk (pc' := 41) [(.aload_n 0, 0, 0, 0), (.iconst 0, 0, 0, 0)] (by decide +kernel) trivial rfl (?_)
        show Ev l d mi_X10_reached 41 [some (.ref 65), some (.int p0), some (.int (s.1 65 1)), none] [.int (Int32.ofInt 0), .ref 65] (hp q5.2) 0 0 _
        obtain ⟨q7, hq7, hf⟩ := bd_some hf
        refine Ev.callV (o := 65) (M' := mi_X10_areMen) (d' := d - 1) (As := [.int (Int32.ofInt 0)]) (rest := []) (r' := (some (.int q7.1), hp q7.2)) (e_X10_areMen (d := d - 1) (by omega) (Int32.ofInt 0) q5.2 _ hq7) (by omega) wm_X10_areMen wi_X10_areMen wv_X10_areMen km_10_654 (kc rfl rfl) (Nat.le_of_ble_eq_true rfl) rfl rfl rfl (Nat.le_of_ble_eq_true rfl) ⟨Nat.le_of_ble_eq_true rfl, Nat.le_of_ble_eq_true rfl⟩ (by decide +kernel) ?_
        show Ev l d mi_X10_reached 44 [some (.ref 65), some (.int p0), some (.int (s.1 65 1)), none] [.int q7.1] (hp q7.2) 0 0 _
        refine Ev.if_ne (off := 9) (tgt := 53) (by decide +kernel) (by decide) (fun b8 => ?_) (fun b8 => ?_)
        · have hf := (if_neg b8).symm.trans hf
          refine Ev.blk (pc' := 55) [(.iconst 0, 0, 0, 0), (.istore_n 3, 0, 0, 0)] (by decide +kernel) trivial rfl (And.intro (Nat.le_of_ble_eq_true rfl) (?_))
          show Ev l d mi_X10_reached 55 [some (.ref 65), some (.int p0), some (.int (s.1 65 1)), some (.int (Int32.ofInt 0))] [] (hp q7.2) 0 0 _
          exact (e_X10_reached_L55 hd f_X10_reached_j94 (e_X10_reached_j94 hd) fuel) p0 (s.1 65 1) (Int32.ofInt 0) q7.2 _ hf
        · have hf := (if_pos b8).symm.trans hf
          exact Ev.wk ((e_X10_reached_j47 hd) q7.2 _ hf) (And.intro (Or.inr rfl) (And.intro (Or.inl rfl) (And.intro (Or.inl rfl) (And.intro (Or.inr rfl) (trivial)))))
def f_X10_keeps_L15 (k49 : ST → Option (ST)) : Nat → Int32 → ST → Option (ST)
  | 0, _, _ => none
  | n + 1, x1, s => (if ((Int16.ofInt 225).toInt32) ≤ x1 then k49 s else gd (ib x1 225) (gd (ib ((((Int16.ofInt 225).toInt32) * (s.1 65 85)) + x1) 4500) (lt (uI s 122 ((((Int16.ofInt 225).toInt32) * (s.1 65 85)) + x1).toNatClampNeg (s.1 112 x1.toNatClampNeg)) (fun s5 => (f_X10_keeps_L15 k49 n) (x1 + Int32.ofInt 1) s5))))
set_option maxHeartbeats 2000000 in
set_option maxRecDepth 20000 in
theorem e_X10_keeps_L15 {l : Launch} {d : Nat} (hd : 1 ≤ d) (k49 : ST → Option (ST)) (hk49 : ∀ (s : ST) (r : ST), k49 s = some r → Ev l d mi_X10_keeps 49 [some (.ref 65), none] [] (hp s) 0 0 (none, hp r)) : ∀ (n : Nat) (x1 : Int32) (s : ST) (r : ST), f_X10_keeps_L15 k49 n x1 s = some r → Ev l d mi_X10_keeps 15 [some (.ref 65), some (.int x1)] [] (hp s) 0 0 (none, hp r) := by
  intro n
  induction n with
  | zero =>
    intro x1 s r hf
    cases hf
  | succ n ih =>
    intro x1 s r hf
    unfold f_X10_keeps_L15 at hf
    refine Ev.blk (pc' := 19) [(.iload_n 1, 0, 0, 0), (.sipush 225, 0, 0, 0)] (by decide +kernel) trivial rfl (?_)
    show Ev l d mi_X10_keeps 19 [some (.ref 65), some (.int x1)] [.int ((Int16.ofInt 225).toInt32), .int x1] (hp s) 0 0 _
    refine Ev.icmp_ge (off := 30) (tgt := 49) (by decide +kernel) (by decide) (fun b2 => ?_) (fun b2 => ?_)
    · have hf := (if_pos b2).symm.trans hf
      exact Ev.wk (hk49 s _ hf) (And.intro (Or.inr rfl) (And.intro (Or.inl rfl) (trivial)))
    · have hf := (if_neg b2).symm.trans hf
      obtain ⟨c3, hf⟩ := gd_some hf
      obtain ⟨c4, hf⟩ := gd_some hf
      obtain ⟨s5, hs5, hf⟩ := lt_some hf
      refine Ev.blk (pc' := 46) [(.aload_n 0, 0, 0, 0), (.getfield 187, 0, 10, 83), (.sipush 225, 0, 0, 0), (.aload_n 0, 0, 0, 0), (.getfield 660, 0, 10, 85), (.imul, 0, 0, 0), (.iload_n 1, 0, 0, 0), (.iadd, 0, 0, 0), (.aload_n 0, 0, 0, 0), (.getfield 154, 0, 10, 62), (.iload_n 1, 0, 0, 0), (.iaload, 0, 0, 0), (.iastore, 0, 0, 0), (.iinc 1 1, 0, 0, 0)] (by decide +kernel) ⟨kf_10_187, ⟨kf_10_660, ⟨kf_10_154, trivial⟩⟩⟩ rfl (And.intro (kc rfl rfl) (Exists.intro 122 (And.intro rfl (And.intro (kc rfl rfl) (And.intro (kc rfl rfl) (Exists.intro 112 (And.intro rfl (And.intro (kc rfl rfl) (And.intro (ib_ok c3) (And.intro (kc rfl rfl) (And.intro (ib_ok c4) (And.intro (Nat.le_of_ble_eq_true rfl) (?_)))))))))))))
      show Ev l d mi_X10_keeps 46 [some (.ref 65), some (.int (x1 + Int32.ofInt 1))] [] (hp (uI s 122 ((((Int16.ofInt 225).toInt32) * (s.1 65 85)) + x1).toNatClampNeg (s.1 112 x1.toNatClampNeg))) 0 0 _
      rw [← hs5]
      refine Ev.goto (off := -31) (tgt := 15) (by decide +kernel) (by decide) ?_
      exact ih (x1 + Int32.ofInt 1) s5 _ hf
def f_X10_keeps_j49 (s : ST) : Option (ST) := (if ((Int8.ofInt 20).toInt32) ≤ (s.1 65 84) then some s else lt (uI s 65 84 ((s.1 65 84) + (Int32.ofInt 1))) (fun s7 => some s7))
set_option maxHeartbeats 2000000 in
set_option maxRecDepth 20000 in
theorem e_X10_keeps_j49 {l : Launch} {d : Nat} (hd : 1 ≤ d) (s : ST) (r : ST) (hf : f_X10_keeps_j49 s = some r) : Ev l d mi_X10_keeps 49 [some (.ref 65), none] [] (hp s) 0 0 (none, hp r) := by
  unfold f_X10_keeps_j49 at hf
  refine Ev.blk (pc' := 55) [(.aload_n 0, 0, 0, 0), (.getfield 427, 0, 10, 84), (.bipush 20, 0, 0, 0)] (by decide +kernel) ⟨kf_10_427, trivial⟩ rfl (And.intro (kc rfl rfl) (?_))
  show Ev l d mi_X10_keeps 55 [some (.ref 65), none] [.int ((Int8.ofInt 20).toInt32), .int (s.1 65 84)] (hp s) 0 0 _
  refine Ev.icmp_ge (off := 13) (tgt := 68) (by decide +kernel) (by decide) (fun b6 => ?_) (fun b6 => ?_)
  · have hf := (if_pos b6).symm.trans hf
    cases hf
    exact Ev.vret rfl (by decide +kernel) (Nat.le_refl _) (Nat.le_refl _)
  · have hf := (if_neg b6).symm.trans hf
    obtain ⟨s7, hs7, hf⟩ := lt_some hf
    refine Ev.blk (pc' := 68) [(.aload_n 0, 0, 0, 0), (.dup, 0, 0, 0), (.getfield 427, 0, 10, 84), (.iconst 1, 0, 0, 0), (.iadd, 0, 0, 0), (.putfield 427, 0, 10, 84)] (by decide +kernel) ⟨kf_10_427, ⟨⟨kf_10_427, Or.inl rfl⟩, trivial⟩⟩ rfl (And.intro rfl (And.intro (kc rfl rfl) (And.intro (kc rfl rfl) (?_))))
    show Ev l d mi_X10_keeps 68 [some (.ref 65), none] [] (hp (uI s 65 84 ((s.1 65 84) + (Int32.ofInt 1)))) 0 0 _
    rw [← hs7]
    cases hf
    exact Ev.vret rfl (by decide +kernel) (Nat.le_refl _) (Nat.le_refl _)
def f_X10_keeps (s : ST) : Option (ST) := lt (uI s 65 85 (((s.1 65 85) + (Int32.ofInt 1)) - ((s.1 65 85) + (Int32.ofInt 1)) / ((Int8.ofInt 20).toInt32) * ((Int8.ofInt 20).toInt32))) (fun s1 => (f_X10_keeps_L15 f_X10_keeps_j49 fuel) (Int32.ofInt 0) s1)
set_option maxHeartbeats 2000000 in
set_option maxRecDepth 20000 in
theorem e_X10_keeps {l : Launch} {d : Nat} (hd : 1 ≤ d) (s : ST) (r : ST) (hf : f_X10_keeps s = some r) : Cl l d mi_X10_keeps [.ref 65] (hp s) (none, hp r) := by
  refine Ev.entry (by decide +kernel) rfl rfl ?_
  show Ev l d mi_X10_keeps 0 [some (.ref 65), none] [] (hp s) 0 0 _
  unfold f_X10_keeps at hf
  obtain ⟨s1, hs1, hf⟩ := lt_some hf
  refine Ev.blk (pc' := 15) [(.aload_n 0, 0, 0, 0), (.aload_n 0, 0, 0, 0), (.getfield 660, 0, 10, 85), (.iconst 1, 0, 0, 0), (.iadd, 0, 0, 0), (.bipush 20, 0, 0, 0), (.irem, 0, 0, 0), (.putfield 660, 0, 10, 85), (.iconst 0, 0, 0, 0), (.istore_n 1, 0, 0, 0)] (by decide +kernel) ⟨kf_10_660, ⟨⟨kf_10_660, Or.inl rfl⟩, trivial⟩⟩ rfl (And.intro (kc rfl rfl) (And.intro (by decide) (And.intro (kc rfl rfl) (And.intro (Nat.le_of_ble_eq_true rfl) (?_)))))
  show Ev l d mi_X10_keeps 15 [some (.ref 65), some (.int (Int32.ofInt 0))] [] (hp (uI s 65 85 (((s.1 65 85) + (Int32.ofInt 1)) - ((s.1 65 85) + (Int32.ofInt 1)) / ((Int8.ofInt 20).toInt32) * ((Int8.ofInt 20).toInt32)))) 0 0 _
  rw [← hs1]
  exact (e_X10_keeps_L15 hd f_X10_keeps_j49 (e_X10_keeps_j49 hd) fuel) (Int32.ofInt 0) s1 _ hf
def f_X10_undo_L21 (k55 : ST → Option (Int32 × ST)) : Nat → Int32 → ST → Option (Int32 × ST)
  | 0, _, _ => none
  | n + 1, x1, s => (if ((Int16.ofInt 225).toInt32) ≤ x1 then k55 s else gd (ib ((((Int16.ofInt 225).toInt32) * (s.1 65 85)) + x1) 4500) (gd (ib x1 225) (lt (uI s 112 x1.toNatClampNeg (s.1 122 ((((Int16.ofInt 225).toInt32) * (s.1 65 85)) + x1).toNatClampNeg)) (fun s8 => (f_X10_undo_L21 k55 n) (x1 + Int32.ofInt 1) s8))))
set_option maxHeartbeats 2000000 in
set_option maxRecDepth 20000 in
theorem e_X10_undo_L21 {l : Launch} {d : Nat} (hd : 1 ≤ d) (k55 : ST → Option (Int32 × ST)) (hk55 : ∀ (s : ST) (r : Int32 × ST), k55 s = some r → Ev l d mi_X10_undo 55 [some (.ref 65), none] [] (hp s) 0 0 (some (.int r.1), hp r.2)) : ∀ (n : Nat) (x1 : Int32) (s : ST) (r : Int32 × ST), f_X10_undo_L21 k55 n x1 s = some r → Ev l d mi_X10_undo 21 [some (.ref 65), some (.int x1)] [] (hp s) 0 0 (some (.int r.1), hp r.2) := by
  intro n
  induction n with
  | zero =>
    intro x1 s r hf
    cases hf
  | succ n ih =>
    intro x1 s r hf
    unfold f_X10_undo_L21 at hf
    refine Ev.blk (pc' := 25) [(.iload_n 1, 0, 0, 0), (.sipush 225, 0, 0, 0)] (by decide +kernel) trivial rfl (?_)
    show Ev l d mi_X10_undo 25 [some (.ref 65), some (.int x1)] [.int ((Int16.ofInt 225).toInt32), .int x1] (hp s) 0 0 _
    refine Ev.icmp_ge (off := 30) (tgt := 55) (by decide +kernel) (by decide) (fun b5 => ?_) (fun b5 => ?_)
    · have hf := (if_pos b5).symm.trans hf
      exact Ev.wk (hk55 s _ hf) (And.intro (Or.inr rfl) (And.intro (Or.inl rfl) (trivial)))
    · have hf := (if_neg b5).symm.trans hf
      obtain ⟨c6, hf⟩ := gd_some hf
      obtain ⟨c7, hf⟩ := gd_some hf
      obtain ⟨s8, hs8, hf⟩ := lt_some hf
      refine Ev.blk (pc' := 52) [(.aload_n 0, 0, 0, 0), (.getfield 154, 0, 10, 62), (.iload_n 1, 0, 0, 0), (.aload_n 0, 0, 0, 0), (.getfield 187, 0, 10, 83), (.sipush 225, 0, 0, 0), (.aload_n 0, 0, 0, 0), (.getfield 660, 0, 10, 85), (.imul, 0, 0, 0), (.iload_n 1, 0, 0, 0), (.iadd, 0, 0, 0), (.iaload, 0, 0, 0), (.iastore, 0, 0, 0), (.iinc 1 1, 0, 0, 0)] (by decide +kernel) ⟨kf_10_154, ⟨kf_10_187, ⟨kf_10_660, trivial⟩⟩⟩ rfl (And.intro (kc rfl rfl) (Exists.intro 112 (And.intro rfl (And.intro (kc rfl rfl) (Exists.intro 122 (And.intro rfl (And.intro (kc rfl rfl) (And.intro (kc rfl rfl) (And.intro (ib_ok c6) (And.intro (kc rfl rfl) (And.intro (ib_ok c7) (And.intro (Nat.le_of_ble_eq_true rfl) (?_)))))))))))))
      show Ev l d mi_X10_undo 52 [some (.ref 65), some (.int (x1 + Int32.ofInt 1))] [] (hp (uI s 112 x1.toNatClampNeg (s.1 122 ((((Int16.ofInt 225).toInt32) * (s.1 65 85)) + x1).toNatClampNeg))) 0 0 _
      rw [← hs8]
      refine Ev.goto (off := -31) (tgt := 21) (by decide +kernel) (by decide) ?_
      exact ih (x1 + Int32.ofInt 1) s8 _ hf
def f_X10_undo_j55 (s : ST) : Option (Int32 × ST) := lt (uI (uI s 65 85 ((((s.1 65 85) + ((Int8.ofInt 20).toInt32)) - (Int32.ofInt 1)) - (((s.1 65 85) + ((Int8.ofInt 20).toInt32)) - (Int32.ofInt 1)) / ((Int8.ofInt 20).toInt32) * ((Int8.ofInt 20).toInt32))) 65 84 (((uI s 65 85 ((((s.1 65 85) + ((Int8.ofInt 20).toInt32)) - (Int32.ofInt 1)) - (((s.1 65 85) + ((Int8.ofInt 20).toInt32)) - (Int32.ofInt 1)) / ((Int8.ofInt 20).toInt32) * ((Int8.ofInt 20).toInt32))).1 65 84) - (Int32.ofInt 1))) (fun s9 => some ((Int32.ofInt 1), s9))
set_option maxHeartbeats 2000000 in
set_option maxRecDepth 20000 in
theorem e_X10_undo_j55 {l : Launch} {d : Nat} (hd : 1 ≤ d) (s : ST) (r : Int32 × ST) (hf : f_X10_undo_j55 s = some r) : Ev l d mi_X10_undo 55 [some (.ref 65), none] [] (hp s) 0 0 (some (.int r.1), hp r.2) := by
  unfold f_X10_undo_j55 at hf
  obtain ⟨s9, hs9, hf⟩ := lt_some hf
  refine Ev.blk (pc' := 82) [(.aload_n 0, 0, 0, 0), (.aload_n 0, 0, 0, 0), (.getfield 660, 0, 10, 85), (.bipush 20, 0, 0, 0), (.iadd, 0, 0, 0), (.iconst 1, 0, 0, 0), (.isub, 0, 0, 0), (.bipush 20, 0, 0, 0), (.irem, 0, 0, 0), (.putfield 660, 0, 10, 85), (.aload_n 0, 0, 0, 0), (.dup, 0, 0, 0), (.getfield 427, 0, 10, 84), (.iconst 1, 0, 0, 0), (.isub, 0, 0, 0), (.putfield 427, 0, 10, 84), (.iconst 1, 0, 0, 0)] (by decide +kernel) ⟨kf_10_660, ⟨⟨kf_10_660, Or.inl rfl⟩, ⟨kf_10_427, ⟨⟨kf_10_427, Or.inl rfl⟩, trivial⟩⟩⟩⟩ rfl (And.intro (kc rfl rfl) (And.intro (by decide) (And.intro (kc rfl rfl) (And.intro rfl (And.intro (kc rfl rfl) (And.intro (kc rfl rfl) (?_)))))))
  show Ev l d mi_X10_undo 82 [some (.ref 65), none] [.int (Int32.ofInt 1)] (hp (uI (uI s 65 85 ((((s.1 65 85) + ((Int8.ofInt 20).toInt32)) - (Int32.ofInt 1)) - (((s.1 65 85) + ((Int8.ofInt 20).toInt32)) - (Int32.ofInt 1)) / ((Int8.ofInt 20).toInt32) * ((Int8.ofInt 20).toInt32))) 65 84 (((uI s 65 85 ((((s.1 65 85) + ((Int8.ofInt 20).toInt32)) - (Int32.ofInt 1)) - (((s.1 65 85) + ((Int8.ofInt 20).toInt32)) - (Int32.ofInt 1)) / ((Int8.ofInt 20).toInt32) * ((Int8.ofInt 20).toInt32))).1 65 84) - (Int32.ofInt 1)))) 0 0 _
  rw [← hs9]
  cases hf
  exact Ev.iret .boolean rfl rfl (by decide +kernel) (Nat.le_refl _) (Nat.le_refl _)
def f_X10_undo (s : ST) : Option (Int32 × ST) := (if (s.1 65 84) = 0 then gd (ib (Int32.ofInt 4) 6) (gd (ib (Int32.ofInt 4) 6) (lt (uI s 67 (Int32.ofInt 4).toNatClampNeg ((s.1 67 (Int32.ofInt 4).toNatClampNeg) + (Int32.ofInt 1))) (fun s4 => some ((Int32.ofInt 0), s4)))) else (f_X10_undo_L21 f_X10_undo_j55 fuel) (Int32.ofInt 0) s)
set_option maxHeartbeats 2000000 in
set_option maxRecDepth 20000 in
theorem e_X10_undo {l : Launch} {d : Nat} (hd : 1 ≤ d) (s : ST) (r : Int32 × ST) (hf : f_X10_undo s = some r) : Cl l d mi_X10_undo [.ref 65] (hp s) (some (.int r.1), hp r.2) := by
  refine Ev.entry (by decide +kernel) rfl rfl ?_
  show Ev l d mi_X10_undo 0 [some (.ref 65), none] [] (hp s) 0 0 _
  unfold f_X10_undo at hf
  refine Ev.blk (pc' := 4) [(.aload_n 0, 0, 0, 0), (.getfield 427, 0, 10, 84)] (by decide +kernel) ⟨kf_10_427, trivial⟩ rfl (And.intro (kc rfl rfl) (?_))
  show Ev l d mi_X10_undo 4 [some (.ref 65), none] [.int (s.1 65 84)] (hp s) 0 0 _
  refine Ev.if_ne (off := 15) (tgt := 19) (by decide +kernel) (by decide) (fun b1 => ?_) (fun b1 => ?_)
  · have hf := (if_neg b1).symm.trans hf
    refine Ev.blk (pc' := 21) [(.iconst 0, 0, 0, 0), (.istore_n 1, 0, 0, 0)] (by decide +kernel) trivial rfl (And.intro (Nat.le_of_ble_eq_true rfl) (?_))
    show Ev l d mi_X10_undo 21 [some (.ref 65), some (.int (Int32.ofInt 0))] [] (hp s) 0 0 _
    exact (e_X10_undo_L21 hd f_X10_undo_j55 (e_X10_undo_j55 hd) fuel) (Int32.ofInt 0) s _ hf
  · have hf := (if_pos b1).symm.trans hf
    obtain ⟨c2, hf⟩ := gd_some hf
    obtain ⟨c3, hf⟩ := gd_some hf
    obtain ⟨s4, hs4, hf⟩ := lt_some hf
    refine Ev.blk (pc' := 18) [(.aload_n 0, 0, 0, 0), (.getfield 17, 0, 10, 9), (.iconst 4, 0, 0, 0), (.dup2, 0, 0, 0), (.iaload, 0, 0, 0), (.iconst 1, 0, 0, 0), (.iadd, 0, 0, 0), (.iastore, 0, 0, 0), (.iconst 0, 0, 0, 0)] (by decide +kernel) ⟨kf_10_17, trivial⟩ rfl (And.intro (kc rfl rfl) (Exists.intro 67 (And.intro rfl (And.intro (And.intro rfl rfl) (And.intro (kc rfl rfl) (And.intro (ib_ok c2) (And.intro (kc rfl rfl) (And.intro (ib_ok c3) (?_)))))))))
    show Ev l d mi_X10_undo 18 [some (.ref 65), none] [.int (Int32.ofInt 0)] (hp (uI s 67 (Int32.ofInt 4).toNatClampNeg ((s.1 67 (Int32.ofInt 4).toNatClampNeg) + (Int32.ofInt 1)))) 0 0 _
    rw [← hs4]
    cases hf
    exact Ev.iret .boolean rfl rfl (by decide +kernel) (Nat.le_refl _) (Nat.le_refl _)
def f_X10_play_j25 (s : ST) : Option (Int32 × ST) := (f_X10_refuses (Int32.ofInt 2) s).bind (fun q7 => some (q7.1, q7.2))
set_option maxHeartbeats 2000000 in
set_option maxRecDepth 20000 in
theorem e_X10_play_j25 {l : Launch} {d : Nat} (hd : 8 ≤ d) (s : ST) (r : Int32 × ST) (hf : f_X10_play_j25 s = some r) : Ev l d mi_X10_play 25 [some (.ref 65), none] [] (hp s) 0 0 (some (.int r.1), hp r.2) := by
  unfold f_X10_play_j25 at hf
  refine Ev.blk (pc' := 27) [(.aload_n 0, 0, 0, 0), (.iconst 2, 0, 0, 0)] (by decide +kernel) trivial rfl (?_)
  show Ev l d mi_X10_play 27 [some (.ref 65), none] [.int (Int32.ofInt 2), .ref 65] (hp s) 0 0 _
  obtain ⟨q7, hq7, hf⟩ := bd_some hf
  refine Ev.callV (o := 65) (M' := mi_X10_refuses) (d' := d - 1) (As := [.int (Int32.ofInt 2)]) (rest := []) (r' := (some (.int q7.1), hp q7.2)) (e_X10_refuses (d := d - 1) (by omega) (Int32.ofInt 2) s _ hq7) (by omega) wm_X10_refuses wi_X10_refuses wv_X10_refuses km_10_639 (kc rfl rfl) (Nat.le_of_ble_eq_true rfl) rfl rfl rfl (Nat.le_of_ble_eq_true rfl) ⟨Nat.le_of_ble_eq_true rfl, Nat.le_of_ble_eq_true rfl⟩ (by decide +kernel) ?_
  show Ev l d mi_X10_play 30 [some (.ref 65), none] [.int q7.1] (hp q7.2) 0 0 _
  cases hf
  exact Ev.iret .int rfl rfl (by decide +kernel) (Nat.le_refl _) (Nat.le_refl _)
def f_X10_play (p0 : Int32) (s : ST) : Option (Int32 × ST) := (f_X10_chooses p0 s).bind (fun q1 => (if (q1.1 65 68) = (Int32.ofInt (-1)) then f_X10_play_j25 q1 else gd (ib (Int32.ofInt 0) 225) ((if (q1.1 112 (Int32.ofInt 0).toNatClampNeg) = ((Int16.ofInt 999).toInt32) then f_X10_play_j25 q1 else (f_X10_keeps q1).bind (fun q5 => (f_X10_dayGoes q5).bind (fun q6 => some ((q6.1 65 77), q6)))))))
set_option maxHeartbeats 2000000 in
set_option maxRecDepth 20000 in
theorem e_X10_play {l : Launch} {d : Nat} (hd : 8 ≤ d) (p0 : Int32) (s : ST) (r : Int32 × ST) (hf : f_X10_play p0 s = some r) : Cl l d mi_X10_play [.ref 65, .int p0] (hp s) (some (.int r.1), hp r.2) := by
  refine Ev.entry (by decide +kernel) rfl rfl ?_
  show Ev l d mi_X10_play 0 [some (.ref 65), some (.int p0)] [] (hp s) 0 0 _
  unfold f_X10_play at hf
  refine Ev.blk (pc' := 2) [(.aload_n 0, 0, 0, 0), (.iload_n 1, 0, 0, 0)] (by decide +kernel) trivial rfl (?_)
  show Ev l d mi_X10_play 2 [some (.ref 65), some (.int p0)] [.int p0, .ref 65] (hp s) 0 0 _
  obtain ⟨q1, hq1, hf⟩ := bd_some hf
  refine Ev.callV (o := 65) (M' := mi_X10_chooses) (d' := d - 1) (As := [.int p0]) (rest := []) (r' := (none, hp q1)) (e_X10_chooses (d := d - 1) (by omega) p0 s _ hq1) (by omega) wm_X10_chooses wi_X10_chooses wv_X10_chooses km_10_607 (kc rfl rfl) (Nat.le_of_ble_eq_true rfl) rfl rfl rfl (Nat.le_of_ble_eq_true rfl) ⟨Nat.le_of_ble_eq_true rfl, Nat.le_of_ble_eq_true rfl⟩ (by decide +kernel) ?_
  show Ev l d mi_X10_play 5 [some (.ref 65), some (.int p0)] [] (hp q1) 0 0 _
  refine Ev.blk (pc' := 10) [(.aload_n 0, 0, 0, 0), (.getfield 515, 0, 10, 68), (.iconst (-1), 0, 0, 0)] (by decide +kernel) ⟨kf_10_515, trivial⟩ rfl (And.intro (kc rfl rfl) (?_))
  show Ev l d mi_X10_play 10 [some (.ref 65), some (.int p0)] [.int (Int32.ofInt (-1)), .int (q1.1 65 68)] (hp q1) 0 0 _
  refine Ev.icmp_eq (off := 15) (tgt := 25) (by decide +kernel) (by decide) (fun b2 => ?_) (fun b2 => ?_)
  · have hf := (if_pos b2).symm.trans hf
    exact Ev.wk ((e_X10_play_j25 hd) q1 _ hf) (And.intro (Or.inr rfl) (And.intro (Or.inl rfl) (trivial)))
  · have hf := (if_neg b2).symm.trans hf
    obtain ⟨c3, hf⟩ := gd_some hf
    refine Ev.blk (pc' := 22) [(.aload_n 0, 0, 0, 0), (.getfield 154, 0, 10, 62), (.iconst 0, 0, 0, 0), (.iaload, 0, 0, 0), (.sipush 999, 0, 0, 0)] (by decide +kernel) ⟨kf_10_154, trivial⟩ rfl (And.intro (kc rfl rfl) (Exists.intro 112 (And.intro rfl (And.intro (kc rfl rfl) (And.intro (ib_ok c3) (?_))))))
    show Ev l d mi_X10_play 22 [some (.ref 65), some (.int p0)] [.int ((Int16.ofInt 999).toInt32), .int (q1.1 112 (Int32.ofInt 0).toNatClampNeg)] (hp q1) 0 0 _
    refine Ev.icmp_ne (off := 9) (tgt := 31) (by decide +kernel) (by decide) (fun b4 => ?_) (fun b4 => ?_)
    · have hf := (if_neg b4).symm.trans hf
      refine Ev.blk (pc' := 32) [(.aload_n 0, 0, 0, 0)] (by decide +kernel) trivial rfl (?_)
      show Ev l d mi_X10_play 32 [some (.ref 65), some (.int p0)] [.ref 65] (hp q1) 0 0 _
      obtain ⟨q5, hq5, hf⟩ := bd_some hf
      refine Ev.callV (o := 65) (M' := mi_X10_keeps) (d' := d - 1) (As := []) (rest := []) (r' := (none, hp q5)) (e_X10_keeps (d := d - 1) (by omega) q1 _ hq5) (by omega) wm_X10_keeps wi_X10_keeps wv_X10_keeps km_10_663 (kc rfl rfl) (Nat.le_of_ble_eq_true rfl) rfl rfl rfl (Nat.le_of_ble_eq_true rfl) ⟨Nat.le_of_ble_eq_true rfl, Nat.le_of_ble_eq_true rfl⟩ (by decide +kernel) ?_
      show Ev l d mi_X10_play 35 [some (.ref 65), some (.int p0)] [] (hp q5) 0 0 _
      refine Ev.blk (pc' := 36) [(.aload_n 0, 0, 0, 0)] (by decide +kernel) trivial rfl (?_)
      show Ev l d mi_X10_play 36 [some (.ref 65), some (.int p0)] [.ref 65] (hp q5) 0 0 _
      obtain ⟨q6, hq6, hf⟩ := bd_some hf
      refine Ev.callV (o := 65) (M' := mi_X10_dayGoes) (d' := d - 1) (As := []) (rest := []) (r' := (none, hp q6)) (e_X10_dayGoes (d := d - 1) (by omega) q5 _ hq6) (by omega) wm_X10_dayGoes wi_X10_dayGoes wv_X10_dayGoes km_10_578 (kc rfl rfl) (Nat.le_of_ble_eq_true rfl) rfl rfl rfl (Nat.le_of_ble_eq_true rfl) ⟨Nat.le_of_ble_eq_true rfl, Nat.le_of_ble_eq_true rfl⟩ (by decide +kernel) ?_
      show Ev l d mi_X10_play 39 [some (.ref 65), some (.int p0)] [] (hp q6) 0 0 _
      refine Ev.blk (pc' := 43) [(.aload_n 0, 0, 0, 0), (.getfield 550, 0, 10, 77)] (by decide +kernel) ⟨kf_10_550, trivial⟩ rfl (And.intro (kc rfl rfl) (?_))
      show Ev l d mi_X10_play 43 [some (.ref 65), some (.int p0)] [.int (q6.1 65 77)] (hp q6) 0 0 _
      cases hf
      exact Ev.iret .int rfl rfl (by decide +kernel) (Nat.le_refl _) (Nat.le_refl _)
    · have hf := (if_pos b4).symm.trans hf
      exact Ev.wk ((e_X10_play_j25 hd) q1 _ hf) (And.intro (Or.inr rfl) (And.intro (Or.inl rfl) (trivial)))
