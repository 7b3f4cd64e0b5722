/-! THE REFERENCE: functions and proofs, by program (wip/gen_model.py): X10_isIn X10_feed X10_end X10_fail X10_isLetter X10_isDigit X10_look X10_isHere X10_takes X10_asks X10_takesSign X10_asksSign X10_number X10_isOwnHere X10_name X10_isAllowed X10_isFull X10_nameOf X10_newName X10_adds X10_boardTold X10_kindTold X10_placeTold X10_manTold X10_fieldTold X10_qCode X10_qDrops X10_qIsBracket X10_qBracket X10_qDropsToBracket X10_qEndsPart -/
def f_X10_isIn (p0 : Int64) (p1 : Int64) (p2 : Int64) (s : ST) : Option (Int32 × ST) := (if (lg_cmp p0 p1) < 0 then some ((Int32.ofInt 0), s) else (if 0 < (lg_cmp p0 p2) then some ((Int32.ofInt 0), s) else some ((Int32.ofInt 1), s)))
set_option maxHeartbeats 2000000 in
set_option maxRecDepth 20000 in
theorem e_X10_isIn {l : Launch} {d : Nat} (hd : 1 ≤ d) (p0 : Int64) (p1 : Int64) (p2 : Int64) (s : ST) (r : Int32 × ST) (hf : f_X10_isIn p0 p1 p2 s = some r) : Cl l d mi_X10_isIn [.long p0, .long p1, .long p2] (hp s) (some (.int r.1), hp r.2) := by
  refine Ev.entry (by decide +kernel) rfl rfl ?_
  show Ev l d mi_X10_isIn 0 [some (.long p0), none, some (.long p1), none, some (.long p2), none] [] (hp s) 0 0 _
  unfold f_X10_isIn at hf
  refine Ev.blk (pc' := 3) [(.lload_n 0, 0, 0, 0), (.lload_n 2, 0, 0, 0), (.lcmp, 0, 0, 0)] (by decide +kernel) trivial rfl (?_)
  show Ev l d mi_X10_isIn 3 [some (.long p0), none, some (.long p1), none, some (.long p2), none] [.int (lg_cmp p0 p1)] (hp s) 0 0 _
  refine Ev.if_lt (off := 14) (tgt := 17) (by decide +kernel) (by decide) (fun b1 => ?_) (fun b1 => ?_)
  · have hf := (if_pos b1).symm.trans hf
    refine Ev.blk (pc' := 18) [(.iconst 0, 0, 0, 0)] (by decide +kernel) trivial rfl (?_)
    show Ev l d mi_X10_isIn 18 [some (.long p0), none, some (.long p1), none, some (.long p2), none] [.int (Int32.ofInt 0)] (hp s) 0 0 _
    cases hf
    exact Ev.iret .boolean rfl rfl (by decide +kernel) (Nat.le_refl _) (Nat.le_refl _)
  · have hf := (if_neg b1).symm.trans hf
    refine Ev.blk (pc' := 10) [(.lload_n 0, 0, 0, 0), (.lload 4, 0, 0, 0), (.lcmp, 0, 0, 0)] (by decide +kernel) trivial rfl (?_)
    show Ev l d mi_X10_isIn 10 [some (.long p0), none, some (.long p1), none, some (.long p2), none] [.int (lg_cmp p0 p2)] (hp s) 0 0 _
    refine Ev.if_gt (off := 7) (tgt := 17) (by decide +kernel) (by decide) (fun b2 => ?_) (fun b2 => ?_)
    · have hf := (if_pos b2).symm.trans hf
      refine Ev.blk (pc' := 18) [(.iconst 0, 0, 0, 0)] (by decide +kernel) trivial rfl (?_)
      show Ev l d mi_X10_isIn 18 [some (.long p0), none, some (.long p1), none, some (.long p2), none] [.int (Int32.ofInt 0)] (hp s) 0 0 _
      cases hf
      exact Ev.iret .boolean rfl rfl (by decide +kernel) (Nat.le_refl _) (Nat.le_refl _)
    · have hf := (if_neg b2).symm.trans hf
      refine Ev.blk (pc' := 14) [(.iconst 1, 0, 0, 0)] (by decide +kernel) trivial rfl (?_)
      show Ev l d mi_X10_isIn 14 [some (.long p0), none, some (.long p1), none, some (.long p2), none] [.int (Int32.ofInt 1)] (hp s) 0 0 _
      refine Ev.goto (off := 4) (tgt := 18) (by decide +kernel) (by decide) ?_
      cases hf
      exact Ev.iret .boolean rfl rfl (by decide +kernel) (Nat.le_refl _) (Nat.le_refl _)
def f_X10_feed_j81 (k28 : Int32 → Int32 → Int32 → Int32 → Int32 → Int32 → ST → Option (Int32 × ST)) (x1 : Int32) (x2 : Int32) (x3 : Int32) (x4 : Int32) (x5 : Int32) (x6 : Int32) (y0 : Int32) (s : ST) : Option (Int32 × ST) := gd (ib (s.1 65 1) 1600) (lt (uI (uI s 66 (s.1 65 1).toNatClampNeg ((y0 >>> ((((Int8.ofInt 8).toInt32) * ((Int32.ofInt 3) - (x6 - x6 / (Int32.ofInt 4) * (Int32.ofInt 4)))) &&& 31)) &&& ((Int16.ofInt 255).toInt32))) 65 1 (((uI s 66 (s.1 65 1).toNatClampNeg ((y0 >>> ((((Int8.ofInt 8).toInt32) * ((Int32.ofInt 3) - (x6 - x6 / (Int32.ofInt 4) * (Int32.ofInt 4)))) &&& 31)) &&& ((Int16.ofInt 255).toInt32))).1 65 1) + (Int32.ofInt 1))) (fun s11 => k28 x1 x2 x3 x4 x5 (x6 + Int32.ofInt 1) s11))
set_option maxHeartbeats 2000000 in
set_option maxRecDepth 20000 in
theorem e_X10_feed_j81 {l : Launch} {d : Nat} (hd : 1 ≤ d) (k28 : Int32 → Int32 → Int32 → Int32 → Int32 → Int32 → ST → Option (Int32 × ST)) (hk28 : ∀ (x1 : Int32) (x2 : Int32) (x3 : Int32) (x4 : Int32) (x5 : Int32) (x6 : Int32) (s : ST) (r : Int32 × ST), k28 x1 x2 x3 x4 x5 x6 s = some r → Ev l d mi_X10_feed 28 [some (.ref 65), some (.int x1), some (.int x2), some (.int x3), some (.int x4), some (.int x5), some (.int x6), none] [] (hp s) 0 0 (some (.int r.1), hp r.2)) (x1 : Int32) (x2 : Int32) (x3 : Int32) (x4 : Int32) (x5 : Int32) (x6 : Int32) (y0 : Int32) (s : ST) (r : Int32 × ST) (hf : f_X10_feed_j81 k28 x1 x2 x3 x4 x5 x6 y0 s = some r) : Ev l d mi_X10_feed 81 [some (.ref 65), some (.int x1), some (.int x2), some (.int x3), some (.int x4), some (.int x5), some (.int x6), none] [.int y0] (hp s) 0 0 (some (.int r.1), hp r.2) := by
  unfold f_X10_feed_j81 at hf
  obtain ⟨c10, hf⟩ := gd_some hf
  obtain ⟨s11, hs11, hf⟩ := lt_some hf
  refine Ev.blk (pc' := 121) [(.istore 7, 0, 0, 0), (.aload_n 0, 0, 0, 0), (.getfield 7, 0, 10, 0), (.aload_n 0, 0, 0, 0), (.getfield 275, 0, 10, 1), (.iload 7, 0, 0, 0), (.bipush 8, 0, 0, 0), (.iconst 3, 0, 0, 0), (.iload 6, 0, 0, 0), (.iconst 4, 0, 0, 0), (.irem, 0, 0, 0), (.isub, 0, 0, 0), (.imul, 0, 0, 0), (.ishr, 0, 0, 0), (.sipush 255, 0, 0, 0), (.iand, 0, 0, 0), (.iastore, 0, 0, 0), (.aload_n 0, 0, 0, 0), (.dup, 0, 0, 0), (.getfield 275, 0, 10, 1), (.iconst 1, 0, 0, 0), (.iadd, 0, 0, 0), (.putfield 275, 0, 10, 1), (.iinc 6 1, 0, 0, 0)] (by decide +kernel) ⟨kf_10_7, ⟨kf_10_275, ⟨kf_10_275, ⟨⟨kf_10_275, Or.inl rfl⟩, trivial⟩⟩⟩⟩ rfl (And.intro (Nat.le_of_ble_eq_true rfl) (And.intro (kc rfl rfl) (Exists.intro 66 (And.intro rfl (And.intro (kc rfl rfl) (And.intro (by decide) (And.intro (kc rfl rfl) (And.intro (ib_ok c10) (And.intro rfl (And.intro (kc rfl rfl) (And.intro (kc rfl rfl) (And.intro (Nat.le_of_ble_eq_true rfl) (?_)))))))))))))
  show Ev l d mi_X10_feed 121 [some (.ref 65), some (.int x1), some (.int x2), some (.int x3), some (.int x4), some (.int x5), some (.int (x6 + Int32.ofInt 1)), some (.int y0)] [] (hp (uI (uI s 66 (s.1 65 1).toNatClampNeg ((y0 >>> ((((Int8.ofInt 8).toInt32) * ((Int32.ofInt 3) - (x6 - x6 / (Int32.ofInt 4) * (Int32.ofInt 4)))) &&& 31)) &&& ((Int16.ofInt 255).toInt32))) 65 1 (((uI s 66 (s.1 65 1).toNatClampNeg ((y0 >>> ((((Int8.ofInt 8).toInt32) * ((Int32.ofInt 3) - (x6 - x6 / (Int32.ofInt 4) * (Int32.ofInt 4)))) &&& 31)) &&& ((Int16.ofInt 255).toInt32))).1 65 1) + (Int32.ofInt 1)))) 0 0 _
  rw [← hs11]
  refine Ev.goto (off := -93) (tgt := 28) (by decide +kernel) (by decide) ?_
  exact Ev.wk (hk28 x1 x2 x3 x4 x5 (x6 + Int32.ofInt 1) s11 _ hf) (And.intro (Or.inr rfl) (And.intro (Or.inr rfl) (And.intro (Or.inr rfl) (And.intro (Or.inr rfl) (And.intro (Or.inr rfl) (And.intro (Or.inr rfl) (And.intro (Or.inr rfl) (And.intro (Or.inl rfl) (trivial)))))))))
def f_X10_feed_L28 (k124 : ST → Option (Int32 × ST)) : Nat → Int32 → Int32 → Int32 → Int32 → Int32 → Int32 → ST → Option (Int32 × ST)
  | 0, _, _, _, _, _, _, _ => none
  | n + 1, x1, x2, x3, x4, x5, x6, s => (if ((Int8.ofInt 20).toInt32) ≤ x6 then k124 s else (if (Int32.ofInt 4) ≤ x6 then (if ((Int8.ofInt 8).toInt32) ≤ x6 then (if ((Int8.ofInt 12).toInt32) ≤ x6 then (if ((Int8.ofInt 16).toInt32) ≤ x6 then (f_X10_feed_j81 (f_X10_feed_L28 k124 n)) x1 x2 x3 x4 x5 x6 x5 s else (f_X10_feed_j81 (f_X10_feed_L28 k124 n)) x1 x2 x3 x4 x5 x6 x4 s) else (f_X10_feed_j81 (f_X10_feed_L28 k124 n)) x1 x2 x3 x4 x5 x6 x3 s) else (f_X10_feed_j81 (f_X10_feed_L28 k124 n)) x1 x2 x3 x4 x5 x6 x2 s) else (f_X10_feed_j81 (f_X10_feed_L28 k124 n)) x1 x2 x3 x4 x5 x6 x1 s))
set_option maxHeartbeats 2000000 in
set_option maxRecDepth 20000 in
theorem e_X10_feed_L28 {l : Launch} {d : Nat} (hd : 1 ≤ d) (k124 : ST → Option (Int32 × ST)) (hk124 : ∀ (s : ST) (r : Int32 × ST), k124 s = some r → Ev l d mi_X10_feed 124 [some (.ref 65), none, none, none, none, none, none, none] [] (hp s) 0 0 (some (.int r.1), hp r.2)) : ∀ (n : Nat) (x1 : Int32) (x2 : Int32) (x3 : Int32) (x4 : Int32) (x5 : Int32) (x6 : Int32) (s : ST) (r : Int32 × ST), f_X10_feed_L28 k124 n x1 x2 x3 x4 x5 x6 s = some r → Ev l d mi_X10_feed 28 [some (.ref 65), some (.int x1), some (.int x2), some (.int x3), some (.int x4), some (.int x5), some (.int x6), none] [] (hp s) 0 0 (some (.int r.1), hp r.2) := by
  intro n
  induction n with
  | zero =>
    intro x1 x2 x3 x4 x5 x6 s r hf
    cases hf
  | succ n ih =>
    intro x1 x2 x3 x4 x5 x6 s r hf
    unfold f_X10_feed_L28 at hf
    refine Ev.blk (pc' := 32) [(.iload 6, 0, 0, 0), (.bipush 20, 0, 0, 0)] (by decide +kernel) trivial rfl (?_)
    show Ev l d mi_X10_feed 32 [some (.ref 65), some (.int x1), some (.int x2), some (.int x3), some (.int x4), some (.int x5), some (.int x6), none] [.int ((Int8.ofInt 20).toInt32), .int x6] (hp s) 0 0 _
    refine Ev.icmp_ge (off := 92) (tgt := 124) (by decide +kernel) (by decide) (fun b5 => ?_) (fun b5 => ?_)
    · have hf := (if_pos b5).symm.trans hf
      exact Ev.wk (hk124 s _ hf) (And.intro (Or.inr rfl) (And.intro (Or.inl rfl) (And.intro (Or.inl rfl) (And.intro (Or.inl rfl) (And.intro (Or.inl rfl) (And.intro (Or.inl rfl) (And.intro (Or.inl rfl) (And.intro (Or.inr rfl) (trivial)))))))))
    · have hf := (if_neg b5).symm.trans hf
      refine Ev.blk (pc' := 38) [(.iload 6, 0, 0, 0), (.iconst 4, 0, 0, 0)] (by decide +kernel) trivial rfl (?_)
      show Ev l d mi_X10_feed 38 [some (.ref 65), some (.int x1), some (.int x2), some (.int x3), some (.int x4), some (.int x5), some (.int x6), none] [.int (Int32.ofInt 4), .int x6] (hp s) 0 0 _
      refine Ev.icmp_ge (off := 7) (tgt := 45) (by decide +kernel) (by decide) (fun b6 => ?_) (fun b6 => ?_)
      · have hf := (if_pos b6).symm.trans hf
        refine Ev.blk (pc' := 49) [(.iload 6, 0, 0, 0), (.bipush 8, 0, 0, 0)] (by decide +kernel) trivial rfl (?_)
        show Ev l d mi_X10_feed 49 [some (.ref 65), some (.int x1), some (.int x2), some (.int x3), some (.int x4), some (.int x5), some (.int x6), none] [.int ((Int8.ofInt 8).toInt32), .int x6] (hp s) 0 0 _
        refine Ev.icmp_ge (off := 7) (tgt := 56) (by decide +kernel) (by decide) (fun b7 => ?_) (fun b7 => ?_)
        · have hf := (if_pos b7).symm.trans hf
          refine Ev.blk (pc' := 60) [(.iload 6, 0, 0, 0), (.bipush 12, 0, 0, 0)] (by decide +kernel) trivial rfl (?_)
          show Ev l d mi_X10_feed 60 [some (.ref 65), some (.int x1), some (.int x2), some (.int x3), some (.int x4), some (.int x5), some (.int x6), none] [.int ((Int8.ofInt 12).toInt32), .int x6] (hp s) 0 0 _
          refine Ev.icmp_ge (off := 7) (tgt := 67) (by decide +kernel) (by decide) (fun b8 => ?_) (fun b8 => ?_)
          · have hf := (if_pos b8).symm.trans hf
            refine Ev.blk (pc' := 71) [(.iload 6, 0, 0, 0), (.bipush 16, 0, 0, 0)] (by decide +kernel) trivial rfl (?_)
            show Ev l d mi_X10_feed 71 [some (.ref 65), some (.int x1), some (.int x2), some (.int x3), some (.int x4), some (.int x5), some (.int x6), none] [.int ((Int8.ofInt 16).toInt32), .int x6] (hp s) 0 0 _
            refine Ev.icmp_ge (off := 8) (tgt := 79) (by decide +kernel) (by decide) (fun b9 => ?_) (fun b9 => ?_)
            · have hf := (if_pos b9).symm.trans hf
              refine Ev.blk (pc' := 81) [(.iload 5, 0, 0, 0)] (by decide +kernel) trivial rfl (?_)
              show Ev l d mi_X10_feed 81 [some (.ref 65), some (.int x1), some (.int x2), some (.int x3), some (.int x4), some (.int x5), some (.int x6), none] [.int x5] (hp s) 0 0 _
              exact (e_X10_feed_j81 hd (f_X10_feed_L28 k124 n) ih) x1 x2 x3 x4 x5 x6 x5 s _ hf
            · have hf := (if_neg b9).symm.trans hf
              refine Ev.blk (pc' := 76) [(.iload 4, 0, 0, 0)] (by decide +kernel) trivial rfl (?_)
              show Ev l d mi_X10_feed 76 [some (.ref 65), some (.int x1), some (.int x2), some (.int x3), some (.int x4), some (.int x5), some (.int x6), none] [.int x4] (hp s) 0 0 _
              refine Ev.goto (off := 5) (tgt := 81) (by decide +kernel) (by decide) ?_
              exact (e_X10_feed_j81 hd (f_X10_feed_L28 k124 n) ih) x1 x2 x3 x4 x5 x6 x4 s _ hf
          · have hf := (if_neg b8).symm.trans hf
            refine Ev.blk (pc' := 64) [(.iload_n 3, 0, 0, 0)] (by decide +kernel) trivial rfl (?_)
            show Ev l d mi_X10_feed 64 [some (.ref 65), some (.int x1), some (.int x2), some (.int x3), some (.int x4), some (.int x5), some (.int x6), none] [.int x3] (hp s) 0 0 _
            refine Ev.goto (off := 17) (tgt := 81) (by decide +kernel) (by decide) ?_
            exact (e_X10_feed_j81 hd (f_X10_feed_L28 k124 n) ih) x1 x2 x3 x4 x5 x6 x3 s _ hf
        · have hf := (if_neg b7).symm.trans hf
          refine Ev.blk (pc' := 53) [(.iload_n 2, 0, 0, 0)] (by decide +kernel) trivial rfl (?_)
          show Ev l d mi_X10_feed 53 [some (.ref 65), some (.int x1), some (.int x2), some (.int x3), some (.int x4), some (.int x5), some (.int x6), none] [.int x2] (hp s) 0 0 _
          refine Ev.goto (off := 28) (tgt := 81) (by decide +kernel) (by decide) ?_
          exact (e_X10_feed_j81 hd (f_X10_feed_L28 k124 n) ih) x1 x2 x3 x4 x5 x6 x2 s _ hf
      · have hf := (if_neg b6).symm.trans hf
        refine Ev.blk (pc' := 42) [(.iload_n 1, 0, 0, 0)] (by decide +kernel) trivial rfl (?_)
        show Ev l d mi_X10_feed 42 [some (.ref 65), some (.int x1), some (.int x2), some (.int x3), some (.int x4), some (.int x5), some (.int x6), none] [.int x1] (hp s) 0 0 _
        refine Ev.goto (off := 39) (tgt := 81) (by decide +kernel) (by decide) ?_
        exact (e_X10_feed_j81 hd (f_X10_feed_L28 k124 n) ih) x1 x2 x3 x4 x5 x6 x1 s _ hf
def f_X10_feed_j124 (s : ST) : Option (Int32 × ST) := some ((s.1 65 1), s)
set_option maxHeartbeats 2000000 in
set_option maxRecDepth 20000 in
theorem e_X10_feed_j124 {l : Launch} {d : Nat} (hd : 1 ≤ d) (s : ST) (r : Int32 × ST) (hf : f_X10_feed_j124 s = some r) : Ev l d mi_X10_feed 124 [some (.ref 65), none, none, none, none, none, none, none] [] (hp s) 0 0 (some (.int r.1), hp r.2) := by
  unfold f_X10_feed_j124 at hf
  refine Ev.blk (pc' := 128) [(.aload_n 0, 0, 0, 0), (.getfield 275, 0, 10, 1)] (by decide +kernel) ⟨kf_10_275, trivial⟩ rfl (And.intro (kc rfl rfl) (?_))
  show Ev l d mi_X10_feed 128 [some (.ref 65), none, none, none, none, none, none, none] [.int (s.1 65 1)] (hp s) 0 0 _
  cases hf
  exact Ev.iret .int rfl rfl (by decide +kernel) (Nat.le_refl _) (Nat.le_refl _)
def f_X10_feed (p0 : Int32) (p1 : Int32) (p2 : Int32) (p3 : Int32) (p4 : Int32) (s : ST) : Option (Int32 × ST) := (if ((s.1 65 1) + ((Int8.ofInt 20).toInt32)) ≤ ((Int16.ofInt 1600).toInt32) then (f_X10_feed_L28 f_X10_feed_j124 fuel) p0 p1 p2 p3 p4 (Int32.ofInt 0) s else gd (ib (Int32.ofInt 0) 6) (gd (ib (Int32.ofInt 0) 6) (lt (uI s 67 (Int32.ofInt 0).toNatClampNeg ((s.1 67 (Int32.ofInt 0).toNatClampNeg) + (Int32.ofInt 1))) (fun s4 => some ((Int32.ofInt (-1)), s4)))))
set_option maxHeartbeats 2000000 in
set_option maxRecDepth 20000 in
theorem e_X10_feed {l : Launch} {d : Nat} (hd : 1 ≤ d) (p0 : Int32) (p1 : Int32) (p2 : Int32) (p3 : Int32) (p4 : Int32) (s : ST) (r : Int32 × ST) (hf : f_X10_feed p0 p1 p2 p3 p4 s = some r) : Cl l d mi_X10_feed [.ref 65, .int p0, .int p1, .int p2, .int p3, .int p4] (hp s) (some (.int r.1), hp r.2) := by
  refine Ev.entry (by decide +kernel) rfl rfl ?_
  show Ev l d mi_X10_feed 0 [some (.ref 65), some (.int p0), some (.int p1), some (.int p2), some (.int p3), some (.int p4), none, none] [] (hp s) 0 0 _
  unfold f_X10_feed at hf
  refine Ev.blk (pc' := 10) [(.aload_n 0, 0, 0, 0), (.getfield 275, 0, 10, 1), (.bipush 20, 0, 0, 0), (.iadd, 0, 0, 0), (.sipush 1600, 0, 0, 0)] (by decide +kernel) ⟨kf_10_275, trivial⟩ rfl (And.intro (kc rfl rfl) (?_))
  show Ev l d mi_X10_feed 10 [some (.ref 65), some (.int p0), some (.int p1), some (.int p2), some (.int p3), some (.int p4), none, none] [.int ((Int16.ofInt 1600).toInt32), .int ((s.1 65 1) + ((Int8.ofInt 20).toInt32))] (hp s) 0 0 _
  refine Ev.icmp_le (off := 15) (tgt := 25) (by decide +kernel) (by decide) (fun b1 => ?_) (fun b1 => ?_)
  · have hf := (if_pos b1).symm.trans hf
    refine Ev.blk (pc' := 28) [(.iconst 0, 0, 0, 0), (.istore 6, 0, 0, 0)] (by decide +kernel) trivial rfl (And.intro (Nat.le_of_ble_eq_true rfl) (?_))
    show Ev l d mi_X10_feed 28 [some (.ref 65), some (.int p0), some (.int p1), some (.int p2), some (.int p3), some (.int p4), some (.int (Int32.ofInt 0)), none] [] (hp s) 0 0 _
    exact (e_X10_feed_L28 hd f_X10_feed_j124 (e_X10_feed_j124 hd) fuel) p0 p1 p2 p3 p4 (Int32.ofInt 0) s _ hf
  · have hf := (if_neg b1).symm.trans hf
    obtain ⟨c2, hf⟩ := gd_some hf
    obtain ⟨c3, hf⟩ := gd_some hf
    obtain ⟨s4, hs4, hf⟩ := lt_some hf
    refine Ev.blk (pc' := 24) [(.aload_n 0, 0, 0, 0), (.getfield 17, 0, 10, 9), (.iconst 0, 0, 0, 0), (.dup2, 0, 0, 0), (.iaload, 0, 0, 0), (.iconst 1, 0, 0, 0), (.iadd, 0, 0, 0), (.iastore, 0, 0, 0), (.iconst (-1), 0, 0, 0)] (by decide +kernel) ⟨kf_10_17, trivial⟩ rfl (And.intro (kc rfl rfl) (Exists.intro 67 (And.intro rfl (And.intro (And.intro rfl rfl) (And.intro (kc rfl rfl) (And.intro (ib_ok c2) (And.intro (kc rfl rfl) (And.intro (ib_ok c3) (?_)))))))))
    show Ev l d mi_X10_feed 24 [some (.ref 65), some (.int p0), some (.int p1), some (.int p2), some (.int p3), some (.int p4), none, none] [.int (Int32.ofInt (-1))] (hp (uI s 67 (Int32.ofInt 0).toNatClampNeg ((s.1 67 (Int32.ofInt 0).toNatClampNeg) + (Int32.ofInt 1)))) 0 0 _
    rw [← hs4]
    cases hf
    exact Ev.iret .int rfl rfl (by decide +kernel) (Nat.le_refl _) (Nat.le_refl _)
def f_X10_end_j12 (s : ST) : Option (Int32 × ST) := gd (ib (Int32.ofInt 0) 6) (gd (ib (Int32.ofInt 0) 6) (lt (uI s 67 (Int32.ofInt 0).toNatClampNeg ((s.1 67 (Int32.ofInt 0).toNatClampNeg) + (Int32.ofInt 1))) (fun s6 => some ((Int32.ofInt 0), s6))))
set_option maxHeartbeats 2000000 in
set_option maxRecDepth 20000 in
theorem e_X10_end_j12 {l : Launch} {d : Nat} (hd : 1 ≤ d) (s : ST) (r : Int32 × ST) (hf : f_X10_end_j12 s = some r) : Ev l d mi_X10_end 12 [some (.ref 65), none] [] (hp s) 0 0 (some (.int r.1), hp r.2) := by
  unfold f_X10_end_j12 at hf
  obtain ⟨c4, hf⟩ := gd_some hf
  obtain ⟨c5, hf⟩ := gd_some hf
  obtain ⟨s6, hs6, hf⟩ := lt_some hf
  refine Ev.blk (pc' := 23) [(.aload_n 0, 0, 0, 0), (.getfield 17, 0, 10, 9), (.iconst 0, 0, 0, 0), (.dup2, 0, 0, 0), (.iaload, 0, 0, 0), (.iconst 1, 0, 0, 0), (.iadd, 0, 0, 0), (.iastore, 0, 0, 0), (.iconst 0, 0, 0, 0)] (by decide +kernel) ⟨kf_10_17, trivial⟩ rfl (And.intro (kc rfl rfl) (Exists.intro 67 (And.intro rfl (And.intro (And.intro rfl rfl) (And.intro (kc rfl rfl) (And.intro (ib_ok c4) (And.intro (kc rfl rfl) (And.intro (ib_ok c5) (?_)))))))))
  show Ev l d mi_X10_end 23 [some (.ref 65), none] [.int (Int32.ofInt 0)] (hp (uI s 67 (Int32.ofInt 0).toNatClampNeg ((s.1 67 (Int32.ofInt 0).toNatClampNeg) + (Int32.ofInt 1)))) 0 0 _
  rw [← hs6]
  cases hf
  exact Ev.iret .boolean rfl rfl (by decide +kernel) (Nat.le_refl _) (Nat.le_refl _)
def f_X10_end (p0 : Int32) (s : ST) : Option (Int32 × ST) := (if p0 < 0 then f_X10_end_j12 s else (if p0 ≤ (s.1 65 1) then lt (uI s 65 1 p0) (fun s3 => some ((Int32.ofInt 1), s3)) else f_X10_end_j12 s))
set_option maxHeartbeats 2000000 in
set_option maxRecDepth 20000 in
theorem e_X10_end {l : Launch} {d : Nat} (hd : 1 ≤ d) (p0 : Int32) (s : ST) (r : Int32 × ST) (hf : f_X10_end p0 s = some r) : Cl l d mi_X10_end [.ref 65, .int p0] (hp s) (some (.int r.1), hp r.2) := by
  refine Ev.entry (by decide +kernel) rfl rfl ?_
  show Ev l d mi_X10_end 0 [some (.ref 65), some (.int p0)] [] (hp s) 0 0 _
  unfold f_X10_end at hf
  refine Ev.blk (pc' := 1) [(.iload_n 1, 0, 0, 0)] (by decide +kernel) trivial rfl (?_)
  show Ev l d mi_X10_end 1 [some (.ref 65), some (.int p0)] [.int p0] (hp s) 0 0 _
  refine Ev.if_lt (off := 11) (tgt := 12) (by decide +kernel) (by decide) (fun b1 => ?_) (fun b1 => ?_)
  · have hf := (if_pos b1).symm.trans hf
    exact Ev.wk ((e_X10_end_j12 hd) s _ hf) (And.intro (Or.inr rfl) (And.intro (Or.inl rfl) (trivial)))
  · have hf := (if_neg b1).symm.trans hf
    refine Ev.blk (pc' := 9) [(.iload_n 1, 0, 0, 0), (.aload_n 0, 0, 0, 0), (.getfield 275, 0, 10, 1)] (by decide +kernel) ⟨kf_10_275, trivial⟩ rfl (And.intro (kc rfl rfl) (?_))
    show Ev l d mi_X10_end 9 [some (.ref 65), some (.int p0)] [.int (s.1 65 1), .int p0] (hp s) 0 0 _
    refine Ev.icmp_le (off := 15) (tgt := 24) (by decide +kernel) (by decide) (fun b2 => ?_) (fun b2 => ?_)
    · have hf := (if_pos b2).symm.trans hf
      obtain ⟨s3, hs3, hf⟩ := lt_some hf
      refine Ev.blk (pc' := 30) [(.aload_n 0, 0, 0, 0), (.iload_n 1, 0, 0, 0), (.putfield 275, 0, 10, 1), (.iconst 1, 0, 0, 0)] (by decide +kernel) ⟨⟨kf_10_275, Or.inl rfl⟩, trivial⟩ rfl (And.intro (kc rfl rfl) (?_))
      show Ev l d mi_X10_end 30 [some (.ref 65), some (.int p0)] [.int (Int32.ofInt 1)] (hp (uI s 65 1 p0)) 0 0 _
      rw [← hs3]
      cases hf
      exact Ev.iret .boolean rfl rfl (by decide +kernel) (Nat.le_refl _) (Nat.le_refl _)
    · have hf := (if_neg b2).symm.trans hf
      exact Ev.wk ((e_X10_end_j12 hd) s _ hf) (And.intro (Or.inr rfl) (And.intro (Or.inl rfl) (trivial)))
def f_X10_fail (p0 : Int32) (p1 : Int32) (s : ST) : Option (ST) := (if (s.1 65 5) = 0 then lt (uI (uI s 65 5 p0) 65 6 p1) (fun s2 => some s2) else some s)
set_option maxHeartbeats 2000000 in
set_option maxRecDepth 20000 in
theorem e_X10_fail {l : Launch} {d : Nat} (hd : 1 ≤ d) (p0 : Int32) (p1 : Int32) (s : ST) (r : ST) (hf : f_X10_fail p0 p1 s = some r) : Cl l d mi_X10_fail [.ref 65, .int p0, .int p1] (hp s) (none, hp r) := by
  refine Ev.entry (by decide +kernel) rfl rfl ?_
  show Ev l d mi_X10_fail 0 [some (.ref 65), some (.int p0), some (.int p1)] [] (hp s) 0 0 _
  unfold f_X10_fail at hf
  refine Ev.blk (pc' := 4) [(.aload_n 0, 0, 0, 0), (.getfield 278, 0, 10, 5)] (by decide +kernel) ⟨kf_10_278, trivial⟩ rfl (And.intro (kc rfl rfl) (?_))
  show Ev l d mi_X10_fail 4 [some (.ref 65), some (.int p0), some (.int p1)] [.int (s.1 65 5)] (hp s) 0 0 _
  refine Ev.if_eq (off := 4) (tgt := 8) (by decide +kernel) (by decide) (fun b1 => ?_) (fun b1 => ?_)
  · have hf := (if_pos b1).symm.trans hf
    obtain ⟨s2, hs2, hf⟩ := lt_some hf
    refine Ev.blk (pc' := 18) [(.aload_n 0, 0, 0, 0), (.iload_n 1, 0, 0, 0), (.putfield 278, 0, 10, 5), (.aload_n 0, 0, 0, 0), (.iload_n 2, 0, 0, 0), (.putfield 281, 0, 10, 6)] (by decide +kernel) ⟨⟨kf_10_278, Or.inl rfl⟩, ⟨⟨kf_10_281, Or.inl rfl⟩, trivial⟩⟩ rfl (And.intro (kc rfl rfl) (And.intro (kc rfl rfl) (?_)))
    show Ev l d mi_X10_fail 18 [some (.ref 65), some (.int p0), some (.int p1)] [] (hp (uI (uI s 65 5 p0) 65 6 p1)) 0 0 _
    rw [← hs2]
    cases hf
    exact Ev.vret rfl (by decide +kernel) (Nat.le_refl _) (Nat.le_refl _)
  · have hf := (if_neg b1).symm.trans hf
    cases hf
    exact Ev.vret rfl (by decide +kernel) (Nat.le_refl _) (Nat.le_refl _)
def f_X10_isLetter (p0 : Int32) (s : ST) : Option (Int32 × ST) := (if p0 < ((Int8.ofInt 97).toInt32) then some ((Int32.ofInt 0), s) else (if ((Int8.ofInt 122).toInt32) < p0 then some ((Int32.ofInt 0), s) else some ((Int32.ofInt 1), s)))
set_option maxHeartbeats 2000000 in
set_option maxRecDepth 20000 in
theorem e_X10_isLetter {l : Launch} {d : Nat} (hd : 1 ≤ d) (p0 : Int32) (s : ST) (r : Int32 × ST) (hf : f_X10_isLetter p0 s = some r) : Cl l d mi_X10_isLetter [.int p0] (hp s) (some (.int r.1), hp r.2) := by
  refine Ev.entry (by decide +kernel) rfl rfl ?_
  show Ev l d mi_X10_isLetter 0 [some (.int p0)] [] (hp s) 0 0 _
  unfold f_X10_isLetter at hf
  refine Ev.blk (pc' := 3) [(.iload_n 0, 0, 0, 0), (.bipush 97, 0, 0, 0)] (by decide +kernel) trivial rfl (?_)
  show Ev l d mi_X10_isLetter 3 [some (.int p0)] [.int ((Int8.ofInt 97).toInt32), .int p0] (hp s) 0 0 _
  refine Ev.icmp_lt (off := 13) (tgt := 16) (by decide +kernel) (by decide) (fun b1 => ?_) (fun b1 => ?_)
  · have hf := (if_pos b1).symm.trans hf
    refine Ev.blk (pc' := 17) [(.iconst 0, 0, 0, 0)] (by decide +kernel) trivial rfl (?_)
    show Ev l d mi_X10_isLetter 17 [some (.int p0)] [.int (Int32.ofInt 0)] (hp s) 0 0 _
    cases hf
    exact Ev.iret .boolean rfl rfl (by decide +kernel) (Nat.le_refl _) (Nat.le_refl _)
  · have hf := (if_neg b1).symm.trans hf
    refine Ev.blk (pc' := 9) [(.iload_n 0, 0, 0, 0), (.bipush 122, 0, 0, 0)] (by decide +kernel) trivial rfl (?_)
    show Ev l d mi_X10_isLetter 9 [some (.int p0)] [.int ((Int8.ofInt 122).toInt32), .int p0] (hp s) 0 0 _
    refine Ev.icmp_gt (off := 7) (tgt := 16) (by decide +kernel) (by decide) (fun b2 => ?_) (fun b2 => ?_)
    · have hf := (if_pos b2).symm.trans hf
      refine Ev.blk (pc' := 17) [(.iconst 0, 0, 0, 0)] (by decide +kernel) trivial rfl (?_)
      show Ev l d mi_X10_isLetter 17 [some (.int p0)] [.int (Int32.ofInt 0)] (hp s) 0 0 _
      cases hf
      exact Ev.iret .boolean rfl rfl (by decide +kernel) (Nat.le_refl _) (Nat.le_refl _)
    · have hf := (if_neg b2).symm.trans hf
      refine Ev.blk (pc' := 13) [(.iconst 1, 0, 0, 0)] (by decide +kernel) trivial rfl (?_)
      show Ev l d mi_X10_isLetter 13 [some (.int p0)] [.int (Int32.ofInt 1)] (hp s) 0 0 _
      refine Ev.goto (off := 4) (tgt := 17) (by decide +kernel) (by decide) ?_
      cases hf
      exact Ev.iret .boolean rfl rfl (by decide +kernel) (Nat.le_refl _) (Nat.le_refl _)
def f_X10_isDigit (p0 : Int32) (s : ST) : Option (Int32 × ST) := (if p0 < ((Int8.ofInt 48).toInt32) then some ((Int32.ofInt 0), s) else (if ((Int8.ofInt 57).toInt32) < p0 then some ((Int32.ofInt 0), s) else some ((Int32.ofInt 1), s)))
set_option maxHeartbeats 2000000 in
set_option maxRecDepth 20000 in
theorem e_X10_isDigit {l : Launch} {d : Nat} (hd : 1 ≤ d) (p0 : Int32) (s : ST) (r : Int32 × ST) (hf : f_X10_isDigit p0 s = some r) : Cl l d mi_X10_isDigit [.int p0] (hp s) (some (.int r.1), hp r.2) := by
  refine Ev.entry (by decide +kernel) rfl rfl ?_
  show Ev l d mi_X10_isDigit 0 [some (.int p0)] [] (hp s) 0 0 _
  unfold f_X10_isDigit at hf
  refine Ev.blk (pc' := 3) [(.iload_n 0, 0, 0, 0), (.bipush 48, 0, 0, 0)] (by decide +kernel) trivial rfl (?_)
  show Ev l d mi_X10_isDigit 3 [some (.int p0)] [.int ((Int8.ofInt 48).toInt32), .int p0] (hp s) 0 0 _
  refine Ev.icmp_lt (off := 13) (tgt := 16) (by decide +kernel) (by decide) (fun b1 => ?_) (fun b1 => ?_)
  · have hf := (if_pos b1).symm.trans hf
    refine Ev.blk (pc' := 17) [(.iconst 0, 0, 0, 0)] (by decide +kernel) trivial rfl (?_)
    show Ev l d mi_X10_isDigit 17 [some (.int p0)] [.int (Int32.ofInt 0)] (hp s) 0 0 _
    cases hf
    exact Ev.iret .boolean rfl rfl (by decide +kernel) (Nat.le_refl _) (Nat.le_refl _)
  · have hf := (if_neg b1).symm.trans hf
    refine Ev.blk (pc' := 9) [(.iload_n 0, 0, 0, 0), (.bipush 57, 0, 0, 0)] (by decide +kernel) trivial rfl (?_)
    show Ev l d mi_X10_isDigit 9 [some (.int p0)] [.int ((Int8.ofInt 57).toInt32), .int p0] (hp s) 0 0 _
    refine Ev.icmp_gt (off := 7) (tgt := 16) (by decide +kernel) (by decide) (fun b2 => ?_) (fun b2 => ?_)
    · have hf := (if_pos b2).symm.trans hf
      refine Ev.blk (pc' := 17) [(.iconst 0, 0, 0, 0)] (by decide +kernel) trivial rfl (?_)
      show Ev l d mi_X10_isDigit 17 [some (.int p0)] [.int (Int32.ofInt 0)] (hp s) 0 0 _
      cases hf
      exact Ev.iret .boolean rfl rfl (by decide +kernel) (Nat.le_refl _) (Nat.le_refl _)
    · have hf := (if_neg b2).symm.trans hf
      refine Ev.blk (pc' := 13) [(.iconst 1, 0, 0, 0)] (by decide +kernel) trivial rfl (?_)
      show Ev l d mi_X10_isDigit 13 [some (.int p0)] [.int (Int32.ofInt 1)] (hp s) 0 0 _
      refine Ev.goto (off := 4) (tgt := 17) (by decide +kernel) (by decide) ?_
      cases hf
      exact Ev.iret .boolean rfl rfl (by decide +kernel) (Nat.le_refl _) (Nat.le_refl _)
def f_X10_look_j39 (k0 : ST → Option (Int32 × ST)) (s : ST) : Option (Int32 × ST) := lt (uI s 65 2 ((s.1 65 2) + (Int32.ofInt 1))) (fun s6 => k0 s6)
set_option maxHeartbeats 2000000 in
set_option maxRecDepth 20000 in
theorem e_X10_look_j39 {l : Launch} {d : Nat} (hd : 1 ≤ d) (k0 : ST → Option (Int32 × ST)) (hk0 : ∀ (s : ST) (r : Int32 × ST), k0 s = some r → Ev l d mi_X10_look 0 [some (.ref 65)] [] (hp s) 0 0 (some (.int r.1), hp r.2)) (s : ST) (r : Int32 × ST) (hf : f_X10_look_j39 k0 s = some r) : Ev l d mi_X10_look 39 [some (.ref 65)] [] (hp s) 0 0 (some (.int r.1), hp r.2) := by
  unfold f_X10_look_j39 at hf
  obtain ⟨s6, hs6, hf⟩ := lt_some hf
  refine Ev.blk (pc' := 49) [(.aload_n 0, 0, 0, 0), (.dup, 0, 0, 0), (.getfield 284, 0, 10, 2), (.iconst 1, 0, 0, 0), (.iadd, 0, 0, 0), (.putfield 284, 0, 10, 2)] (by decide +kernel) ⟨kf_10_284, ⟨⟨kf_10_284, Or.inl rfl⟩, trivial⟩⟩ rfl (And.intro rfl (And.intro (kc rfl rfl) (And.intro (kc rfl rfl) (?_))))
  show Ev l d mi_X10_look 49 [some (.ref 65)] [] (hp (uI s 65 2 ((s.1 65 2) + (Int32.ofInt 1)))) 0 0 _
  rw [← hs6]
  refine Ev.goto (off := -49) (tgt := 0) (by decide +kernel) (by decide) ?_
  exact hk0 s6 _ hf
def f_X10_look_L0 (k52 : ST → Option (Int32 × ST)) : Nat → ST → Option (Int32 × ST)
  | 0, _ => none
  | n + 1, s => (if (s.1 65 3) ≤ (s.1 65 2) then k52 s else gd (ib (s.1 65 2) 1600) ((if (s.1 66 (s.1 65 2).toNatClampNeg) = ((Int8.ofInt 10).toInt32) then (f_X10_look_j39 (f_X10_look_L0 k52 n)) s else gd (ib (s.1 65 2) 1600) ((if (s.1 66 (s.1 65 2).toNatClampNeg) = ((Int8.ofInt 32).toInt32) then (f_X10_look_j39 (f_X10_look_L0 k52 n)) s else k52 s)))))
set_option maxHeartbeats 2000000 in
set_option maxRecDepth 20000 in
theorem e_X10_look_L0 {l : Launch} {d : Nat} (hd : 1 ≤ d) (k52 : ST → Option (Int32 × ST)) (hk52 : ∀ (s : ST) (r : Int32 × ST), k52 s = some r → Ev l d mi_X10_look 52 [some (.ref 65)] [] (hp s) 0 0 (some (.int r.1), hp r.2)) : ∀ (n : Nat) (s : ST) (r : Int32 × ST), f_X10_look_L0 k52 n s = some r → Ev l d mi_X10_look 0 [some (.ref 65)] [] (hp s) 0 0 (some (.int r.1), hp r.2) := by
  intro n
  induction n with
  | zero =>
    intro s r hf
    cases hf
  | succ n ih =>
    intro s r hf
    unfold f_X10_look_L0 at hf
    refine Ev.blk (pc' := 8) [(.aload_n 0, 0, 0, 0), (.getfield 284, 0, 10, 2), (.aload_n 0, 0, 0, 0), (.getfield 287, 0, 10, 3)] (by decide +kernel) ⟨kf_10_284, ⟨kf_10_287, trivial⟩⟩ rfl (And.intro (kc rfl rfl) (And.intro (kc rfl rfl) (?_)))
    show Ev l d mi_X10_look 8 [some (.ref 65)] [.int (s.1 65 3), .int (s.1 65 2)] (hp s) 0 0 _
    refine Ev.icmp_ge (off := 44) (tgt := 52) (by decide +kernel) (by decide) (fun b1 => ?_) (fun b1 => ?_)
    · have hf := (if_pos b1).symm.trans hf
      exact hk52 s _ hf
    · have hf := (if_neg b1).symm.trans hf
      obtain ⟨c2, hf⟩ := gd_some hf
      refine Ev.blk (pc' := 22) [(.aload_n 0, 0, 0, 0), (.getfield 7, 0, 10, 0), (.aload_n 0, 0, 0, 0), (.getfield 284, 0, 10, 2), (.iaload, 0, 0, 0), (.bipush 10, 0, 0, 0)] (by decide +kernel) ⟨kf_10_7, ⟨kf_10_284, trivial⟩⟩ rfl (And.intro (kc rfl rfl) (Exists.intro 66 (And.intro rfl (And.intro (kc rfl rfl) (And.intro (kc rfl rfl) (And.intro (ib_ok c2) (?_)))))))
      show Ev l d mi_X10_look 22 [some (.ref 65)] [.int ((Int8.ofInt 10).toInt32), .int (s.1 66 (s.1 65 2).toNatClampNeg)] (hp s) 0 0 _
      refine Ev.icmp_eq (off := 17) (tgt := 39) (by decide +kernel) (by decide) (fun b3 => ?_) (fun b3 => ?_)
      · have hf := (if_pos b3).symm.trans hf
        exact (e_X10_look_j39 hd (f_X10_look_L0 k52 n) ih) s _ hf
      · have hf := (if_neg b3).symm.trans hf
        obtain ⟨c4, hf⟩ := gd_some hf
        refine Ev.blk (pc' := 36) [(.aload_n 0, 0, 0, 0), (.getfield 7, 0, 10, 0), (.aload_n 0, 0, 0, 0), (.getfield 284, 0, 10, 2), (.iaload, 0, 0, 0), (.bipush 32, 0, 0, 0)] (by decide +kernel) ⟨kf_10_7, ⟨kf_10_284, trivial⟩⟩ rfl (And.intro (kc rfl rfl) (Exists.intro 66 (And.intro rfl (And.intro (kc rfl rfl) (And.intro (kc rfl rfl) (And.intro (ib_ok c4) (?_)))))))
        show Ev l d mi_X10_look 36 [some (.ref 65)] [.int ((Int8.ofInt 32).toInt32), .int (s.1 66 (s.1 65 2).toNatClampNeg)] (hp s) 0 0 _
        refine Ev.icmp_ne (off := 16) (tgt := 52) (by decide +kernel) (by decide) (fun b5 => ?_) (fun b5 => ?_)
        · have hf := (if_neg b5).symm.trans hf
          exact hk52 s _ hf
        · have hf := (if_pos b5).symm.trans hf
          exact (e_X10_look_j39 hd (f_X10_look_L0 k52 n) ih) s _ hf
def f_X10_look_j52 (s : ST) : Option (Int32 × ST) := (if (s.1 65 3) ≤ (s.1 65 2) then some ((Int32.ofInt (-1)), s) else gd (ib (s.1 65 2) 1600) (some ((s.1 66 (s.1 65 2).toNatClampNeg), s)))
set_option maxHeartbeats 2000000 in
set_option maxRecDepth 20000 in
theorem e_X10_look_j52 {l : Launch} {d : Nat} (hd : 1 ≤ d) (s : ST) (r : Int32 × ST) (hf : f_X10_look_j52 s = some r) : Ev l d mi_X10_look 52 [some (.ref 65)] [] (hp s) 0 0 (some (.int r.1), hp r.2) := by
  unfold f_X10_look_j52 at hf
  refine Ev.blk (pc' := 60) [(.aload_n 0, 0, 0, 0), (.getfield 284, 0, 10, 2), (.aload_n 0, 0, 0, 0), (.getfield 287, 0, 10, 3)] (by decide +kernel) ⟨kf_10_284, ⟨kf_10_287, trivial⟩⟩ rfl (And.intro (kc rfl rfl) (And.intro (kc rfl rfl) (?_)))
  show Ev l d mi_X10_look 60 [some (.ref 65)] [.int (s.1 65 3), .int (s.1 65 2)] (hp s) 0 0 _
  refine Ev.icmp_ge (off := 15) (tgt := 75) (by decide +kernel) (by decide) (fun b7 => ?_) (fun b7 => ?_)
  · have hf := (if_pos b7).symm.trans hf
    refine Ev.blk (pc' := 76) [(.iconst (-1), 0, 0, 0)] (by decide +kernel) trivial rfl (?_)
    show Ev l d mi_X10_look 76 [some (.ref 65)] [.int (Int32.ofInt (-1))] (hp s) 0 0 _
    cases hf
    exact Ev.iret .int rfl rfl (by decide +kernel) (Nat.le_refl _) (Nat.le_refl _)
  · have hf := (if_neg b7).symm.trans hf
    obtain ⟨c8, hf⟩ := gd_some hf
    refine Ev.blk (pc' := 72) [(.aload_n 0, 0, 0, 0), (.getfield 7, 0, 10, 0), (.aload_n 0, 0, 0, 0), (.getfield 284, 0, 10, 2), (.iaload, 0, 0, 0)] (by decide +kernel) ⟨kf_10_7, ⟨kf_10_284, trivial⟩⟩ rfl (And.intro (kc rfl rfl) (Exists.intro 66 (And.intro rfl (And.intro (kc rfl rfl) (And.intro (kc rfl rfl) (And.intro (ib_ok c8) (?_)))))))
    show Ev l d mi_X10_look 72 [some (.ref 65)] [.int (s.1 66 (s.1 65 2).toNatClampNeg)] (hp s) 0 0 _
    refine Ev.goto (off := 4) (tgt := 76) (by decide +kernel) (by decide) ?_
    cases hf
    exact Ev.iret .int rfl rfl (by decide +kernel) (Nat.le_refl _) (Nat.le_refl _)
def f_X10_look (s : ST) : Option (Int32 × ST) := (f_X10_look_L0 f_X10_look_j52 fuel)  s
set_option maxHeartbeats 2000000 in
set_option maxRecDepth 20000 in
theorem e_X10_look {l : Launch} {d : Nat} (hd : 1 ≤ d) (s : ST) (r : Int32 × ST) (hf : f_X10_look s = some r) : Cl l d mi_X10_look [.ref 65] (hp s) (some (.int r.1), hp r.2) := by
  refine Ev.entry (by decide +kernel) rfl rfl ?_
  show Ev l d mi_X10_look 0 [some (.ref 65)] [] (hp s) 0 0 _
  unfold f_X10_look at hf
  exact Ev.wk ((e_X10_look_L0 hd f_X10_look_j52 (e_X10_look_j52 hd) fuel)  s _ hf) (And.intro (Or.inr rfl) (trivial))
def f_X10_isHere_L35 (k61 : Nat → Int32 → ST → Option (Int32 × ST)) : Nat → Nat → Int32 → ST → Option (Int32 × ST)
  | 0, _, _, _ => none
  | n + 1, x1, x2, s => (if (s.1 65 3) ≤ x2 then k61 x1 x2 s else gd (ib x2 1600) ((f_X10_isLetter (s.1 66 x2.toNatClampNeg) s).bind (fun q8 => (if q8.1 = 0 then k61 x1 x2 q8.2 else (f_X10_isHere_L35 k61 n) x1 (x2 + Int32.ofInt 1) q8.2))))
set_option maxHeartbeats 2000000 in
set_option maxRecDepth 20000 in
theorem e_X10_isHere_L35 {l : Launch} {d : Nat} (hd : 2 ≤ d) (k61 : Nat → Int32 → ST → Option (Int32 × ST)) (hk61 : ∀ (x1 : Nat) (x2 : Int32) (s : ST) (r : Int32 × ST), k61 x1 x2 s = some r → Ev l d mi_X10_isHere 61 [some (.ref 65), some (.ref x1), some (.int x2), none] [] (hp s) 0 0 (some (.int r.1), hp r.2)) : ∀ (n : Nat) (x1 : Nat) (x2 : Int32) (s : ST) (r : Int32 × ST), f_X10_isHere_L35 k61 n x1 x2 s = some r → Ev l d mi_X10_isHere 35 [some (.ref 65), some (.ref x1), some (.int x2), none] [] (hp s) 0 0 (some (.int r.1), hp r.2) := by
  intro n
  induction n with
  | zero =>
    intro x1 x2 s r hf
    cases hf
  | succ n ih =>
    intro x1 x2 s r hf
    unfold f_X10_isHere_L35 at hf
    refine Ev.blk (pc' := 40) [(.iload_n 2, 0, 0, 0), (.aload_n 0, 0, 0, 0), (.getfield 287, 0, 10, 3)] (by decide +kernel) ⟨kf_10_287, trivial⟩ rfl (And.intro (kc rfl rfl) (?_))
    show Ev l d mi_X10_isHere 40 [some (.ref 65), some (.ref x1), some (.int x2), none] [.int (s.1 65 3), .int x2] (hp s) 0 0 _
    refine Ev.icmp_ge (off := 21) (tgt := 61) (by decide +kernel) (by decide) (fun b6 => ?_) (fun b6 => ?_)
    · have hf := (if_pos b6).symm.trans hf
      exact hk61 x1 x2 s _ hf
    · have hf := (if_neg b6).symm.trans hf
      obtain ⟨c7, hf⟩ := gd_some hf
      refine Ev.blk (pc' := 49) [(.aload_n 0, 0, 0, 0), (.getfield 7, 0, 10, 0), (.iload_n 2, 0, 0, 0), (.iaload, 0, 0, 0)] (by decide +kernel) ⟨kf_10_7, trivial⟩ rfl (And.intro (kc rfl rfl) (Exists.intro 66 (And.intro rfl (And.intro (kc rfl rfl) (And.intro (ib_ok c7) (?_))))))
      show Ev l d mi_X10_isHere 49 [some (.ref 65), some (.ref x1), some (.int x2), none] [.int (s.1 66 x2.toNatClampNeg)] (hp s) 0 0 _
      obtain ⟨q8, hq8, hf⟩ := bd_some hf
      refine Ev.callS (M' := mi_X10_isLetter) (d' := d - 1) (As := [.int (s.1 66 x2.toNatClampNeg)]) (rest := []) (r' := (some (.int q8.1), hp q8.2)) (e_X10_isLetter (d := d - 1) (by omega) (s.1 66 x2.toNatClampNeg) s _ hq8) (by omega) wm_X10_isLetter wt_X10_isLetter km_10_294 rfl rfl rfl (Nat.le_of_ble_eq_true rfl) ⟨Nat.le_of_ble_eq_true rfl, Nat.le_of_ble_eq_true rfl⟩ (by decide +kernel) ?_
      show Ev l d mi_X10_isHere 52 [some (.ref 65), some (.ref x1), some (.int x2), none] [.int q8.1] (hp q8.2) 0 0 _
      refine Ev.if_eq (off := 9) (tgt := 61) (by decide +kernel) (by decide) (fun b9 => ?_) (fun b9 => ?_)
      · have hf := (if_pos b9).symm.trans hf
        exact hk61 x1 x2 q8.2 _ hf
      · have hf := (if_neg b9).symm.trans hf
        refine Ev.blk (pc' := 58) [(.iinc 2 1, 0, 0, 0)] (by decide +kernel) trivial rfl (And.intro (Nat.le_of_ble_eq_true rfl) (?_))
        show Ev l d mi_X10_isHere 58 [some (.ref 65), some (.ref x1), some (.int (x2 + Int32.ofInt 1)), none] [] (hp q8.2) 0 0 _
        refine Ev.goto (off := -23) (tgt := 35) (by decide +kernel) (by decide) ?_
        exact ih x1 (x2 + Int32.ofInt 1) q8.2 _ hf
def f_X10_isHere_L76 : Nat → Nat → Int32 → ST → Option (Int32 × ST)
  | 0, _, _, _ => none
  | n + 1, x1, x3, s => gd (kr x1) ((if (Int32.ofNat (K0 x1).2) ≤ x3 then some ((Int32.ofInt 1), s) else gd (ib ((s.1 65 2) + x3) 1600) (gd (kk x1 12) (gd (ib x3 (K0 x1).2) ((if (s.1 66 ((s.1 65 2) + x3).toNatClampNeg) = (s.1 x1 x3.toNatClampNeg) then (f_X10_isHere_L76 n) x1 (x3 + Int32.ofInt 1) s else some ((Int32.ofInt 0), s)))))))
set_option maxHeartbeats 2000000 in
set_option maxRecDepth 20000 in
theorem e_X10_isHere_L76 {l : Launch} {d : Nat} (hd : 2 ≤ d) : ∀ (n : Nat) (x1 : Nat) (x3 : Int32) (s : ST) (r : Int32 × ST), f_X10_isHere_L76 n x1 x3 s = some r → Ev l d mi_X10_isHere 76 [some (.ref 65), some (.ref x1), none, some (.int x3)] [] (hp s) 0 0 (some (.int r.1), hp r.2) := by
  intro n
  induction n with
  | zero =>
    intro x1 x3 s r hf
    cases hf
  | succ n ih =>
    intro x1 x3 s r hf
    unfold f_X10_isHere_L76 at hf
    obtain ⟨c12, hf⟩ := gd_some hf
    refine Ev.blk (pc' := 79) [(.iload_n 3, 0, 0, 0), (.aload_n 1, 0, 0, 0), (.arraylength, 0, 0, 0)] (by decide +kernel) trivial rfl (And.intro (kr_ok c12) (?_))
    show Ev l d mi_X10_isHere 79 [some (.ref 65), some (.ref x1), none, some (.int x3)] [.int (Int32.ofNat (K0 x1).2), .int x3] (hp s) 0 0 _
    refine Ev.icmp_ge (off := 28) (tgt := 107) (by decide +kernel) (by decide) (fun b13 => ?_) (fun b13 => ?_)
    · have hf := (if_pos b13).symm.trans hf
      refine Ev.blk (pc' := 108) [(.iconst 1, 0, 0, 0)] (by decide +kernel) trivial rfl (?_)
      show Ev l d mi_X10_isHere 108 [some (.ref 65), some (.ref x1), none, some (.int x3)] [.int (Int32.ofInt 1)] (hp s) 0 0 _
      cases hf
      exact Ev.iret .boolean rfl rfl (by decide +kernel) (Nat.le_refl _) (Nat.le_refl _)
    · have hf := (if_neg b13).symm.trans hf
      obtain ⟨c14, hf⟩ := gd_some hf
      obtain ⟨c15, hf⟩ := gd_some hf
      obtain ⟨c16, hf⟩ := gd_some hf
      refine Ev.blk (pc' := 96) [(.aload_n 0, 0, 0, 0), (.getfield 7, 0, 10, 0), (.aload_n 0, 0, 0, 0), (.getfield 284, 0, 10, 2), (.iload_n 3, 0, 0, 0), (.iadd, 0, 0, 0), (.iaload, 0, 0, 0), (.aload_n 1, 0, 0, 0), (.iload_n 3, 0, 0, 0), (.caload, 0, 0, 0)] (by decide +kernel) ⟨kf_10_7, ⟨kf_10_284, trivial⟩⟩ rfl (And.intro (kc rfl rfl) (Exists.intro 66 (And.intro rfl (And.intro (kc rfl rfl) (And.intro (kc rfl rfl) (And.intro (ib_ok c14) (And.intro (kk_ok c15) (And.intro (ib_ok c16) (?_)))))))))
      show Ev l d mi_X10_isHere 96 [some (.ref 65), some (.ref x1), none, some (.int x3)] [.int (s.1 x1 x3.toNatClampNeg), .int (s.1 66 ((s.1 65 2) + x3).toNatClampNeg)] (hp s) 0 0 _
      refine Ev.icmp_eq (off := 5) (tgt := 101) (by decide +kernel) (by decide) (fun b17 => ?_) (fun b17 => ?_)
      · have hf := (if_pos b17).symm.trans hf
        refine Ev.blk (pc' := 104) [(.iinc 3 1, 0, 0, 0)] (by decide +kernel) trivial rfl (And.intro (Nat.le_of_ble_eq_true rfl) (?_))
        show Ev l d mi_X10_isHere 104 [some (.ref 65), some (.ref x1), none, some (.int (x3 + Int32.ofInt 1))] [] (hp s) 0 0 _
        refine Ev.goto (off := -28) (tgt := 76) (by decide +kernel) (by decide) ?_
        exact ih x1 (x3 + Int32.ofInt 1) s _ hf
      · have hf := (if_neg b17).symm.trans hf
        refine Ev.blk (pc' := 100) [(.iconst 0, 0, 0, 0)] (by decide +kernel) trivial rfl (?_)
        show Ev l d mi_X10_isHere 100 [some (.ref 65), some (.ref x1), none, some (.int x3)] [.int (Int32.ofInt 0)] (hp s) 0 0 _
        cases hf
        exact Ev.iret .boolean rfl rfl (by decide +kernel) (Nat.le_refl _) (Nat.le_refl _)
def f_X10_isHere_j61 (x1 : Nat) (x2 : Int32) (s : ST) : Option (Int32 × ST) := gd (kr x1) ((if (x2 - (s.1 65 2)) = (Int32.ofNat (K0 x1).2) then (f_X10_isHere_L76 fuel) x1 (Int32.ofInt 0) s else some ((Int32.ofInt 0), s)))
set_option maxHeartbeats 2000000 in
set_option maxRecDepth 20000 in
theorem e_X10_isHere_j61 {l : Launch} {d : Nat} (hd : 2 ≤ d) (x1 : Nat) (x2 : Int32) (s : ST) (r : Int32 × ST) (hf : f_X10_isHere_j61 x1 x2 s = some r) : Ev l d mi_X10_isHere 61 [some (.ref 65), some (.ref x1), some (.int x2), none] [] (hp s) 0 0 (some (.int r.1), hp r.2) := by
  unfold f_X10_isHere_j61 at hf
  obtain ⟨c10, hf⟩ := gd_some hf
  refine Ev.blk (pc' := 69) [(.iload_n 2, 0, 0, 0), (.aload_n 0, 0, 0, 0), (.getfield 284, 0, 10, 2), (.isub, 0, 0, 0), (.aload_n 1, 0, 0, 0), (.arraylength, 0, 0, 0)] (by decide +kernel) ⟨kf_10_284, trivial⟩ rfl (And.intro (kc rfl rfl) (And.intro (kr_ok c10) (?_)))
  show Ev l d mi_X10_isHere 69 [some (.ref 65), some (.ref x1), some (.int x2), none] [.int (Int32.ofNat (K0 x1).2), .int (x2 - (s.1 65 2))] (hp s) 0 0 _
  refine Ev.icmp_eq (off := 5) (tgt := 74) (by decide +kernel) (by decide) (fun b11 => ?_) (fun b11 => ?_)
  · have hf := (if_pos b11).symm.trans hf
    refine Ev.blk (pc' := 76) [(.iconst 0, 0, 0, 0), (.istore_n 3, 0, 0, 0)] (by decide +kernel) trivial rfl (And.intro (Nat.le_of_ble_eq_true rfl) (?_))
    show Ev l d mi_X10_isHere 76 [some (.ref 65), some (.ref x1), some (.int x2), some (.int (Int32.ofInt 0))] [] (hp s) 0 0 _
    exact Ev.wk ((e_X10_isHere_L76 hd fuel) x1 (Int32.ofInt 0) s _ hf) (And.intro (Or.inr rfl) (And.intro (Or.inr rfl) (And.intro (Or.inl rfl) (And.intro (Or.inr rfl) (trivial)))))
  · have hf := (if_neg b11).symm.trans hf
    refine Ev.blk (pc' := 73) [(.iconst 0, 0, 0, 0)] (by decide +kernel) trivial rfl (?_)
    show Ev l d mi_X10_isHere 73 [some (.ref 65), some (.ref x1), some (.int x2), none] [.int (Int32.ofInt 0)] (hp s) 0 0 _
    cases hf
    exact Ev.iret .boolean rfl rfl (by decide +kernel) (Nat.le_refl _) (Nat.le_refl _)
def f_X10_isHere (p0 : Nat) (s : ST) : Option (Int32 × ST) := (if (s.1 65 5) = 0 then (f_X10_look s).bind (fun q2 => (f_X10_isLetter q2.1 q2.2).bind (fun q3 => (if q3.1 = 0 then some ((Int32.ofInt 0), q3.2) else (if (q3.2.1 65 2) = (q3.2.1 65 4) then some ((Int32.ofInt 0), q3.2) else (f_X10_isHere_L35 f_X10_isHere_j61 fuel) p0 (q3.2.1 65 2) q3.2)))) else some ((Int32.ofInt 0), s))
set_option maxHeartbeats 2000000 in
set_option maxRecDepth 20000 in
theorem e_X10_isHere {l : Launch} {d : Nat} (hd : 2 ≤ d) (p0 : Nat) (s : ST) (r : Int32 × ST) (hf : f_X10_isHere p0 s = some r) : Cl l d mi_X10_isHere [.ref 65, .ref p0] (hp s) (some (.int r.1), hp r.2) := by
  refine Ev.entry (by decide +kernel) rfl rfl ?_
  show Ev l d mi_X10_isHere 0 [some (.ref 65), some (.ref p0), none, none] [] (hp s) 0 0 _
  unfold f_X10_isHere at hf
  refine Ev.blk (pc' := 4) [(.aload_n 0, 0, 0, 0), (.getfield 278, 0, 10, 5)] (by decide +kernel) ⟨kf_10_278, trivial⟩ rfl (And.intro (kc rfl rfl) (?_))
  show Ev l d mi_X10_isHere 4 [some (.ref 65), some (.ref p0), none, none] [.int (s.1 65 5)] (hp s) 0 0 _
  refine Ev.if_ne (off := 24) (tgt := 28) (by decide +kernel) (by decide) (fun b1 => ?_) (fun b1 => ?_)
  · have hf := (if_neg b1).symm.trans hf
    refine Ev.blk (pc' := 29) [(.iconst 0, 0, 0, 0)] (by decide +kernel) trivial rfl (?_)
    show Ev l d mi_X10_isHere 29 [some (.ref 65), some (.ref p0), none, none] [.int (Int32.ofInt 0)] (hp s) 0 0 _
    cases hf
    exact Ev.iret .boolean rfl rfl (by decide +kernel) (Nat.le_refl _) (Nat.le_refl _)
  · have hf := (if_pos b1).symm.trans hf
    refine Ev.blk (pc' := 8) [(.aload_n 0, 0, 0, 0)] (by decide +kernel) trivial rfl (?_)
    show Ev l d mi_X10_isHere 8 [some (.ref 65), some (.ref p0), none, none] [.ref 65] (hp s) 0 0 _
    obtain ⟨q2, hq2, hf⟩ := bd_some hf
    refine Ev.callV (o := 65) (M' := mi_X10_look) (d' := d - 1) (As := []) (rest := []) (r' := (some (.int q2.1), hp q2.2)) (e_X10_look (d := d - 1) (by omega) s _ hq2) (by omega) wm_X10_look wi_X10_look wv_X10_look km_10_290 (kc rfl rfl) (Nat.le_of_ble_eq_true rfl) rfl rfl rfl (Nat.le_of_ble_eq_true rfl) ⟨Nat.le_of_ble_eq_true rfl, Nat.le_of_ble_eq_true rfl⟩ (by decide +kernel) ?_
    show Ev l d mi_X10_isHere 11 [some (.ref 65), some (.ref p0), none, none] [.int q2.1] (hp q2.2) 0 0 _
    obtain ⟨q3, hq3, hf⟩ := bd_some hf
    refine Ev.callS (M' := mi_X10_isLetter) (d' := d - 1) (As := [.int q2.1]) (rest := []) (r' := (some (.int q3.1), hp q3.2)) (e_X10_isLetter (d := d - 1) (by omega) q2.1 q2.2 _ hq3) (by omega) wm_X10_isLetter wt_X10_isLetter km_10_294 rfl rfl rfl (Nat.le_of_ble_eq_true rfl) ⟨Nat.le_of_ble_eq_true rfl, Nat.le_of_ble_eq_true rfl⟩ (by decide +kernel) ?_
    show Ev l d mi_X10_isHere 14 [some (.ref 65), some (.ref p0), none, none] [.int q3.1] (hp q3.2) 0 0 _
    refine Ev.if_eq (off := 14) (tgt := 28) (by decide +kernel) (by decide) (fun b4 => ?_) (fun b4 => ?_)
    · have hf := (if_pos b4).symm.trans hf
      refine Ev.blk (pc' := 29) [(.iconst 0, 0, 0, 0)] (by decide +kernel) trivial rfl (?_)
      show Ev l d mi_X10_isHere 29 [some (.ref 65), some (.ref p0), none, none] [.int (Int32.ofInt 0)] (hp q3.2) 0 0 _
      cases hf
      exact Ev.iret .boolean rfl rfl (by decide +kernel) (Nat.le_refl _) (Nat.le_refl _)
    · have hf := (if_neg b4).symm.trans hf
      refine Ev.blk (pc' := 25) [(.aload_n 0, 0, 0, 0), (.getfield 284, 0, 10, 2), (.aload_n 0, 0, 0, 0), (.getfield 298, 0, 10, 4)] (by decide +kernel) ⟨kf_10_284, ⟨kf_10_298, trivial⟩⟩ rfl (And.intro (kc rfl rfl) (And.intro (kc rfl rfl) (?_)))
      show Ev l d mi_X10_isHere 25 [some (.ref 65), some (.ref p0), none, none] [.int (q3.2.1 65 4), .int (q3.2.1 65 2)] (hp q3.2) 0 0 _
      refine Ev.icmp_ne (off := 5) (tgt := 30) (by decide +kernel) (by decide) (fun b5 => ?_) (fun b5 => ?_)
      · have hf := (if_neg b5).symm.trans hf
        refine Ev.blk (pc' := 35) [(.aload_n 0, 0, 0, 0), (.getfield 284, 0, 10, 2), (.istore_n 2, 0, 0, 0)] (by decide +kernel) ⟨kf_10_284, trivial⟩ rfl (And.intro (kc rfl rfl) (And.intro (Nat.le_of_ble_eq_true rfl) (?_)))
        show Ev l d mi_X10_isHere 35 [some (.ref 65), some (.ref p0), some (.int (q3.2.1 65 2)), none] [] (hp q3.2) 0 0 _
        exact (e_X10_isHere_L35 hd f_X10_isHere_j61 (e_X10_isHere_j61 hd) fuel) p0 (q3.2.1 65 2) q3.2 _ hf
      · have hf := (if_pos b5).symm.trans hf
        refine Ev.blk (pc' := 29) [(.iconst 0, 0, 0, 0)] (by decide +kernel) trivial rfl (?_)
        show Ev l d mi_X10_isHere 29 [some (.ref 65), some (.ref p0), none, none] [.int (Int32.ofInt 0)] (hp q3.2) 0 0 _
        cases hf
        exact Ev.iret .boolean rfl rfl (by decide +kernel) (Nat.le_refl _) (Nat.le_refl _)
def f_X10_takes (p0 : Nat) (s : ST) : Option (Int32 × ST) := (f_X10_isHere p0 s).bind (fun q1 => (if q1.1 = 0 then some ((Int32.ofInt 0), q1.2) else gd (kr p0) (lt (uI (uI q1.2 65 2 ((q1.2.1 65 2) + (Int32.ofNat (K0 p0).2))) 65 4 ((uI q1.2 65 2 ((q1.2.1 65 2) + (Int32.ofNat (K0 p0).2))).1 65 2)) (fun s4 => some ((Int32.ofInt 1), s4)))))
set_option maxHeartbeats 2000000 in
set_option maxRecDepth 20000 in
theorem e_X10_takes {l : Launch} {d : Nat} (hd : 3 ≤ d) (p0 : Nat) (s : ST) (r : Int32 × ST) (hf : f_X10_takes p0 s = some r) : Cl l d mi_X10_takes [.ref 65, .ref p0] (hp s) (some (.int r.1), hp r.2) := by
  refine Ev.entry (by decide +kernel) rfl rfl ?_
  show Ev l d mi_X10_takes 0 [some (.ref 65), some (.ref p0)] [] (hp s) 0 0 _
  unfold f_X10_takes at hf
  refine Ev.blk (pc' := 2) [(.aload_n 0, 0, 0, 0), (.aload_n 1, 0, 0, 0)] (by decide +kernel) trivial rfl (?_)
  show Ev l d mi_X10_takes 2 [some (.ref 65), some (.ref p0)] [.ref p0, .ref 65] (hp s) 0 0 _
  obtain ⟨q1, hq1, hf⟩ := bd_some hf
  refine Ev.callV (o := 65) (M' := mi_X10_isHere) (d' := d - 1) (As := [.ref p0]) (rest := []) (r' := (some (.int q1.1), hp q1.2)) (e_X10_isHere (d := d - 1) (by omega) p0 s _ hq1) (by omega) wm_X10_isHere wi_X10_isHere wv_X10_isHere km_10_301 (kc rfl rfl) (Nat.le_of_ble_eq_true rfl) rfl rfl rfl (Nat.le_of_ble_eq_true rfl) ⟨Nat.le_of_ble_eq_true rfl, Nat.le_of_ble_eq_true rfl⟩ (by decide +kernel) ?_
  show Ev l d mi_X10_takes 5 [some (.ref 65), some (.ref p0)] [.int q1.1] (hp q1.2) 0 0 _
  refine Ev.if_ne (off := 5) (tgt := 10) (by decide +kernel) (by decide) (fun b2 => ?_) (fun b2 => ?_)
  · have hf := (if_neg b2).symm.trans hf
    obtain ⟨c3, hf⟩ := gd_some hf
    obtain ⟨s4, hs4, hf⟩ := lt_some hf
    refine Ev.blk (pc' := 30) [(.aload_n 0, 0, 0, 0), (.dup, 0, 0, 0), (.getfield 284, 0, 10, 2), (.aload_n 1, 0, 0, 0), (.arraylength, 0, 0, 0), (.iadd, 0, 0, 0), (.putfield 284, 0, 10, 2), (.aload_n 0, 0, 0, 0), (.aload_n 0, 0, 0, 0), (.getfield 284, 0, 10, 2), (.putfield 298, 0, 10, 4), (.iconst 1, 0, 0, 0)] (by decide +kernel) ⟨kf_10_284, ⟨⟨kf_10_284, Or.inl rfl⟩, ⟨kf_10_284, ⟨⟨kf_10_298, Or.inl rfl⟩, trivial⟩⟩⟩⟩ rfl (And.intro rfl (And.intro (kc rfl rfl) (And.intro (kr_ok c3) (And.intro (kc rfl rfl) (And.intro (kc rfl rfl) (And.intro (kc rfl rfl) (?_)))))))
    show Ev l d mi_X10_takes 30 [some (.ref 65), some (.ref p0)] [.int (Int32.ofInt 1)] (hp (uI (uI q1.2 65 2 ((q1.2.1 65 2) + (Int32.ofNat (K0 p0).2))) 65 4 ((uI q1.2 65 2 ((q1.2.1 65 2) + (Int32.ofNat (K0 p0).2))).1 65 2))) 0 0 _
    rw [← hs4]
    cases hf
    exact Ev.iret .boolean rfl rfl (by decide +kernel) (Nat.le_refl _) (Nat.le_refl _)
  · have hf := (if_pos b2).symm.trans hf
    refine Ev.blk (pc' := 9) [(.iconst 0, 0, 0, 0)] (by decide +kernel) trivial rfl (?_)
    show Ev l d mi_X10_takes 9 [some (.ref 65), some (.ref p0)] [.int (Int32.ofInt 0)] (hp q1.2) 0 0 _
    cases hf
    exact Ev.iret .boolean rfl rfl (by decide +kernel) (Nat.le_refl _) (Nat.le_refl _)
def f_X10_asks (p0 : Nat) (s : ST) : Option (ST) := (if (s.1 65 5) = 0 then (f_X10_takes p0 s).bind (fun q2 => (if q2.1 = 0 then (f_X10_fail (Int32.ofInt 1) (q2.2.1 65 2) q2.2).bind (fun q4 => some q4) else some q2.2)) else some s)
set_option maxHeartbeats 2000000 in
set_option maxRecDepth 20000 in
theorem e_X10_asks {l : Launch} {d : Nat} (hd : 4 ≤ d) (p0 : Nat) (s : ST) (r : ST) (hf : f_X10_asks p0 s = some r) : Cl l d mi_X10_asks [.ref 65, .ref p0] (hp s) (none, hp r) := by
  refine Ev.entry (by decide +kernel) rfl rfl ?_
  show Ev l d mi_X10_asks 0 [some (.ref 65), some (.ref p0)] [] (hp s) 0 0 _
  unfold f_X10_asks at hf
  refine Ev.blk (pc' := 4) [(.aload_n 0, 0, 0, 0), (.getfield 278, 0, 10, 5)] (by decide +kernel) ⟨kf_10_278, trivial⟩ rfl (And.intro (kc rfl rfl) (?_))
  show Ev l d mi_X10_asks 4 [some (.ref 65), some (.ref p0)] [.int (s.1 65 5)] (hp s) 0 0 _
  refine Ev.if_ne (off := 20) (tgt := 24) (by decide +kernel) (by decide) (fun b1 => ?_) (fun b1 => ?_)
  · have hf := (if_neg b1).symm.trans hf
    cases hf
    exact Ev.vret rfl (by decide +kernel) (Nat.le_refl _) (Nat.le_refl _)
  · have hf := (if_pos b1).symm.trans hf
    refine Ev.blk (pc' := 9) [(.aload_n 0, 0, 0, 0), (.aload_n 1, 0, 0, 0)] (by decide +kernel) trivial rfl (?_)
    show Ev l d mi_X10_asks 9 [some (.ref 65), some (.ref p0)] [.ref p0, .ref 65] (hp s) 0 0 _
    obtain ⟨q2, hq2, hf⟩ := bd_some hf
    refine Ev.callV (o := 65) (M' := mi_X10_takes) (d' := d - 1) (As := [.ref p0]) (rest := []) (r' := (some (.int q2.1), hp q2.2)) (e_X10_takes (d := d - 1) (by omega) p0 s _ hq2) (by omega) wm_X10_takes wi_X10_takes wv_X10_takes km_10_305 (kc rfl rfl) (Nat.le_of_ble_eq_true rfl) rfl rfl rfl (Nat.le_of_ble_eq_true rfl) ⟨Nat.le_of_ble_eq_true rfl, Nat.le_of_ble_eq_true rfl⟩ (by decide +kernel) ?_
    show Ev l d mi_X10_asks 12 [some (.ref 65), some (.ref p0)] [.int q2.1] (hp q2.2) 0 0 _
    refine Ev.if_ne (off := 12) (tgt := 24) (by decide +kernel) (by decide) (fun b3 => ?_) (fun b3 => ?_)
    · have hf := (if_neg b3).symm.trans hf
      cases hf
      exact Ev.vret rfl (by decide +kernel) (Nat.le_refl _) (Nat.le_refl _)
    · have hf := (if_pos b3).symm.trans hf
      refine Ev.blk (pc' := 21) [(.aload_n 0, 0, 0, 0), (.iconst 1, 0, 0, 0), (.aload_n 0, 0, 0, 0), (.getfield 284, 0, 10, 2)] (by decide +kernel) ⟨kf_10_284, trivial⟩ rfl (And.intro (kc rfl rfl) (?_))
      show Ev l d mi_X10_asks 21 [some (.ref 65), some (.ref p0)] [.int (q2.2.1 65 2), .int (Int32.ofInt 1), .ref 65] (hp q2.2) 0 0 _
      obtain ⟨q4, hq4, hf⟩ := bd_some hf
      refine Ev.callV (o := 65) (M' := mi_X10_fail) (d' := d - 1) (As := [.int (Int32.ofInt 1), .int (q2.2.1 65 2)]) (rest := []) (r' := (none, hp q4)) (e_X10_fail (d := d - 1) (by omega) (Int32.ofInt 1) (q2.2.1 65 2) q2.2 _ hq4) (by omega) wm_X10_fail wi_X10_fail wv_X10_fail km_10_308 (kc rfl rfl) (Nat.le_of_ble_eq_true rfl) rfl rfl rfl (Nat.le_of_ble_eq_true rfl) ⟨Nat.le_of_ble_eq_true rfl, Nat.le_of_ble_eq_true rfl⟩ (by decide +kernel) ?_
      show Ev l d mi_X10_asks 24 [some (.ref 65), some (.ref p0)] [] (hp q4) 0 0 _
      cases hf
      exact Ev.vret rfl (by decide +kernel) (Nat.le_refl _) (Nat.le_refl _)
def f_X10_takesSign (p0 : Int32) (s : ST) : Option (Int32 × ST) := (if (s.1 65 5) = 0 then (f_X10_look s).bind (fun q2 => (if q2.1 = p0 then lt (uI q2.2 65 2 ((q2.2.1 65 2) + (Int32.ofInt 1))) (fun s4 => some ((Int32.ofInt 1), s4)) else some ((Int32.ofInt 0), q2.2))) else some ((Int32.ofInt 0), s))
set_option maxHeartbeats 2000000 in
set_option maxRecDepth 20000 in
theorem e_X10_takesSign {l : Launch} {d : Nat} (hd : 2 ≤ d) (p0 : Int32) (s : ST) (r : Int32 × ST) (hf : f_X10_takesSign p0 s = some r) : Cl l d mi_X10_takesSign [.ref 65, .int p0] (hp s) (some (.int r.1), hp r.2) := by
  refine Ev.entry (by decide +kernel) rfl rfl ?_
  show Ev l d mi_X10_takesSign 0 [some (.ref 65), some (.int p0)] [] (hp s) 0 0 _
  unfold f_X10_takesSign at hf
  refine Ev.blk (pc' := 4) [(.aload_n 0, 0, 0, 0), (.getfield 278, 0, 10, 5)] (by decide +kernel) ⟨kf_10_278, trivial⟩ rfl (And.intro (kc rfl rfl) (?_))
  show Ev l d mi_X10_takesSign 4 [some (.ref 65), some (.int p0)] [.int (s.1 65 5)] (hp s) 0 0 _
  refine Ev.if_ne (off := 11) (tgt := 15) (by decide +kernel) (by decide) (fun b1 => ?_) (fun b1 => ?_)
  · have hf := (if_neg b1).symm.trans hf
    refine Ev.blk (pc' := 16) [(.iconst 0, 0, 0, 0)] (by decide +kernel) trivial rfl (?_)
    show Ev l d mi_X10_takesSign 16 [some (.ref 65), some (.int p0)] [.int (Int32.ofInt 0)] (hp s) 0 0 _
    cases hf
    exact Ev.iret .boolean rfl rfl (by decide +kernel) (Nat.le_refl _) (Nat.le_refl _)
  · have hf := (if_pos b1).symm.trans hf
    refine Ev.blk (pc' := 8) [(.aload_n 0, 0, 0, 0)] (by decide +kernel) trivial rfl (?_)
    show Ev l d mi_X10_takesSign 8 [some (.ref 65), some (.int p0)] [.ref 65] (hp s) 0 0 _
    obtain ⟨q2, hq2, hf⟩ := bd_some hf
    refine Ev.callV (o := 65) (M' := mi_X10_look) (d' := d - 1) (As := []) (rest := []) (r' := (some (.int q2.1), hp q2.2)) (e_X10_look (d := d - 1) (by omega) s _ hq2) (by omega) wm_X10_look wi_X10_look wv_X10_look km_10_290 (kc rfl rfl) (Nat.le_of_ble_eq_true rfl) rfl rfl rfl (Nat.le_of_ble_eq_true rfl) ⟨Nat.le_of_ble_eq_true rfl, Nat.le_of_ble_eq_true rfl⟩ (by decide +kernel) ?_
    show Ev l d mi_X10_takesSign 11 [some (.ref 65), some (.int p0)] [.int q2.1] (hp q2.2) 0 0 _
    refine Ev.blk (pc' := 12) [(.iload_n 1, 0, 0, 0)] (by decide +kernel) trivial rfl (?_)
    show Ev l d mi_X10_takesSign 12 [some (.ref 65), some (.int p0)] [.int p0, .int q2.1] (hp q2.2) 0 0 _
    refine Ev.icmp_eq (off := 5) (tgt := 17) (by decide +kernel) (by decide) (fun b3 => ?_) (fun b3 => ?_)
    · have hf := (if_pos b3).symm.trans hf
      obtain ⟨s4, hs4, hf⟩ := lt_some hf
      refine Ev.blk (pc' := 28) [(.aload_n 0, 0, 0, 0), (.dup, 0, 0, 0), (.getfield 284, 0, 10, 2), (.iconst 1, 0, 0, 0), (.iadd, 0, 0, 0), (.putfield 284, 0, 10, 2), (.iconst 1, 0, 0, 0)] (by decide +kernel) ⟨kf_10_284, ⟨⟨kf_10_284, Or.inl rfl⟩, trivial⟩⟩ rfl (And.intro rfl (And.intro (kc rfl rfl) (And.intro (kc rfl rfl) (?_))))
      show Ev l d mi_X10_takesSign 28 [some (.ref 65), some (.int p0)] [.int (Int32.ofInt 1)] (hp (uI q2.2 65 2 ((q2.2.1 65 2) + (Int32.ofInt 1)))) 0 0 _
      rw [← hs4]
      cases hf
      exact Ev.iret .boolean rfl rfl (by decide +kernel) (Nat.le_refl _) (Nat.le_refl _)
    · have hf := (if_neg b3).symm.trans hf
      refine Ev.blk (pc' := 16) [(.iconst 0, 0, 0, 0)] (by decide +kernel) trivial rfl (?_)
      show Ev l d mi_X10_takesSign 16 [some (.ref 65), some (.int p0)] [.int (Int32.ofInt 0)] (hp q2.2) 0 0 _
      cases hf
      exact Ev.iret .boolean rfl rfl (by decide +kernel) (Nat.le_refl _) (Nat.le_refl _)
def f_X10_asksSign (p0 : Int32) (s : ST) : Option (ST) := (if (s.1 65 5) = 0 then (f_X10_takesSign p0 s).bind (fun q2 => (if q2.1 = 0 then (f_X10_fail (Int32.ofInt 1) (q2.2.1 65 2) q2.2).bind (fun q4 => some q4) else some q2.2)) else some s)
set_option maxHeartbeats 2000000 in
set_option maxRecDepth 20000 in
theorem e_X10_asksSign {l : Launch} {d : Nat} (hd : 3 ≤ d) (p0 : Int32) (s : ST) (r : ST) (hf : f_X10_asksSign p0 s = some r) : Cl l d mi_X10_asksSign [.ref 65, .int p0] (hp s) (none, hp r) := by
  refine Ev.entry (by decide +kernel) rfl rfl ?_
  show Ev l d mi_X10_asksSign 0 [some (.ref 65), some (.int p0)] [] (hp s) 0 0 _
  unfold f_X10_asksSign at hf
  refine Ev.blk (pc' := 4) [(.aload_n 0, 0, 0, 0), (.getfield 278, 0, 10, 5)] (by decide +kernel) ⟨kf_10_278, trivial⟩ rfl (And.intro (kc rfl rfl) (?_))
  show Ev l d mi_X10_asksSign 4 [some (.ref 65), some (.int p0)] [.int (s.1 65 5)] (hp s) 0 0 _
  refine Ev.if_ne (off := 20) (tgt := 24) (by decide +kernel) (by decide) (fun b1 => ?_) (fun b1 => ?_)
  · have hf := (if_neg b1).symm.trans hf
    cases hf
    exact Ev.vret rfl (by decide +kernel) (Nat.le_refl _) (Nat.le_refl _)
  · have hf := (if_pos b1).symm.trans hf
    refine Ev.blk (pc' := 9) [(.aload_n 0, 0, 0, 0), (.iload_n 1, 0, 0, 0)] (by decide +kernel) trivial rfl (?_)
    show Ev l d mi_X10_asksSign 9 [some (.ref 65), some (.int p0)] [.int p0, .ref 65] (hp s) 0 0 _
    obtain ⟨q2, hq2, hf⟩ := bd_some hf
    refine Ev.callV (o := 65) (M' := mi_X10_takesSign) (d' := d - 1) (As := [.int p0]) (rest := []) (r' := (some (.int q2.1), hp q2.2)) (e_X10_takesSign (d := d - 1) (by omega) p0 s _ hq2) (by omega) wm_X10_takesSign wi_X10_takesSign wv_X10_takesSign km_10_312 (kc rfl rfl) (Nat.le_of_ble_eq_true rfl) rfl rfl rfl (Nat.le_of_ble_eq_true rfl) ⟨Nat.le_of_ble_eq_true rfl, Nat.le_of_ble_eq_true rfl⟩ (by decide +kernel) ?_
    show Ev l d mi_X10_asksSign 12 [some (.ref 65), some (.int p0)] [.int q2.1] (hp q2.2) 0 0 _
    refine Ev.if_ne (off := 12) (tgt := 24) (by decide +kernel) (by decide) (fun b3 => ?_) (fun b3 => ?_)
    · have hf := (if_neg b3).symm.trans hf
      cases hf
      exact Ev.vret rfl (by decide +kernel) (Nat.le_refl _) (Nat.le_refl _)
    · have hf := (if_pos b3).symm.trans hf
      refine Ev.blk (pc' := 21) [(.aload_n 0, 0, 0, 0), (.iconst 1, 0, 0, 0), (.aload_n 0, 0, 0, 0), (.getfield 284, 0, 10, 2)] (by decide +kernel) ⟨kf_10_284, trivial⟩ rfl (And.intro (kc rfl rfl) (?_))
      show Ev l d mi_X10_asksSign 21 [some (.ref 65), some (.int p0)] [.int (q2.2.1 65 2), .int (Int32.ofInt 1), .ref 65] (hp q2.2) 0 0 _
      obtain ⟨q4, hq4, hf⟩ := bd_some hf
      refine Ev.callV (o := 65) (M' := mi_X10_fail) (d' := d - 1) (As := [.int (Int32.ofInt 1), .int (q2.2.1 65 2)]) (rest := []) (r' := (none, hp q4)) (e_X10_fail (d := d - 1) (by omega) (Int32.ofInt 1) (q2.2.1 65 2) q2.2 _ hq4) (by omega) wm_X10_fail wi_X10_fail wv_X10_fail km_10_308 (kc rfl rfl) (Nat.le_of_ble_eq_true rfl) rfl rfl rfl (Nat.le_of_ble_eq_true rfl) ⟨Nat.le_of_ble_eq_true rfl, Nat.le_of_ble_eq_true rfl⟩ (by decide +kernel) ?_
      show Ev l d mi_X10_asksSign 24 [some (.ref 65), some (.int p0)] [] (hp q4) 0 0 _
      cases hf
      exact Ev.vret rfl (by decide +kernel) (Nat.le_refl _) (Nat.le_refl _)
def f_X10_number_L49 (k85 : ST → Option (Int32 × ST)) (k129 : Int32 → Int32 → Int32 → Int32 → ST → Option (Int32 × ST)) : Nat → Int32 → Int32 → Int32 → Int32 → ST → Option (Int32 × ST)
  | 0, _, _, _, _, _ => none
  | n + 1, x1, x2, x3, x4, s => (if (s.1 65 3) ≤ (s.1 65 2) then k129 x1 x2 x3 x4 s else gd (ib (s.1 65 2) 1600) ((f_X10_isDigit (s.1 66 (s.1 65 2).toNatClampNeg) s).bind (fun q9 => (if q9.1 = 0 then k129 x1 x2 x3 x4 q9.2 else (if ((q9.2.1 65 2) - x3) = (Int32.ofInt 4) then k85 q9.2 else gd (ib (q9.2.1 65 2) 1600) (lt (uI q9.2 65 2 ((q9.2.1 65 2) + (Int32.ofInt 1))) (fun s13 => lt (((((Int8.ofInt 10).toInt32) * x4) + (q9.2.1 66 (q9.2.1 65 2).toNatClampNeg)) - ((Int8.ofInt 48).toInt32)) (fun v14 => (f_X10_number_L49 k85 k129 n) x1 x2 x3 v14 s13))))))))
set_option maxHeartbeats 2000000 in
set_option maxRecDepth 20000 in
theorem e_X10_number_L49 {l : Launch} {d : Nat} (hd : 2 ≤ d) (k85 : ST → Option (Int32 × ST)) (k129 : Int32 → Int32 → Int32 → Int32 → ST → Option (Int32 × ST)) (hk85 : ∀ (s : ST) (r : Int32 × ST), k85 s = some r → Ev l d mi_X10_number 85 [some (.ref 65), none, none, none, none] [] (hp s) 0 0 (some (.int r.1), hp r.2)) (hk129 : ∀ (x1 : Int32) (x2 : Int32) (x3 : Int32) (x4 : Int32) (s : ST) (r : Int32 × ST), k129 x1 x2 x3 x4 s = some r → Ev l d mi_X10_number 129 [some (.ref 65), some (.int x1), some (.int x2), some (.int x3), some (.int x4)] [] (hp s) 0 0 (some (.int r.1), hp r.2)) : ∀ (n : Nat) (x1 : Int32) (x2 : Int32) (x3 : Int32) (x4 : Int32) (s : ST) (r : Int32 × ST), f_X10_number_L49 k85 k129 n x1 x2 x3 x4 s = some r → Ev l d mi_X10_number 49 [some (.ref 65), some (.int x1), some (.int x2), some (.int x3), some (.int x4)] [] (hp s) 0 0 (some (.int r.1), hp r.2) := by
  intro n
  induction n with
  | zero =>
    intro x1 x2 x3 x4 s r hf
    cases hf
  | succ n ih =>
    intro x1 x2 x3 x4 s r hf
    unfold f_X10_number_L49 at hf
    refine Ev.blk (pc' := 57) [(.aload_n 0, 0, 0, 0), (.getfield 284, 0, 10, 2), (.aload_n 0, 0, 0, 0), (.getfield 287, 0, 10, 3)] (by decide +kernel) ⟨kf_10_284, ⟨kf_10_287, trivial⟩⟩ rfl (And.intro (kc rfl rfl) (And.intro (kc rfl rfl) (?_)))
    show Ev l d mi_X10_number 57 [some (.ref 65), some (.int x1), some (.int x2), some (.int x3), some (.int x4)] [.int (s.1 65 3), .int (s.1 65 2)] (hp s) 0 0 _
    refine Ev.icmp_ge (off := 72) (tgt := 129) (by decide +kernel) (by decide) (fun b7 => ?_) (fun b7 => ?_)
    · have hf := (if_pos b7).symm.trans hf
      exact hk129 x1 x2 x3 x4 s _ hf
    · have hf := (if_neg b7).symm.trans hf
      obtain ⟨c8, hf⟩ := gd_some hf
      refine Ev.blk (pc' := 69) [(.aload_n 0, 0, 0, 0), (.getfield 7, 0, 10, 0), (.aload_n 0, 0, 0, 0), (.getfield 284, 0, 10, 2), (.iaload, 0, 0, 0)] (by decide +kernel) ⟨kf_10_7, ⟨kf_10_284, trivial⟩⟩ rfl (And.intro (kc rfl rfl) (Exists.intro 66 (And.intro rfl (And.intro (kc rfl rfl) (And.intro (kc rfl rfl) (And.intro (ib_ok c8) (?_)))))))
      show Ev l d mi_X10_number 69 [some (.ref 65), some (.int x1), some (.int x2), some (.int x3), some (.int x4)] [.int (s.1 66 (s.1 65 2).toNatClampNeg)] (hp s) 0 0 _
      obtain ⟨q9, hq9, hf⟩ := bd_some hf
      refine Ev.callS (M' := mi_X10_isDigit) (d' := d - 1) (As := [.int (s.1 66 (s.1 65 2).toNatClampNeg)]) (rest := []) (r' := (some (.int q9.1), hp q9.2)) (e_X10_isDigit (d := d - 1) (by omega) (s.1 66 (s.1 65 2).toNatClampNeg) s _ hq9) (by omega) wm_X10_isDigit wt_X10_isDigit km_10_315 rfl rfl rfl (Nat.le_of_ble_eq_true rfl) ⟨Nat.le_of_ble_eq_true rfl, Nat.le_of_ble_eq_true rfl⟩ (by decide +kernel) ?_
      show Ev l d mi_X10_number 72 [some (.ref 65), some (.int x1), some (.int x2), some (.int x3), some (.int x4)] [.int q9.1] (hp q9.2) 0 0 _
      refine Ev.if_eq (off := 57) (tgt := 129) (by decide +kernel) (by decide) (fun b10 => ?_) (fun b10 => ?_)
      · have hf := (if_pos b10).symm.trans hf
        exact hk129 x1 x2 x3 x4 q9.2 _ hf
      · have hf := (if_neg b10).symm.trans hf
        refine Ev.blk (pc' := 82) [(.aload_n 0, 0, 0, 0), (.getfield 284, 0, 10, 2), (.iload_n 3, 0, 0, 0), (.isub, 0, 0, 0), (.iconst 4, 0, 0, 0)] (by decide +kernel) ⟨kf_10_284, trivial⟩ rfl (And.intro (kc rfl rfl) (?_))
        show Ev l d mi_X10_number 82 [some (.ref 65), some (.int x1), some (.int x2), some (.int x3), some (.int x4)] [.int (Int32.ofInt 4), .int ((q9.2.1 65 2) - x3)] (hp q9.2) 0 0 _
        refine Ev.icmp_ne (off := 14) (tgt := 96) (by decide +kernel) (by decide) (fun b11 => ?_) (fun b11 => ?_)
        · have hf := (if_neg b11).symm.trans hf
          obtain ⟨c12, hf⟩ := gd_some hf
          obtain ⟨s13, hs13, hf⟩ := lt_some hf
          obtain ⟨v14, hv14, hf⟩ := lt_some hf
          refine Ev.blk (pc' := 126) [(.bipush 10, 0, 0, 0), (.iload 4, 0, 0, 0), (.imul, 0, 0, 0), (.aload_n 0, 0, 0, 0), (.getfield 7, 0, 10, 0), (.aload_n 0, 0, 0, 0), (.getfield 284, 0, 10, 2), (.iaload, 0, 0, 0), (.iadd, 0, 0, 0), (.bipush 48, 0, 0, 0), (.isub, 0, 0, 0), (.istore 4, 0, 0, 0), (.aload_n 0, 0, 0, 0), (.dup, 0, 0, 0), (.getfield 284, 0, 10, 2), (.iconst 1, 0, 0, 0), (.iadd, 0, 0, 0), (.putfield 284, 0, 10, 2)] (by decide +kernel) ⟨kf_10_7, ⟨kf_10_284, ⟨kf_10_284, ⟨⟨kf_10_284, Or.inl rfl⟩, trivial⟩⟩⟩⟩ rfl (And.intro (kc rfl rfl) (Exists.intro 66 (And.intro rfl (And.intro (kc rfl rfl) (And.intro (kc rfl rfl) (And.intro (ib_ok c12) (And.intro (Nat.le_of_ble_eq_true rfl) (And.intro rfl (And.intro (kc rfl rfl) (And.intro (kc rfl rfl) (?_)))))))))))
          show Ev l d mi_X10_number 126 [some (.ref 65), some (.int x1), some (.int x2), some (.int x3), some (.int (((((Int8.ofInt 10).toInt32) * x4) + (q9.2.1 66 (q9.2.1 65 2).toNatClampNeg)) - ((Int8.ofInt 48).toInt32)))] [] (hp (uI q9.2 65 2 ((q9.2.1 65 2) + (Int32.ofInt 1)))) 0 0 _
          rw [← hs13, ← hv14]
          refine Ev.goto (off := -77) (tgt := 49) (by decide +kernel) (by decide) ?_
          exact ih x1 x2 x3 v14 s13 _ hf
        · have hf := (if_pos b11).symm.trans hf
          exact Ev.wk (hk85 q9.2 _ hf) (And.intro (Or.inr rfl) (And.intro (Or.inl rfl) (And.intro (Or.inl rfl) (And.intro (Or.inl rfl) (And.intro (Or.inl rfl) (trivial))))))
def f_X10_number_j85 (s : ST) : Option (Int32 × ST) := (f_X10_fail (Int32.ofInt 1) (s.1 65 2) s).bind (fun q15 => some ((Int32.ofInt 0), q15))
set_option maxHeartbeats 2000000 in
set_option maxRecDepth 20000 in
theorem e_X10_number_j85 {l : Launch} {d : Nat} (hd : 2 ≤ d) (s : ST) (r : Int32 × ST) (hf : f_X10_number_j85 s = some r) : Ev l d mi_X10_number 85 [some (.ref 65), none, none, none, none] [] (hp s) 0 0 (some (.int r.1), hp r.2) := by
  unfold f_X10_number_j85 at hf
  refine Ev.blk (pc' := 91) [(.aload_n 0, 0, 0, 0), (.iconst 1, 0, 0, 0), (.aload_n 0, 0, 0, 0), (.getfield 284, 0, 10, 2)] (by decide +kernel) ⟨kf_10_284, trivial⟩ rfl (And.intro (kc rfl rfl) (?_))
  show Ev l d mi_X10_number 91 [some (.ref 65), none, none, none, none] [.int (s.1 65 2), .int (Int32.ofInt 1), .ref 65] (hp s) 0 0 _
  obtain ⟨q15, hq15, hf⟩ := bd_some hf
  refine Ev.callV (o := 65) (M' := mi_X10_fail) (d' := d - 1) (As := [.int (Int32.ofInt 1), .int (s.1 65 2)]) (rest := []) (r' := (none, hp q15)) (e_X10_fail (d := d - 1) (by omega) (Int32.ofInt 1) (s.1 65 2) s _ hq15) (by omega) wm_X10_fail wi_X10_fail wv_X10_fail km_10_308 (kc rfl rfl) (Nat.le_of_ble_eq_true rfl) rfl rfl rfl (Nat.le_of_ble_eq_true rfl) ⟨Nat.le_of_ble_eq_true rfl, Nat.le_of_ble_eq_true rfl⟩ (by decide +kernel) ?_
  show Ev l d mi_X10_number 94 [some (.ref 65), none, none, none, none] [] (hp q15) 0 0 _
  refine Ev.blk (pc' := 95) [(.iconst 0, 0, 0, 0)] (by decide +kernel) trivial rfl (?_)
  show Ev l d mi_X10_number 95 [some (.ref 65), none, none, none, none] [.int (Int32.ofInt 0)] (hp q15) 0 0 _
  cases hf
  exact Ev.iret .int rfl rfl (by decide +kernel) (Nat.le_refl _) (Nat.le_refl _)
def f_X10_number_j129 (x1 : Int32) (x2 : Int32) (x3 : Int32) (x4 : Int32) (s : ST) : Option (Int32 × ST) := lt (uI (uI s 65 4 (s.1 65 2)) 65 10 x3) (fun s16 => (f_X10_isIn ((x4).toInt64) ((x1).toInt64) ((x2).toInt64) s16).bind (fun q17 => (if q17.1 = 0 then (f_X10_fail (Int32.ofInt 2) x3 q17.2).bind (fun q19 => some (x4, q19)) else some (x4, q17.2))))
set_option maxHeartbeats 2000000 in
set_option maxRecDepth 20000 in
theorem e_X10_number_j129 {l : Launch} {d : Nat} (hd : 2 ≤ d) (x1 : Int32) (x2 : Int32) (x3 : Int32) (x4 : Int32) (s : ST) (r : Int32 × ST) (hf : f_X10_number_j129 x1 x2 x3 x4 s = some r) : Ev l d mi_X10_number 129 [some (.ref 65), some (.int x1), some (.int x2), some (.int x3), some (.int x4)] [] (hp s) 0 0 (some (.int r.1), hp r.2) := by
  unfold f_X10_number_j129 at hf
  obtain ⟨s16, hs16, hf⟩ := lt_some hf
  refine Ev.blk (pc' := 149) [(.aload_n 0, 0, 0, 0), (.aload_n 0, 0, 0, 0), (.getfield 284, 0, 10, 2), (.putfield 298, 0, 10, 4), (.aload_n 0, 0, 0, 0), (.iload_n 3, 0, 0, 0), (.putfield 318, 0, 10, 10), (.iload 4, 0, 0, 0), (.i2l, 0, 0, 0), (.iload_n 1, 0, 0, 0), (.i2l, 0, 0, 0), (.iload_n 2, 0, 0, 0), (.i2l, 0, 0, 0)] (by decide +kernel) ⟨kf_10_284, ⟨⟨kf_10_298, Or.inl rfl⟩, ⟨⟨kf_10_318, Or.inl rfl⟩, trivial⟩⟩⟩ rfl (And.intro (kc rfl rfl) (And.intro (kc rfl rfl) (And.intro (kc rfl rfl) (?_))))
  show Ev l d mi_X10_number 149 [some (.ref 65), some (.int x1), some (.int x2), some (.int x3), some (.int x4)] [.long (x2).toInt64, .long (x1).toInt64, .long (x4).toInt64] (hp (uI (uI s 65 4 (s.1 65 2)) 65 10 x3)) 0 0 _
  rw [← hs16]
  obtain ⟨q17, hq17, hf⟩ := bd_some hf
  refine Ev.callS (M' := mi_X10_isIn) (d' := d - 1) (As := [.long (x4).toInt64, .long (x1).toInt64, .long (x2).toInt64]) (rest := []) (r' := (some (.int q17.1), hp q17.2)) (e_X10_isIn (d := d - 1) (by omega) ((x4).toInt64) ((x1).toInt64) ((x2).toInt64) s16 _ hq17) (by omega) wm_X10_isIn wt_X10_isIn km_10_321 rfl rfl rfl (Nat.le_of_ble_eq_true rfl) ⟨Nat.le_of_ble_eq_true rfl, Nat.le_of_ble_eq_true rfl⟩ (by decide +kernel) ?_
  show Ev l d mi_X10_number 152 [some (.ref 65), some (.int x1), some (.int x2), some (.int x3), some (.int x4)] [.int q17.1] (hp q17.2) 0 0 _
  refine Ev.if_ne (off := 9) (tgt := 161) (by decide +kernel) (by decide) (fun b18 => ?_) (fun b18 => ?_)
  · have hf := (if_neg b18).symm.trans hf
    refine Ev.blk (pc' := 163) [(.iload 4, 0, 0, 0)] (by decide +kernel) trivial rfl (?_)
    show Ev l d mi_X10_number 163 [some (.ref 65), some (.int x1), some (.int x2), some (.int x3), some (.int x4)] [.int x4] (hp q17.2) 0 0 _
    cases hf
    exact Ev.iret .int rfl rfl (by decide +kernel) (Nat.le_refl _) (Nat.le_refl _)
  · have hf := (if_pos b18).symm.trans hf
    refine Ev.blk (pc' := 158) [(.aload_n 0, 0, 0, 0), (.iconst 2, 0, 0, 0), (.iload_n 3, 0, 0, 0)] (by decide +kernel) trivial rfl (?_)
    show Ev l d mi_X10_number 158 [some (.ref 65), some (.int x1), some (.int x2), some (.int x3), some (.int x4)] [.int x3, .int (Int32.ofInt 2), .ref 65] (hp q17.2) 0 0 _
    obtain ⟨q19, hq19, hf⟩ := bd_some hf
    refine Ev.callV (o := 65) (M' := mi_X10_fail) (d' := d - 1) (As := [.int (Int32.ofInt 2), .int x3]) (rest := []) (r' := (none, hp q19)) (e_X10_fail (d := d - 1) (by omega) (Int32.ofInt 2) x3 q17.2 _ hq19) (by omega) wm_X10_fail wi_X10_fail wv_X10_fail km_10_308 (kc rfl rfl) (Nat.le_of_ble_eq_true rfl) rfl rfl rfl (Nat.le_of_ble_eq_true rfl) ⟨Nat.le_of_ble_eq_true rfl, Nat.le_of_ble_eq_true rfl⟩ (by decide +kernel) ?_
    show Ev l d mi_X10_number 161 [some (.ref 65), some (.int x1), some (.int x2), some (.int x3), some (.int x4)] [] (hp q19) 0 0 _
    refine Ev.blk (pc' := 163) [(.iload 4, 0, 0, 0)] (by decide +kernel) trivial rfl (?_)
    show Ev l d mi_X10_number 163 [some (.ref 65), some (.int x1), some (.int x2), some (.int x3), some (.int x4)] [.int x4] (hp q19) 0 0 _
    cases hf
    exact Ev.iret .int rfl rfl (by decide +kernel) (Nat.le_refl _) (Nat.le_refl _)
def f_X10_number_j30 (s : ST) : Option (Int32 × ST) := (f_X10_fail (Int32.ofInt 1) (s.1 65 2) s).bind (fun q6 => some ((Int32.ofInt 0), q6))
set_option maxHeartbeats 2000000 in
set_option maxRecDepth 20000 in
theorem e_X10_number_j30 {l : Launch} {d : Nat} (hd : 2 ≤ d) (s : ST) (r : Int32 × ST) (hf : f_X10_number_j30 s = some r) : Ev l d mi_X10_number 30 [some (.ref 65), none, none, none, none] [] (hp s) 0 0 (some (.int r.1), hp r.2) := by
  unfold f_X10_number_j30 at hf
  refine Ev.blk (pc' := 36) [(.aload_n 0, 0, 0, 0), (.iconst 1, 0, 0, 0), (.aload_n 0, 0, 0, 0), (.getfield 284, 0, 10, 2)] (by decide +kernel) ⟨kf_10_284, trivial⟩ rfl (And.intro (kc rfl rfl) (?_))
  show Ev l d mi_X10_number 36 [some (.ref 65), none, none, none, none] [.int (s.1 65 2), .int (Int32.ofInt 1), .ref 65] (hp s) 0 0 _
  obtain ⟨q6, hq6, hf⟩ := bd_some hf
  refine Ev.callV (o := 65) (M' := mi_X10_fail) (d' := d - 1) (As := [.int (Int32.ofInt 1), .int (s.1 65 2)]) (rest := []) (r' := (none, hp q6)) (e_X10_fail (d := d - 1) (by omega) (Int32.ofInt 1) (s.1 65 2) s _ hq6) (by omega) wm_X10_fail wi_X10_fail wv_X10_fail km_10_308 (kc rfl rfl) (Nat.le_of_ble_eq_true rfl) rfl rfl rfl (Nat.le_of_ble_eq_true rfl) ⟨Nat.le_of_ble_eq_true rfl, Nat.le_of_ble_eq_true rfl⟩ (by decide +kernel) ?_
  show Ev l d mi_X10_number 39 [some (.ref 65), none, none, none, none] [] (hp q6) 0 0 _
  refine Ev.blk (pc' := 40) [(.iconst 0, 0, 0, 0)] (by decide +kernel) trivial rfl (?_)
  show Ev l d mi_X10_number 40 [some (.ref 65), none, none, none, none] [.int (Int32.ofInt 0)] (hp q6) 0 0 _
  cases hf
  exact Ev.iret .int rfl rfl (by decide +kernel) (Nat.le_refl _) (Nat.le_refl _)
def f_X10_number (p0 : Int32) (p1 : Int32) (s : ST) : Option (Int32 × ST) := (if (s.1 65 5) = 0 then (f_X10_look s).bind (fun q2 => (f_X10_isDigit q2.1 q2.2).bind (fun q3 => (if q3.1 = 0 then f_X10_number_j30 q3.2 else (if (q3.2.1 65 2) = (q3.2.1 65 4) then f_X10_number_j30 q3.2 else (f_X10_number_L49 f_X10_number_j85 f_X10_number_j129 fuel) p0 p1 (q3.2.1 65 2) (Int32.ofInt 0) q3.2)))) else some ((Int32.ofInt 0), s))
set_option maxHeartbeats 2000000 in
set_option maxRecDepth 20000 in
theorem e_X10_number {l : Launch} {d : Nat} (hd : 2 ≤ d) (p0 : Int32) (p1 : Int32) (s : ST) (r : Int32 × ST) (hf : f_X10_number p0 p1 s = some r) : Cl l d mi_X10_number [.ref 65, .int p0, .int p1] (hp s) (some (.int r.1), hp r.2) := by
  refine Ev.entry (by decide +kernel) rfl rfl ?_
  show Ev l d mi_X10_number 0 [some (.ref 65), some (.int p0), some (.int p1), none, none] [] (hp s) 0 0 _
  unfold f_X10_number at hf
  refine Ev.blk (pc' := 4) [(.aload_n 0, 0, 0, 0), (.getfield 278, 0, 10, 5)] (by decide +kernel) ⟨kf_10_278, trivial⟩ rfl (And.intro (kc rfl rfl) (?_))
  show Ev l d mi_X10_number 4 [some (.ref 65), some (.int p0), some (.int p1), none, none] [.int (s.1 65 5)] (hp s) 0 0 _
  refine Ev.if_eq (off := 5) (tgt := 9) (by decide +kernel) (by decide) (fun b1 => ?_) (fun b1 => ?_)
  · have hf := (if_pos b1).symm.trans hf
    refine Ev.blk (pc' := 10) [(.aload_n 0, 0, 0, 0)] (by decide +kernel) trivial rfl (?_)
    show Ev l d mi_X10_number 10 [some (.ref 65), some (.int p0), some (.int p1), none, none] [.ref 65] (hp s) 0 0 _
    obtain ⟨q2, hq2, hf⟩ := bd_some hf
    refine Ev.callV (o := 65) (M' := mi_X10_look) (d' := d - 1) (As := []) (rest := []) (r' := (some (.int q2.1), hp q2.2)) (e_X10_look (d := d - 1) (by omega) s _ hq2) (by omega) wm_X10_look wi_X10_look wv_X10_look km_10_290 (kc rfl rfl) (Nat.le_of_ble_eq_true rfl) rfl rfl rfl (Nat.le_of_ble_eq_true rfl) ⟨Nat.le_of_ble_eq_true rfl, Nat.le_of_ble_eq_true rfl⟩ (by decide +kernel) ?_
    show Ev l d mi_X10_number 13 [some (.ref 65), some (.int p0), some (.int p1), none, none] [.int q2.1] (hp q2.2) 0 0 _
    obtain ⟨q3, hq3, hf⟩ := bd_some hf
    refine Ev.callS (M' := mi_X10_isDigit) (d' := d - 1) (As := [.int q2.1]) (rest := []) (r' := (some (.int q3.1), hp q3.2)) (e_X10_isDigit (d := d - 1) (by omega) q2.1 q2.2 _ hq3) (by omega) wm_X10_isDigit wt_X10_isDigit km_10_315 rfl rfl rfl (Nat.le_of_ble_eq_true rfl) ⟨Nat.le_of_ble_eq_true rfl, Nat.le_of_ble_eq_true rfl⟩ (by decide +kernel) ?_
    show Ev l d mi_X10_number 16 [some (.ref 65), some (.int p0), some (.int p1), none, none] [.int q3.1] (hp q3.2) 0 0 _
    refine Ev.if_eq (off := 14) (tgt := 30) (by decide +kernel) (by decide) (fun b4 => ?_) (fun b4 => ?_)
    · have hf := (if_pos b4).symm.trans hf
      exact Ev.wk ((e_X10_number_j30 hd) q3.2 _ hf) (And.intro (Or.inr rfl) (And.intro (Or.inl rfl) (And.intro (Or.inl rfl) (And.intro (Or.inr rfl) (And.intro (Or.inr rfl) (trivial))))))
    · have hf := (if_neg b4).symm.trans hf
      refine Ev.blk (pc' := 27) [(.aload_n 0, 0, 0, 0), (.getfield 284, 0, 10, 2), (.aload_n 0, 0, 0, 0), (.getfield 298, 0, 10, 4)] (by decide +kernel) ⟨kf_10_284, ⟨kf_10_298, trivial⟩⟩ rfl (And.intro (kc rfl rfl) (And.intro (kc rfl rfl) (?_)))
      show Ev l d mi_X10_number 27 [some (.ref 65), some (.int p0), some (.int p1), none, none] [.int (q3.2.1 65 4), .int (q3.2.1 65 2)] (hp q3.2) 0 0 _
      refine Ev.icmp_ne (off := 14) (tgt := 41) (by decide +kernel) (by decide) (fun b5 => ?_) (fun b5 => ?_)
      · have hf := (if_neg b5).symm.trans hf
        refine Ev.blk (pc' := 49) [(.aload_n 0, 0, 0, 0), (.getfield 284, 0, 10, 2), (.istore_n 3, 0, 0, 0), (.iconst 0, 0, 0, 0), (.istore 4, 0, 0, 0)] (by decide +kernel) ⟨kf_10_284, trivial⟩ rfl (And.intro (kc rfl rfl) (And.intro (Nat.le_of_ble_eq_true rfl) (And.intro (Nat.le_of_ble_eq_true rfl) (?_))))
        show Ev l d mi_X10_number 49 [some (.ref 65), some (.int p0), some (.int p1), some (.int (q3.2.1 65 2)), some (.int (Int32.ofInt 0))] [] (hp q3.2) 0 0 _
        exact (e_X10_number_L49 hd f_X10_number_j85 f_X10_number_j129 (e_X10_number_j85 hd) (e_X10_number_j129 hd) fuel) p0 p1 (q3.2.1 65 2) (Int32.ofInt 0) q3.2 _ hf
      · have hf := (if_pos b5).symm.trans hf
        exact Ev.wk ((e_X10_number_j30 hd) q3.2 _ hf) (And.intro (Or.inr rfl) (And.intro (Or.inl rfl) (And.intro (Or.inl rfl) (And.intro (Or.inr rfl) (And.intro (Or.inr rfl) (trivial))))))
  · have hf := (if_neg b1).symm.trans hf
    refine Ev.blk (pc' := 8) [(.iconst 0, 0, 0, 0)] (by decide +kernel) trivial rfl (?_)
    show Ev l d mi_X10_number 8 [some (.ref 65), some (.int p0), some (.int p1), none, none] [.int (Int32.ofInt 0)] (hp s) 0 0 _
    cases hf
    exact Ev.iret .int rfl rfl (by decide +kernel) (Nat.le_refl _) (Nat.le_refl _)
def f_X10_isOwnHere_j375 (y0 : Int32) (s : ST) : Option (Int32 × ST) := (if y0 = 0 then (f_X10_isHere 98 s).bind (fun q66 => (if q66.1 = 0 then (f_X10_isHere 99 q66.2).bind (fun q68 => (if q68.1 = 0 then (f_X10_isHere 100 q68.2).bind (fun q70 => (if q70.1 = 0 then some ((Int32.ofInt 0), q70.2) else some ((Int32.ofInt 1), q70.2))) else some ((Int32.ofInt 1), q68.2))) else some ((Int32.ofInt 1), q66.2))) else some ((Int32.ofInt 1), s))
set_option maxHeartbeats 2000000 in
set_option maxRecDepth 20000 in
theorem e_X10_isOwnHere_j375 {l : Launch} {d : Nat} (hd : 3 ≤ d) (y0 : Int32) (s : ST) (r : Int32 × ST) (hf : f_X10_isOwnHere_j375 y0 s = some r) : Ev l d mi_X10_isOwnHere 375 [some (.ref 65), none] [.int y0] (hp s) 0 0 (some (.int r.1), hp r.2) := by
  unfold f_X10_isOwnHere_j375 at hf
  refine Ev.blk (pc' := 377) [(.istore_n 1, 0, 0, 0), (.iload_n 1, 0, 0, 0)] (by decide +kernel) trivial rfl (And.intro (Nat.le_of_ble_eq_true rfl) (?_))
  show Ev l d mi_X10_isOwnHere 377 [some (.ref 65), some (.int y0)] [.int y0] (hp s) 0 0 _
  refine Ev.if_ne (off := 36) (tgt := 413) (by decide +kernel) (by decide) (fun b65 => ?_) (fun b65 => ?_)
  · have hf := (if_neg b65).symm.trans hf
    refine Ev.blk (pc' := 414) [(.iconst 1, 0, 0, 0)] (by decide +kernel) trivial rfl (?_)
    show Ev l d mi_X10_isOwnHere 414 [some (.ref 65), some (.int y0)] [.int (Int32.ofInt 1)] (hp s) 0 0 _
    refine Ev.goto (off := 4) (tgt := 418) (by decide +kernel) (by decide) ?_
    refine Ev.blk (pc' := 420) [(.istore_n 1, 0, 0, 0), (.iload_n 1, 0, 0, 0)] (by decide +kernel) trivial rfl (And.intro (Nat.le_of_ble_eq_true rfl) (?_))
    show Ev l d mi_X10_isOwnHere 420 [some (.ref 65), some (.int (Int32.ofInt 1))] [.int (Int32.ofInt 1)] (hp s) 0 0 _
    cases hf
    exact Ev.iret .boolean rfl rfl (by decide +kernel) (Nat.le_refl _) (Nat.le_refl _)
  · have hf := (if_pos b65).symm.trans hf
    refine Ev.blk (pc' := 385) [(.aload_n 0, 0, 0, 0), (.aload_n 0, 0, 0, 0), (.getfield 111, 0, 10, 41)] (by decide +kernel) ⟨kf_10_111, trivial⟩ rfl (And.intro (kc rfl rfl) (Exists.intro 98 (And.intro rfl (?_))))
    show Ev l d mi_X10_isOwnHere 385 [some (.ref 65), some (.int y0)] [.ref 98, .ref 65] (hp s) 0 0 _
    obtain ⟨q66, hq66, hf⟩ := bd_some hf
    refine Ev.callV (o := 65) (M' := mi_X10_isHere) (d' := d - 1) (As := [.ref 98]) (rest := []) (r' := (some (.int q66.1), hp q66.2)) (e_X10_isHere (d := d - 1) (by omega) 98 s _ hq66) (by omega) wm_X10_isHere wi_X10_isHere wv_X10_isHere km_10_301 (kc rfl rfl) (Nat.le_of_ble_eq_true rfl) rfl rfl rfl (Nat.le_of_ble_eq_true rfl) ⟨Nat.le_of_ble_eq_true rfl, Nat.le_of_ble_eq_true rfl⟩ (by decide +kernel) ?_
    show Ev l d mi_X10_isOwnHere 388 [some (.ref 65), some (.int y0)] [.int q66.1] (hp q66.2) 0 0 _
    refine Ev.if_ne (off := 25) (tgt := 413) (by decide +kernel) (by decide) (fun b67 => ?_) (fun b67 => ?_)
    · have hf := (if_neg b67).symm.trans hf
      refine Ev.blk (pc' := 414) [(.iconst 1, 0, 0, 0)] (by decide +kernel) trivial rfl (?_)
      show Ev l d mi_X10_isOwnHere 414 [some (.ref 65), some (.int y0)] [.int (Int32.ofInt 1)] (hp q66.2) 0 0 _
      refine Ev.goto (off := 4) (tgt := 418) (by decide +kernel) (by decide) ?_
      refine Ev.blk (pc' := 420) [(.istore_n 1, 0, 0, 0), (.iload_n 1, 0, 0, 0)] (by decide +kernel) trivial rfl (And.intro (Nat.le_of_ble_eq_true rfl) (?_))
      show Ev l d mi_X10_isOwnHere 420 [some (.ref 65), some (.int (Int32.ofInt 1))] [.int (Int32.ofInt 1)] (hp q66.2) 0 0 _
      cases hf
      exact Ev.iret .boolean rfl rfl (by decide +kernel) (Nat.le_refl _) (Nat.le_refl _)
    · have hf := (if_pos b67).symm.trans hf
      refine Ev.blk (pc' := 396) [(.aload_n 0, 0, 0, 0), (.aload_n 0, 0, 0, 0), (.getfield 114, 0, 10, 42)] (by decide +kernel) ⟨kf_10_114, trivial⟩ rfl (And.intro (kc rfl rfl) (Exists.intro 99 (And.intro rfl (?_))))
      show Ev l d mi_X10_isOwnHere 396 [some (.ref 65), some (.int y0)] [.ref 99, .ref 65] (hp q66.2) 0 0 _
      obtain ⟨q68, hq68, hf⟩ := bd_some hf
      refine Ev.callV (o := 65) (M' := mi_X10_isHere) (d' := d - 1) (As := [.ref 99]) (rest := []) (r' := (some (.int q68.1), hp q68.2)) (e_X10_isHere (d := d - 1) (by omega) 99 q66.2 _ hq68) (by omega) wm_X10_isHere wi_X10_isHere wv_X10_isHere km_10_301 (kc rfl rfl) (Nat.le_of_ble_eq_true rfl) rfl rfl rfl (Nat.le_of_ble_eq_true rfl) ⟨Nat.le_of_ble_eq_true rfl, Nat.le_of_ble_eq_true rfl⟩ (by decide +kernel) ?_
      show Ev l d mi_X10_isOwnHere 399 [some (.ref 65), some (.int y0)] [.int q68.1] (hp q68.2) 0 0 _
      refine Ev.if_ne (off := 14) (tgt := 413) (by decide +kernel) (by decide) (fun b69 => ?_) (fun b69 => ?_)
      · have hf := (if_neg b69).symm.trans hf
        refine Ev.blk (pc' := 414) [(.iconst 1, 0, 0, 0)] (by decide +kernel) trivial rfl (?_)
        show Ev l d mi_X10_isOwnHere 414 [some (.ref 65), some (.int y0)] [.int (Int32.ofInt 1)] (hp q68.2) 0 0 _
        refine Ev.goto (off := 4) (tgt := 418) (by decide +kernel) (by decide) ?_
        refine Ev.blk (pc' := 420) [(.istore_n 1, 0, 0, 0), (.iload_n 1, 0, 0, 0)] (by decide +kernel) trivial rfl (And.intro (Nat.le_of_ble_eq_true rfl) (?_))
        show Ev l d mi_X10_isOwnHere 420 [some (.ref 65), some (.int (Int32.ofInt 1))] [.int (Int32.ofInt 1)] (hp q68.2) 0 0 _
        cases hf
        exact Ev.iret .boolean rfl rfl (by decide +kernel) (Nat.le_refl _) (Nat.le_refl _)
      · have hf := (if_pos b69).symm.trans hf
        refine Ev.blk (pc' := 407) [(.aload_n 0, 0, 0, 0), (.aload_n 0, 0, 0, 0), (.getfield 117, 0, 10, 43)] (by decide +kernel) ⟨kf_10_117, trivial⟩ rfl (And.intro (kc rfl rfl) (Exists.intro 100 (And.intro rfl (?_))))
        show Ev l d mi_X10_isOwnHere 407 [some (.ref 65), some (.int y0)] [.ref 100, .ref 65] (hp q68.2) 0 0 _
        obtain ⟨q70, hq70, hf⟩ := bd_some hf
        refine Ev.callV (o := 65) (M' := mi_X10_isHere) (d' := d - 1) (As := [.ref 100]) (rest := []) (r' := (some (.int q70.1), hp q70.2)) (e_X10_isHere (d := d - 1) (by omega) 100 q68.2 _ hq70) (by omega) wm_X10_isHere wi_X10_isHere wv_X10_isHere km_10_301 (kc rfl rfl) (Nat.le_of_ble_eq_true rfl) rfl rfl rfl (Nat.le_of_ble_eq_true rfl) ⟨Nat.le_of_ble_eq_true rfl, Nat.le_of_ble_eq_true rfl⟩ (by decide +kernel) ?_
        show Ev l d mi_X10_isOwnHere 410 [some (.ref 65), some (.int y0)] [.int q70.1] (hp q70.2) 0 0 _
        refine Ev.if_eq (off := 7) (tgt := 417) (by decide +kernel) (by decide) (fun b71 => ?_) (fun b71 => ?_)
        · have hf := (if_pos b71).symm.trans hf
          refine Ev.blk (pc' := 420) [(.iconst 0, 0, 0, 0), (.istore_n 1, 0, 0, 0), (.iload_n 1, 0, 0, 0)] (by decide +kernel) trivial rfl (And.intro (Nat.le_of_ble_eq_true rfl) (?_))
          show Ev l d mi_X10_isOwnHere 420 [some (.ref 65), some (.int (Int32.ofInt 0))] [.int (Int32.ofInt 0)] (hp q70.2) 0 0 _
          cases hf
          exact Ev.iret .boolean rfl rfl (by decide +kernel) (Nat.le_refl _) (Nat.le_refl _)
        · have hf := (if_neg b71).symm.trans hf
          refine Ev.blk (pc' := 414) [(.iconst 1, 0, 0, 0)] (by decide +kernel) trivial rfl (?_)
          show Ev l d mi_X10_isOwnHere 414 [some (.ref 65), some (.int y0)] [.int (Int32.ofInt 1)] (hp q70.2) 0 0 _
          refine Ev.goto (off := 4) (tgt := 418) (by decide +kernel) (by decide) ?_
          refine Ev.blk (pc' := 420) [(.istore_n 1, 0, 0, 0), (.iload_n 1, 0, 0, 0)] (by decide +kernel) trivial rfl (And.intro (Nat.le_of_ble_eq_true rfl) (?_))
          show Ev l d mi_X10_isOwnHere 420 [some (.ref 65), some (.int (Int32.ofInt 1))] [.int (Int32.ofInt 1)] (hp q70.2) 0 0 _
          cases hf
          exact Ev.iret .boolean rfl rfl (by decide +kernel) (Nat.le_refl _) (Nat.le_refl _)
def f_X10_isOwnHere_j299 (y0 : Int32) (s : ST) : Option (Int32 × ST) := (if y0 = 0 then (f_X10_isHere 92 s).bind (fun q53 => (if q53.1 = 0 then (f_X10_isHere 93 q53.2).bind (fun q55 => (if q55.1 = 0 then (f_X10_isHere 94 q55.2).bind (fun q57 => (if q57.1 = 0 then (f_X10_isHere 95 q57.2).bind (fun q59 => (if q59.1 = 0 then (f_X10_isHere 96 q59.2).bind (fun q61 => (if q61.1 = 0 then (f_X10_isHere 97 q61.2).bind (fun q63 => (if q63.1 = 0 then f_X10_isOwnHere_j375 (Int32.ofInt 0) q63.2 else f_X10_isOwnHere_j375 (Int32.ofInt 1) q63.2)) else f_X10_isOwnHere_j375 (Int32.ofInt 1) q61.2)) else f_X10_isOwnHere_j375 (Int32.ofInt 1) q59.2)) else f_X10_isOwnHere_j375 (Int32.ofInt 1) q57.2)) else f_X10_isOwnHere_j375 (Int32.ofInt 1) q55.2)) else f_X10_isOwnHere_j375 (Int32.ofInt 1) q53.2)) else f_X10_isOwnHere_j375 (Int32.ofInt 1) s)
set_option maxHeartbeats 2000000 in
set_option maxRecDepth 20000 in
theorem e_X10_isOwnHere_j299 {l : Launch} {d : Nat} (hd : 3 ≤ d) (y0 : Int32) (s : ST) (r : Int32 × ST) (hf : f_X10_isOwnHere_j299 y0 s = some r) : Ev l d mi_X10_isOwnHere 299 [some (.ref 65), none] [.int y0] (hp s) 0 0 (some (.int r.1), hp r.2) := by
  unfold f_X10_isOwnHere_j299 at hf
  refine Ev.blk (pc' := 301) [(.istore_n 1, 0, 0, 0), (.iload_n 1, 0, 0, 0)] (by decide +kernel) trivial rfl (And.intro (Nat.le_of_ble_eq_true rfl) (?_))
  show Ev l d mi_X10_isOwnHere 301 [some (.ref 65), some (.int y0)] [.int y0] (hp s) 0 0 _
  refine Ev.if_ne (off := 69) (tgt := 370) (by decide +kernel) (by decide) (fun b52 => ?_) (fun b52 => ?_)
  · have hf := (if_neg b52).symm.trans hf
    refine Ev.blk (pc' := 371) [(.iconst 1, 0, 0, 0)] (by decide +kernel) trivial rfl (?_)
    show Ev l d mi_X10_isOwnHere 371 [some (.ref 65), some (.int y0)] [.int (Int32.ofInt 1)] (hp s) 0 0 _
    refine Ev.goto (off := 4) (tgt := 375) (by decide +kernel) (by decide) ?_
    exact Ev.wk ((e_X10_isOwnHere_j375 hd) (Int32.ofInt 1) s _ hf) (And.intro (Or.inr rfl) (And.intro (Or.inl rfl) (trivial)))
  · have hf := (if_pos b52).symm.trans hf
    refine Ev.blk (pc' := 309) [(.aload_n 0, 0, 0, 0), (.aload_n 0, 0, 0, 0), (.getfield 93, 0, 10, 35)] (by decide +kernel) ⟨kf_10_93, trivial⟩ rfl (And.intro (kc rfl rfl) (Exists.intro 92 (And.intro rfl (?_))))
    show Ev l d mi_X10_isOwnHere 309 [some (.ref 65), some (.int y0)] [.ref 92, .ref 65] (hp s) 0 0 _
    obtain ⟨q53, hq53, hf⟩ := bd_some hf
    refine Ev.callV (o := 65) (M' := mi_X10_isHere) (d' := d - 1) (As := [.ref 92]) (rest := []) (r' := (some (.int q53.1), hp q53.2)) (e_X10_isHere (d := d - 1) (by omega) 92 s _ hq53) (by omega) wm_X10_isHere wi_X10_isHere wv_X10_isHere km_10_301 (kc rfl rfl) (Nat.le_of_ble_eq_true rfl) rfl rfl rfl (Nat.le_of_ble_eq_true rfl) ⟨Nat.le_of_ble_eq_true rfl, Nat.le_of_ble_eq_true rfl⟩ (by decide +kernel) ?_
    show Ev l d mi_X10_isOwnHere 312 [some (.ref 65), some (.int y0)] [.int q53.1] (hp q53.2) 0 0 _
    refine Ev.if_ne (off := 58) (tgt := 370) (by decide +kernel) (by decide) (fun b54 => ?_) (fun b54 => ?_)
    · have hf := (if_neg b54).symm.trans hf
      refine Ev.blk (pc' := 371) [(.iconst 1, 0, 0, 0)] (by decide +kernel) trivial rfl (?_)
      show Ev l d mi_X10_isOwnHere 371 [some (.ref 65), some (.int y0)] [.int (Int32.ofInt 1)] (hp q53.2) 0 0 _
      refine Ev.goto (off := 4) (tgt := 375) (by decide +kernel) (by decide) ?_
      exact Ev.wk ((e_X10_isOwnHere_j375 hd) (Int32.ofInt 1) q53.2 _ hf) (And.intro (Or.inr rfl) (And.intro (Or.inl rfl) (trivial)))
    · have hf := (if_pos b54).symm.trans hf
      refine Ev.blk (pc' := 320) [(.aload_n 0, 0, 0, 0), (.aload_n 0, 0, 0, 0), (.getfield 96, 0, 10, 36)] (by decide +kernel) ⟨kf_10_96, trivial⟩ rfl (And.intro (kc rfl rfl) (Exists.intro 93 (And.intro rfl (?_))))
      show Ev l d mi_X10_isOwnHere 320 [some (.ref 65), some (.int y0)] [.ref 93, .ref 65] (hp q53.2) 0 0 _
      obtain ⟨q55, hq55, hf⟩ := bd_some hf
      refine Ev.callV (o := 65) (M' := mi_X10_isHere) (d' := d - 1) (As := [.ref 93]) (rest := []) (r' := (some (.int q55.1), hp q55.2)) (e_X10_isHere (d := d - 1) (by omega) 93 q53.2 _ hq55) (by omega) wm_X10_isHere wi_X10_isHere wv_X10_isHere km_10_301 (kc rfl rfl) (Nat.le_of_ble_eq_true rfl) rfl rfl rfl (Nat.le_of_ble_eq_true rfl) ⟨Nat.le_of_ble_eq_true rfl, Nat.le_of_ble_eq_true rfl⟩ (by decide +kernel) ?_
      show Ev l d mi_X10_isOwnHere 323 [some (.ref 65), some (.int y0)] [.int q55.1] (hp q55.2) 0 0 _
      refine Ev.if_ne (off := 47) (tgt := 370) (by decide +kernel) (by decide) (fun b56 => ?_) (fun b56 => ?_)
      · have hf := (if_neg b56).symm.trans hf
        refine Ev.blk (pc' := 371) [(.iconst 1, 0, 0, 0)] (by decide +kernel) trivial rfl (?_)
        show Ev l d mi_X10_isOwnHere 371 [some (.ref 65), some (.int y0)] [.int (Int32.ofInt 1)] (hp q55.2) 0 0 _
        refine Ev.goto (off := 4) (tgt := 375) (by decide +kernel) (by decide) ?_
        exact Ev.wk ((e_X10_isOwnHere_j375 hd) (Int32.ofInt 1) q55.2 _ hf) (And.intro (Or.inr rfl) (And.intro (Or.inl rfl) (trivial)))
      · have hf := (if_pos b56).symm.trans hf
        refine Ev.blk (pc' := 331) [(.aload_n 0, 0, 0, 0), (.aload_n 0, 0, 0, 0), (.getfield 99, 0, 10, 37)] (by decide +kernel) ⟨kf_10_99, trivial⟩ rfl (And.intro (kc rfl rfl) (Exists.intro 94 (And.intro rfl (?_))))
        show Ev l d mi_X10_isOwnHere 331 [some (.ref 65), some (.int y0)] [.ref 94, .ref 65] (hp q55.2) 0 0 _
        obtain ⟨q57, hq57, hf⟩ := bd_some hf
        refine Ev.callV (o := 65) (M' := mi_X10_isHere) (d' := d - 1) (As := [.ref 94]) (rest := []) (r' := (some (.int q57.1), hp q57.2)) (e_X10_isHere (d := d - 1) (by omega) 94 q55.2 _ hq57) (by omega) wm_X10_isHere wi_X10_isHere wv_X10_isHere km_10_301 (kc rfl rfl) (Nat.le_of_ble_eq_true rfl) rfl rfl rfl (Nat.le_of_ble_eq_true rfl) ⟨Nat.le_of_ble_eq_true rfl, Nat.le_of_ble_eq_true rfl⟩ (by decide +kernel) ?_
        show Ev l d mi_X10_isOwnHere 334 [some (.ref 65), some (.int y0)] [.int q57.1] (hp q57.2) 0 0 _
        refine Ev.if_ne (off := 36) (tgt := 370) (by decide +kernel) (by decide) (fun b58 => ?_) (fun b58 => ?_)
        · have hf := (if_neg b58).symm.trans hf
          refine Ev.blk (pc' := 371) [(.iconst 1, 0, 0, 0)] (by decide +kernel) trivial rfl (?_)
          show Ev l d mi_X10_isOwnHere 371 [some (.ref 65), some (.int y0)] [.int (Int32.ofInt 1)] (hp q57.2) 0 0 _
          refine Ev.goto (off := 4) (tgt := 375) (by decide +kernel) (by decide) ?_
          exact Ev.wk ((e_X10_isOwnHere_j375 hd) (Int32.ofInt 1) q57.2 _ hf) (And.intro (Or.inr rfl) (And.intro (Or.inl rfl) (trivial)))
        · have hf := (if_pos b58).symm.trans hf
          refine Ev.blk (pc' := 342) [(.aload_n 0, 0, 0, 0), (.aload_n 0, 0, 0, 0), (.getfield 102, 0, 10, 38)] (by decide +kernel) ⟨kf_10_102, trivial⟩ rfl (And.intro (kc rfl rfl) (Exists.intro 95 (And.intro rfl (?_))))
          show Ev l d mi_X10_isOwnHere 342 [some (.ref 65), some (.int y0)] [.ref 95, .ref 65] (hp q57.2) 0 0 _
          obtain ⟨q59, hq59, hf⟩ := bd_some hf
          refine Ev.callV (o := 65) (M' := mi_X10_isHere) (d' := d - 1) (As := [.ref 95]) (rest := []) (r' := (some (.int q59.1), hp q59.2)) (e_X10_isHere (d := d - 1) (by omega) 95 q57.2 _ hq59) (by omega) wm_X10_isHere wi_X10_isHere wv_X10_isHere km_10_301 (kc rfl rfl) (Nat.le_of_ble_eq_true rfl) rfl rfl rfl (Nat.le_of_ble_eq_true rfl) ⟨Nat.le_of_ble_eq_true rfl, Nat.le_of_ble_eq_true rfl⟩ (by decide +kernel) ?_
          show Ev l d mi_X10_isOwnHere 345 [some (.ref 65), some (.int y0)] [.int q59.1] (hp q59.2) 0 0 _
          refine Ev.if_ne (off := 25) (tgt := 370) (by decide +kernel) (by decide) (fun b60 => ?_) (fun b60 => ?_)
          · have hf := (if_neg b60).symm.trans hf
            refine Ev.blk (pc' := 371) [(.iconst 1, 0, 0, 0)] (by decide +kernel) trivial rfl (?_)
            show Ev l d mi_X10_isOwnHere 371 [some (.ref 65), some (.int y0)] [.int (Int32.ofInt 1)] (hp q59.2) 0 0 _
            refine Ev.goto (off := 4) (tgt := 375) (by decide +kernel) (by decide) ?_
            exact Ev.wk ((e_X10_isOwnHere_j375 hd) (Int32.ofInt 1) q59.2 _ hf) (And.intro (Or.inr rfl) (And.intro (Or.inl rfl) (trivial)))
          · have hf := (if_pos b60).symm.trans hf
            refine Ev.blk (pc' := 353) [(.aload_n 0, 0, 0, 0), (.aload_n 0, 0, 0, 0), (.getfield 105, 0, 10, 39)] (by decide +kernel) ⟨kf_10_105, trivial⟩ rfl (And.intro (kc rfl rfl) (Exists.intro 96 (And.intro rfl (?_))))
            show Ev l d mi_X10_isOwnHere 353 [some (.ref 65), some (.int y0)] [.ref 96, .ref 65] (hp q59.2) 0 0 _
            obtain ⟨q61, hq61, hf⟩ := bd_some hf
            refine Ev.callV (o := 65) (M' := mi_X10_isHere) (d' := d - 1) (As := [.ref 96]) (rest := []) (r' := (some (.int q61.1), hp q61.2)) (e_X10_isHere (d := d - 1) (by omega) 96 q59.2 _ hq61) (by omega) wm_X10_isHere wi_X10_isHere wv_X10_isHere km_10_301 (kc rfl rfl) (Nat.le_of_ble_eq_true rfl) rfl rfl rfl (Nat.le_of_ble_eq_true rfl) ⟨Nat.le_of_ble_eq_true rfl, Nat.le_of_ble_eq_true rfl⟩ (by decide +kernel) ?_
            show Ev l d mi_X10_isOwnHere 356 [some (.ref 65), some (.int y0)] [.int q61.1] (hp q61.2) 0 0 _
            refine Ev.if_ne (off := 14) (tgt := 370) (by decide +kernel) (by decide) (fun b62 => ?_) (fun b62 => ?_)
            · have hf := (if_neg b62).symm.trans hf
              refine Ev.blk (pc' := 371) [(.iconst 1, 0, 0, 0)] (by decide +kernel) trivial rfl (?_)
              show Ev l d mi_X10_isOwnHere 371 [some (.ref 65), some (.int y0)] [.int (Int32.ofInt 1)] (hp q61.2) 0 0 _
              refine Ev.goto (off := 4) (tgt := 375) (by decide +kernel) (by decide) ?_
              exact Ev.wk ((e_X10_isOwnHere_j375 hd) (Int32.ofInt 1) q61.2 _ hf) (And.intro (Or.inr rfl) (And.intro (Or.inl rfl) (trivial)))
            · have hf := (if_pos b62).symm.trans hf
              refine Ev.blk (pc' := 364) [(.aload_n 0, 0, 0, 0), (.aload_n 0, 0, 0, 0), (.getfield 108, 0, 10, 40)] (by decide +kernel) ⟨kf_10_108, trivial⟩ rfl (And.intro (kc rfl rfl) (Exists.intro 97 (And.intro rfl (?_))))
              show Ev l d mi_X10_isOwnHere 364 [some (.ref 65), some (.int y0)] [.ref 97, .ref 65] (hp q61.2) 0 0 _
              obtain ⟨q63, hq63, hf⟩ := bd_some hf
              refine Ev.callV (o := 65) (M' := mi_X10_isHere) (d' := d - 1) (As := [.ref 97]) (rest := []) (r' := (some (.int q63.1), hp q63.2)) (e_X10_isHere (d := d - 1) (by omega) 97 q61.2 _ hq63) (by omega) wm_X10_isHere wi_X10_isHere wv_X10_isHere km_10_301 (kc rfl rfl) (Nat.le_of_ble_eq_true rfl) rfl rfl rfl (Nat.le_of_ble_eq_true rfl) ⟨Nat.le_of_ble_eq_true rfl, Nat.le_of_ble_eq_true rfl⟩ (by decide +kernel) ?_
              show Ev l d mi_X10_isOwnHere 367 [some (.ref 65), some (.int y0)] [.int q63.1] (hp q63.2) 0 0 _
              refine Ev.if_eq (off := 7) (tgt := 374) (by decide +kernel) (by decide) (fun b64 => ?_) (fun b64 => ?_)
              · have hf := (if_pos b64).symm.trans hf
                refine Ev.blk (pc' := 375) [(.iconst 0, 0, 0, 0)] (by decide +kernel) trivial rfl (?_)
                show Ev l d mi_X10_isOwnHere 375 [some (.ref 65), some (.int y0)] [.int (Int32.ofInt 0)] (hp q63.2) 0 0 _
                exact Ev.wk ((e_X10_isOwnHere_j375 hd) (Int32.ofInt 0) q63.2 _ hf) (And.intro (Or.inr rfl) (And.intro (Or.inl rfl) (trivial)))
              · have hf := (if_neg b64).symm.trans hf
                refine Ev.blk (pc' := 371) [(.iconst 1, 0, 0, 0)] (by decide +kernel) trivial rfl (?_)
                show Ev l d mi_X10_isOwnHere 371 [some (.ref 65), some (.int y0)] [.int (Int32.ofInt 1)] (hp q63.2) 0 0 _
                refine Ev.goto (off := 4) (tgt := 375) (by decide +kernel) (by decide) ?_
                exact Ev.wk ((e_X10_isOwnHere_j375 hd) (Int32.ofInt 1) q63.2 _ hf) (And.intro (Or.inr rfl) (And.intro (Or.inl rfl) (trivial)))
def f_X10_isOwnHere_j223 (y0 : Int32) (s : ST) : Option (Int32 × ST) := (if y0 = 0 then (f_X10_isHere 86 s).bind (fun q40 => (if q40.1 = 0 then (f_X10_isHere 87 q40.2).bind (fun q42 => (if q42.1 = 0 then (f_X10_isHere 88 q42.2).bind (fun q44 => (if q44.1 = 0 then (f_X10_isHere 89 q44.2).bind (fun q46 => (if q46.1 = 0 then (f_X10_isHere 90 q46.2).bind (fun q48 => (if q48.1 = 0 then (f_X10_isHere 91 q48.2).bind (fun q50 => (if q50.1 = 0 then f_X10_isOwnHere_j299 (Int32.ofInt 0) q50.2 else f_X10_isOwnHere_j299 (Int32.ofInt 1) q50.2)) else f_X10_isOwnHere_j299 (Int32.ofInt 1) q48.2)) else f_X10_isOwnHere_j299 (Int32.ofInt 1) q46.2)) else f_X10_isOwnHere_j299 (Int32.ofInt 1) q44.2)) else f_X10_isOwnHere_j299 (Int32.ofInt 1) q42.2)) else f_X10_isOwnHere_j299 (Int32.ofInt 1) q40.2)) else f_X10_isOwnHere_j299 (Int32.ofInt 1) s)
set_option maxHeartbeats 2000000 in
set_option maxRecDepth 20000 in
theorem e_X10_isOwnHere_j223 {l : Launch} {d : Nat} (hd : 3 ≤ d) (y0 : Int32) (s : ST) (r : Int32 × ST) (hf : f_X10_isOwnHere_j223 y0 s = some r) : Ev l d mi_X10_isOwnHere 223 [some (.ref 65), none] [.int y0] (hp s) 0 0 (some (.int r.1), hp r.2) := by
  unfold f_X10_isOwnHere_j223 at hf
  refine Ev.blk (pc' := 225) [(.istore_n 1, 0, 0, 0), (.iload_n 1, 0, 0, 0)] (by decide +kernel) trivial rfl (And.intro (Nat.le_of_ble_eq_true rfl) (?_))
  show Ev l d mi_X10_isOwnHere 225 [some (.ref 65), some (.int y0)] [.int y0] (hp s) 0 0 _
  refine Ev.if_ne (off := 69) (tgt := 294) (by decide +kernel) (by decide) (fun b39 => ?_) (fun b39 => ?_)
  · have hf := (if_neg b39).symm.trans hf
    refine Ev.blk (pc' := 295) [(.iconst 1, 0, 0, 0)] (by decide +kernel) trivial rfl (?_)
    show Ev l d mi_X10_isOwnHere 295 [some (.ref 65), some (.int y0)] [.int (Int32.ofInt 1)] (hp s) 0 0 _
    refine Ev.goto (off := 4) (tgt := 299) (by decide +kernel) (by decide) ?_
    exact Ev.wk ((e_X10_isOwnHere_j299 hd) (Int32.ofInt 1) s _ hf) (And.intro (Or.inr rfl) (And.intro (Or.inl rfl) (trivial)))
  · have hf := (if_pos b39).symm.trans hf
    refine Ev.blk (pc' := 233) [(.aload_n 0, 0, 0, 0), (.aload_n 0, 0, 0, 0), (.getfield 75, 0, 10, 29)] (by decide +kernel) ⟨kf_10_75, trivial⟩ rfl (And.intro (kc rfl rfl) (Exists.intro 86 (And.intro rfl (?_))))
    show Ev l d mi_X10_isOwnHere 233 [some (.ref 65), some (.int y0)] [.ref 86, .ref 65] (hp s) 0 0 _
    obtain ⟨q40, hq40, hf⟩ := bd_some hf
    refine Ev.callV (o := 65) (M' := mi_X10_isHere) (d' := d - 1) (As := [.ref 86]) (rest := []) (r' := (some (.int q40.1), hp q40.2)) (e_X10_isHere (d := d - 1) (by omega) 86 s _ hq40) (by omega) wm_X10_isHere wi_X10_isHere wv_X10_isHere km_10_301 (kc rfl rfl) (Nat.le_of_ble_eq_true rfl) rfl rfl rfl (Nat.le_of_ble_eq_true rfl) ⟨Nat.le_of_ble_eq_true rfl, Nat.le_of_ble_eq_true rfl⟩ (by decide +kernel) ?_
    show Ev l d mi_X10_isOwnHere 236 [some (.ref 65), some (.int y0)] [.int q40.1] (hp q40.2) 0 0 _
    refine Ev.if_ne (off := 58) (tgt := 294) (by decide +kernel) (by decide) (fun b41 => ?_) (fun b41 => ?_)
    · have hf := (if_neg b41).symm.trans hf
      refine Ev.blk (pc' := 295) [(.iconst 1, 0, 0, 0)] (by decide +kernel) trivial rfl (?_)
      show Ev l d mi_X10_isOwnHere 295 [some (.ref 65), some (.int y0)] [.int (Int32.ofInt 1)] (hp q40.2) 0 0 _
      refine Ev.goto (off := 4) (tgt := 299) (by decide +kernel) (by decide) ?_
      exact Ev.wk ((e_X10_isOwnHere_j299 hd) (Int32.ofInt 1) q40.2 _ hf) (And.intro (Or.inr rfl) (And.intro (Or.inl rfl) (trivial)))
    · have hf := (if_pos b41).symm.trans hf
      refine Ev.blk (pc' := 244) [(.aload_n 0, 0, 0, 0), (.aload_n 0, 0, 0, 0), (.getfield 78, 0, 10, 30)] (by decide +kernel) ⟨kf_10_78, trivial⟩ rfl (And.intro (kc rfl rfl) (Exists.intro 87 (And.intro rfl (?_))))
      show Ev l d mi_X10_isOwnHere 244 [some (.ref 65), some (.int y0)] [.ref 87, .ref 65] (hp q40.2) 0 0 _
      obtain ⟨q42, hq42, hf⟩ := bd_some hf
      refine Ev.callV (o := 65) (M' := mi_X10_isHere) (d' := d - 1) (As := [.ref 87]) (rest := []) (r' := (some (.int q42.1), hp q42.2)) (e_X10_isHere (d := d - 1) (by omega) 87 q40.2 _ hq42) (by omega) wm_X10_isHere wi_X10_isHere wv_X10_isHere km_10_301 (kc rfl rfl) (Nat.le_of_ble_eq_true rfl) rfl rfl rfl (Nat.le_of_ble_eq_true rfl) ⟨Nat.le_of_ble_eq_true rfl, Nat.le_of_ble_eq_true rfl⟩ (by decide +kernel) ?_
      show Ev l d mi_X10_isOwnHere 247 [some (.ref 65), some (.int y0)] [.int q42.1] (hp q42.2) 0 0 _
      refine Ev.if_ne (off := 47) (tgt := 294) (by decide +kernel) (by decide) (fun b43 => ?_) (fun b43 => ?_)
      · have hf := (if_neg b43).symm.trans hf
        refine Ev.blk (pc' := 295) [(.iconst 1, 0, 0, 0)] (by decide +kernel) trivial rfl (?_)
        show Ev l d mi_X10_isOwnHere 295 [some (.ref 65), some (.int y0)] [.int (Int32.ofInt 1)] (hp q42.2) 0 0 _
        refine Ev.goto (off := 4) (tgt := 299) (by decide +kernel) (by decide) ?_
        exact Ev.wk ((e_X10_isOwnHere_j299 hd) (Int32.ofInt 1) q42.2 _ hf) (And.intro (Or.inr rfl) (And.intro (Or.inl rfl) (trivial)))
      · have hf := (if_pos b43).symm.trans hf
        refine Ev.blk (pc' := 255) [(.aload_n 0, 0, 0, 0), (.aload_n 0, 0, 0, 0), (.getfield 81, 0, 10, 31)] (by decide +kernel) ⟨kf_10_81, trivial⟩ rfl (And.intro (kc rfl rfl) (Exists.intro 88 (And.intro rfl (?_))))
        show Ev l d mi_X10_isOwnHere 255 [some (.ref 65), some (.int y0)] [.ref 88, .ref 65] (hp q42.2) 0 0 _
        obtain ⟨q44, hq44, hf⟩ := bd_some hf
        refine Ev.callV (o := 65) (M' := mi_X10_isHere) (d' := d - 1) (As := [.ref 88]) (rest := []) (r' := (some (.int q44.1), hp q44.2)) (e_X10_isHere (d := d - 1) (by omega) 88 q42.2 _ hq44) (by omega) wm_X10_isHere wi_X10_isHere wv_X10_isHere km_10_301 (kc rfl rfl) (Nat.le_of_ble_eq_true rfl) rfl rfl rfl (Nat.le_of_ble_eq_true rfl) ⟨Nat.le_of_ble_eq_true rfl, Nat.le_of_ble_eq_true rfl⟩ (by decide +kernel) ?_
        show Ev l d mi_X10_isOwnHere 258 [some (.ref 65), some (.int y0)] [.int q44.1] (hp q44.2) 0 0 _
        refine Ev.if_ne (off := 36) (tgt := 294) (by decide +kernel) (by decide) (fun b45 => ?_) (fun b45 => ?_)
        · have hf := (if_neg b45).symm.trans hf
          refine Ev.blk (pc' := 295) [(.iconst 1, 0, 0, 0)] (by decide +kernel) trivial rfl (?_)
          show Ev l d mi_X10_isOwnHere 295 [some (.ref 65), some (.int y0)] [.int (Int32.ofInt 1)] (hp q44.2) 0 0 _
          refine Ev.goto (off := 4) (tgt := 299) (by decide +kernel) (by decide) ?_
          exact Ev.wk ((e_X10_isOwnHere_j299 hd) (Int32.ofInt 1) q44.2 _ hf) (And.intro (Or.inr rfl) (And.intro (Or.inl rfl) (trivial)))
        · have hf := (if_pos b45).symm.trans hf
          refine Ev.blk (pc' := 266) [(.aload_n 0, 0, 0, 0), (.aload_n 0, 0, 0, 0), (.getfield 84, 0, 10, 32)] (by decide +kernel) ⟨kf_10_84, trivial⟩ rfl (And.intro (kc rfl rfl) (Exists.intro 89 (And.intro rfl (?_))))
          show Ev l d mi_X10_isOwnHere 266 [some (.ref 65), some (.int y0)] [.ref 89, .ref 65] (hp q44.2) 0 0 _
          obtain ⟨q46, hq46, hf⟩ := bd_some hf
          refine Ev.callV (o := 65) (M' := mi_X10_isHere) (d' := d - 1) (As := [.ref 89]) (rest := []) (r' := (some (.int q46.1), hp q46.2)) (e_X10_isHere (d := d - 1) (by omega) 89 q44.2 _ hq46) (by omega) wm_X10_isHere wi_X10_isHere wv_X10_isHere km_10_301 (kc rfl rfl) (Nat.le_of_ble_eq_true rfl) rfl rfl rfl (Nat.le_of_ble_eq_true rfl) ⟨Nat.le_of_ble_eq_true rfl, Nat.le_of_ble_eq_true rfl⟩ (by decide +kernel) ?_
          show Ev l d mi_X10_isOwnHere 269 [some (.ref 65), some (.int y0)] [.int q46.1] (hp q46.2) 0 0 _
          refine Ev.if_ne (off := 25) (tgt := 294) (by decide +kernel) (by decide) (fun b47 => ?_) (fun b47 => ?_)
          · have hf := (if_neg b47).symm.trans hf
            refine Ev.blk (pc' := 295) [(.iconst 1, 0, 0, 0)] (by decide +kernel) trivial rfl (?_)
            show Ev l d mi_X10_isOwnHere 295 [some (.ref 65), some (.int y0)] [.int (Int32.ofInt 1)] (hp q46.2) 0 0 _
            refine Ev.goto (off := 4) (tgt := 299) (by decide +kernel) (by decide) ?_
            exact Ev.wk ((e_X10_isOwnHere_j299 hd) (Int32.ofInt 1) q46.2 _ hf) (And.intro (Or.inr rfl) (And.intro (Or.inl rfl) (trivial)))
          · have hf := (if_pos b47).symm.trans hf
            refine Ev.blk (pc' := 277) [(.aload_n 0, 0, 0, 0), (.aload_n 0, 0, 0, 0), (.getfield 87, 0, 10, 33)] (by decide +kernel) ⟨kf_10_87, trivial⟩ rfl (And.intro (kc rfl rfl) (Exists.intro 90 (And.intro rfl (?_))))
            show Ev l d mi_X10_isOwnHere 277 [some (.ref 65), some (.int y0)] [.ref 90, .ref 65] (hp q46.2) 0 0 _
            obtain ⟨q48, hq48, hf⟩ := bd_some hf
            refine Ev.callV (o := 65) (M' := mi_X10_isHere) (d' := d - 1) (As := [.ref 90]) (rest := []) (r' := (some (.int q48.1), hp q48.2)) (e_X10_isHere (d := d - 1) (by omega) 90 q46.2 _ hq48) (by omega) wm_X10_isHere wi_X10_isHere wv_X10_isHere km_10_301 (kc rfl rfl) (Nat.le_of_ble_eq_true rfl) rfl rfl rfl (Nat.le_of_ble_eq_true rfl) ⟨Nat.le_of_ble_eq_true rfl, Nat.le_of_ble_eq_true rfl⟩ (by decide +kernel) ?_
            show Ev l d mi_X10_isOwnHere 280 [some (.ref 65), some (.int y0)] [.int q48.1] (hp q48.2) 0 0 _
            refine Ev.if_ne (off := 14) (tgt := 294) (by decide +kernel) (by decide) (fun b49 => ?_) (fun b49 => ?_)
            · have hf := (if_neg b49).symm.trans hf
              refine Ev.blk (pc' := 295) [(.iconst 1, 0, 0, 0)] (by decide +kernel) trivial rfl (?_)
              show Ev l d mi_X10_isOwnHere 295 [some (.ref 65), some (.int y0)] [.int (Int32.ofInt 1)] (hp q48.2) 0 0 _
              refine Ev.goto (off := 4) (tgt := 299) (by decide +kernel) (by decide) ?_
              exact Ev.wk ((e_X10_isOwnHere_j299 hd) (Int32.ofInt 1) q48.2 _ hf) (And.intro (Or.inr rfl) (And.intro (Or.inl rfl) (trivial)))
            · have hf := (if_pos b49).symm.trans hf
              refine Ev.blk (pc' := 288) [(.aload_n 0, 0, 0, 0), (.aload_n 0, 0, 0, 0), (.getfield 90, 0, 10, 34)] (by decide +kernel) ⟨kf_10_90, trivial⟩ rfl (And.intro (kc rfl rfl) (Exists.intro 91 (And.intro rfl (?_))))
              show Ev l d mi_X10_isOwnHere 288 [some (.ref 65), some (.int y0)] [.ref 91, .ref 65] (hp q48.2) 0 0 _
              obtain ⟨q50, hq50, hf⟩ := bd_some hf
              refine Ev.callV (o := 65) (M' := mi_X10_isHere) (d' := d - 1) (As := [.ref 91]) (rest := []) (r' := (some (.int q50.1), hp q50.2)) (e_X10_isHere (d := d - 1) (by omega) 91 q48.2 _ hq50) (by omega) wm_X10_isHere wi_X10_isHere wv_X10_isHere km_10_301 (kc rfl rfl) (Nat.le_of_ble_eq_true rfl) rfl rfl rfl (Nat.le_of_ble_eq_true rfl) ⟨Nat.le_of_ble_eq_true rfl, Nat.le_of_ble_eq_true rfl⟩ (by decide +kernel) ?_
              show Ev l d mi_X10_isOwnHere 291 [some (.ref 65), some (.int y0)] [.int q50.1] (hp q50.2) 0 0 _
              refine Ev.if_eq (off := 7) (tgt := 298) (by decide +kernel) (by decide) (fun b51 => ?_) (fun b51 => ?_)
              · have hf := (if_pos b51).symm.trans hf
                refine Ev.blk (pc' := 299) [(.iconst 0, 0, 0, 0)] (by decide +kernel) trivial rfl (?_)
                show Ev l d mi_X10_isOwnHere 299 [some (.ref 65), some (.int y0)] [.int (Int32.ofInt 0)] (hp q50.2) 0 0 _
                exact Ev.wk ((e_X10_isOwnHere_j299 hd) (Int32.ofInt 0) q50.2 _ hf) (And.intro (Or.inr rfl) (And.intro (Or.inl rfl) (trivial)))
              · have hf := (if_neg b51).symm.trans hf
                refine Ev.blk (pc' := 295) [(.iconst 1, 0, 0, 0)] (by decide +kernel) trivial rfl (?_)
                show Ev l d mi_X10_isOwnHere 295 [some (.ref 65), some (.int y0)] [.int (Int32.ofInt 1)] (hp q50.2) 0 0 _
                refine Ev.goto (off := 4) (tgt := 299) (by decide +kernel) (by decide) ?_
                exact Ev.wk ((e_X10_isOwnHere_j299 hd) (Int32.ofInt 1) q50.2 _ hf) (And.intro (Or.inr rfl) (And.intro (Or.inl rfl) (trivial)))
def f_X10_isOwnHere_j147 (y0 : Int32) (s : ST) : Option (Int32 × ST) := (if y0 = 0 then (f_X10_isHere 80 s).bind (fun q27 => (if q27.1 = 0 then (f_X10_isHere 81 q27.2).bind (fun q29 => (if q29.1 = 0 then (f_X10_isHere 82 q29.2).bind (fun q31 => (if q31.1 = 0 then (f_X10_isHere 83 q31.2).bind (fun q33 => (if q33.1 = 0 then (f_X10_isHere 84 q33.2).bind (fun q35 => (if q35.1 = 0 then (f_X10_isHere 85 q35.2).bind (fun q37 => (if q37.1 = 0 then f_X10_isOwnHere_j223 (Int32.ofInt 0) q37.2 else f_X10_isOwnHere_j223 (Int32.ofInt 1) q37.2)) else f_X10_isOwnHere_j223 (Int32.ofInt 1) q35.2)) else f_X10_isOwnHere_j223 (Int32.ofInt 1) q33.2)) else f_X10_isOwnHere_j223 (Int32.ofInt 1) q31.2)) else f_X10_isOwnHere_j223 (Int32.ofInt 1) q29.2)) else f_X10_isOwnHere_j223 (Int32.ofInt 1) q27.2)) else f_X10_isOwnHere_j223 (Int32.ofInt 1) s)
set_option maxHeartbeats 2000000 in
set_option maxRecDepth 20000 in
theorem e_X10_isOwnHere_j147 {l : Launch} {d : Nat} (hd : 3 ≤ d) (y0 : Int32) (s : ST) (r : Int32 × ST) (hf : f_X10_isOwnHere_j147 y0 s = some r) : Ev l d mi_X10_isOwnHere 147 [some (.ref 65), none] [.int y0] (hp s) 0 0 (some (.int r.1), hp r.2) := by
  unfold f_X10_isOwnHere_j147 at hf
  refine Ev.blk (pc' := 149) [(.istore_n 1, 0, 0, 0), (.iload_n 1, 0, 0, 0)] (by decide +kernel) trivial rfl (And.intro (Nat.le_of_ble_eq_true rfl) (?_))
  show Ev l d mi_X10_isOwnHere 149 [some (.ref 65), some (.int y0)] [.int y0] (hp s) 0 0 _
  refine Ev.if_ne (off := 69) (tgt := 218) (by decide +kernel) (by decide) (fun b26 => ?_) (fun b26 => ?_)
  · have hf := (if_neg b26).symm.trans hf
    refine Ev.blk (pc' := 219) [(.iconst 1, 0, 0, 0)] (by decide +kernel) trivial rfl (?_)
    show Ev l d mi_X10_isOwnHere 219 [some (.ref 65), some (.int y0)] [.int (Int32.ofInt 1)] (hp s) 0 0 _
    refine Ev.goto (off := 4) (tgt := 223) (by decide +kernel) (by decide) ?_
    exact Ev.wk ((e_X10_isOwnHere_j223 hd) (Int32.ofInt 1) s _ hf) (And.intro (Or.inr rfl) (And.intro (Or.inl rfl) (trivial)))
  · have hf := (if_pos b26).symm.trans hf
    refine Ev.blk (pc' := 157) [(.aload_n 0, 0, 0, 0), (.aload_n 0, 0, 0, 0), (.getfield 57, 0, 10, 23)] (by decide +kernel) ⟨kf_10_57, trivial⟩ rfl (And.intro (kc rfl rfl) (Exists.intro 80 (And.intro rfl (?_))))
    show Ev l d mi_X10_isOwnHere 157 [some (.ref 65), some (.int y0)] [.ref 80, .ref 65] (hp s) 0 0 _
    obtain ⟨q27, hq27, hf⟩ := bd_some hf
    refine Ev.callV (o := 65) (M' := mi_X10_isHere) (d' := d - 1) (As := [.ref 80]) (rest := []) (r' := (some (.int q27.1), hp q27.2)) (e_X10_isHere (d := d - 1) (by omega) 80 s _ hq27) (by omega) wm_X10_isHere wi_X10_isHere wv_X10_isHere km_10_301 (kc rfl rfl) (Nat.le_of_ble_eq_true rfl) rfl rfl rfl (Nat.le_of_ble_eq_true rfl) ⟨Nat.le_of_ble_eq_true rfl, Nat.le_of_ble_eq_true rfl⟩ (by decide +kernel) ?_
    show Ev l d mi_X10_isOwnHere 160 [some (.ref 65), some (.int y0)] [.int q27.1] (hp q27.2) 0 0 _
    refine Ev.if_ne (off := 58) (tgt := 218) (by decide +kernel) (by decide) (fun b28 => ?_) (fun b28 => ?_)
    · have hf := (if_neg b28).symm.trans hf
      refine Ev.blk (pc' := 219) [(.iconst 1, 0, 0, 0)] (by decide +kernel) trivial rfl (?_)
      show Ev l d mi_X10_isOwnHere 219 [some (.ref 65), some (.int y0)] [.int (Int32.ofInt 1)] (hp q27.2) 0 0 _
      refine Ev.goto (off := 4) (tgt := 223) (by decide +kernel) (by decide) ?_
      exact Ev.wk ((e_X10_isOwnHere_j223 hd) (Int32.ofInt 1) q27.2 _ hf) (And.intro (Or.inr rfl) (And.intro (Or.inl rfl) (trivial)))
    · have hf := (if_pos b28).symm.trans hf
      refine Ev.blk (pc' := 168) [(.aload_n 0, 0, 0, 0), (.aload_n 0, 0, 0, 0), (.getfield 60, 0, 10, 24)] (by decide +kernel) ⟨kf_10_60, trivial⟩ rfl (And.intro (kc rfl rfl) (Exists.intro 81 (And.intro rfl (?_))))
      show Ev l d mi_X10_isOwnHere 168 [some (.ref 65), some (.int y0)] [.ref 81, .ref 65] (hp q27.2) 0 0 _
      obtain ⟨q29, hq29, hf⟩ := bd_some hf
      refine Ev.callV (o := 65) (M' := mi_X10_isHere) (d' := d - 1) (As := [.ref 81]) (rest := []) (r' := (some (.int q29.1), hp q29.2)) (e_X10_isHere (d := d - 1) (by omega) 81 q27.2 _ hq29) (by omega) wm_X10_isHere wi_X10_isHere wv_X10_isHere km_10_301 (kc rfl rfl) (Nat.le_of_ble_eq_true rfl) rfl rfl rfl (Nat.le_of_ble_eq_true rfl) ⟨Nat.le_of_ble_eq_true rfl, Nat.le_of_ble_eq_true rfl⟩ (by decide +kernel) ?_
      show Ev l d mi_X10_isOwnHere 171 [some (.ref 65), some (.int y0)] [.int q29.1] (hp q29.2) 0 0 _
      refine Ev.if_ne (off := 47) (tgt := 218) (by decide +kernel) (by decide) (fun b30 => ?_) (fun b30 => ?_)
      · have hf := (if_neg b30).symm.trans hf
        refine Ev.blk (pc' := 219) [(.iconst 1, 0, 0, 0)] (by decide +kernel) trivial rfl (?_)
        show Ev l d mi_X10_isOwnHere 219 [some (.ref 65), some (.int y0)] [.int (Int32.ofInt 1)] (hp q29.2) 0 0 _
        refine Ev.goto (off := 4) (tgt := 223) (by decide +kernel) (by decide) ?_
        exact Ev.wk ((e_X10_isOwnHere_j223 hd) (Int32.ofInt 1) q29.2 _ hf) (And.intro (Or.inr rfl) (And.intro (Or.inl rfl) (trivial)))
      · have hf := (if_pos b30).symm.trans hf
        refine Ev.blk (pc' := 179) [(.aload_n 0, 0, 0, 0), (.aload_n 0, 0, 0, 0), (.getfield 63, 0, 10, 25)] (by decide +kernel) ⟨kf_10_63, trivial⟩ rfl (And.intro (kc rfl rfl) (Exists.intro 82 (And.intro rfl (?_))))
        show Ev l d mi_X10_isOwnHere 179 [some (.ref 65), some (.int y0)] [.ref 82, .ref 65] (hp q29.2) 0 0 _
        obtain ⟨q31, hq31, hf⟩ := bd_some hf
        refine Ev.callV (o := 65) (M' := mi_X10_isHere) (d' := d - 1) (As := [.ref 82]) (rest := []) (r' := (some (.int q31.1), hp q31.2)) (e_X10_isHere (d := d - 1) (by omega) 82 q29.2 _ hq31) (by omega) wm_X10_isHere wi_X10_isHere wv_X10_isHere km_10_301 (kc rfl rfl) (Nat.le_of_ble_eq_true rfl) rfl rfl rfl (Nat.le_of_ble_eq_true rfl) ⟨Nat.le_of_ble_eq_true rfl, Nat.le_of_ble_eq_true rfl⟩ (by decide +kernel) ?_
        show Ev l d mi_X10_isOwnHere 182 [some (.ref 65), some (.int y0)] [.int q31.1] (hp q31.2) 0 0 _
        refine Ev.if_ne (off := 36) (tgt := 218) (by decide +kernel) (by decide) (fun b32 => ?_) (fun b32 => ?_)
        · have hf := (if_neg b32).symm.trans hf
          refine Ev.blk (pc' := 219) [(.iconst 1, 0, 0, 0)] (by decide +kernel) trivial rfl (?_)
          show Ev l d mi_X10_isOwnHere 219 [some (.ref 65), some (.int y0)] [.int (Int32.ofInt 1)] (hp q31.2) 0 0 _
          refine Ev.goto (off := 4) (tgt := 223) (by decide +kernel) (by decide) ?_
          exact Ev.wk ((e_X10_isOwnHere_j223 hd) (Int32.ofInt 1) q31.2 _ hf) (And.intro (Or.inr rfl) (And.intro (Or.inl rfl) (trivial)))
        · have hf := (if_pos b32).symm.trans hf
          refine Ev.blk (pc' := 190) [(.aload_n 0, 0, 0, 0), (.aload_n 0, 0, 0, 0), (.getfield 66, 0, 10, 26)] (by decide +kernel) ⟨kf_10_66, trivial⟩ rfl (And.intro (kc rfl rfl) (Exists.intro 83 (And.intro rfl (?_))))
          show Ev l d mi_X10_isOwnHere 190 [some (.ref 65), some (.int y0)] [.ref 83, .ref 65] (hp q31.2) 0 0 _
          obtain ⟨q33, hq33, hf⟩ := bd_some hf
          refine Ev.callV (o := 65) (M' := mi_X10_isHere) (d' := d - 1) (As := [.ref 83]) (rest := []) (r' := (some (.int q33.1), hp q33.2)) (e_X10_isHere (d := d - 1) (by omega) 83 q31.2 _ hq33) (by omega) wm_X10_isHere wi_X10_isHere wv_X10_isHere km_10_301 (kc rfl rfl) (Nat.le_of_ble_eq_true rfl) rfl rfl rfl (Nat.le_of_ble_eq_true rfl) ⟨Nat.le_of_ble_eq_true rfl, Nat.le_of_ble_eq_true rfl⟩ (by decide +kernel) ?_
          show Ev l d mi_X10_isOwnHere 193 [some (.ref 65), some (.int y0)] [.int q33.1] (hp q33.2) 0 0 _
          refine Ev.if_ne (off := 25) (tgt := 218) (by decide +kernel) (by decide) (fun b34 => ?_) (fun b34 => ?_)
          · have hf := (if_neg b34).symm.trans hf
            refine Ev.blk (pc' := 219) [(.iconst 1, 0, 0, 0)] (by decide +kernel) trivial rfl (?_)
            show Ev l d mi_X10_isOwnHere 219 [some (.ref 65), some (.int y0)] [.int (Int32.ofInt 1)] (hp q33.2) 0 0 _
            refine Ev.goto (off := 4) (tgt := 223) (by decide +kernel) (by decide) ?_
            exact Ev.wk ((e_X10_isOwnHere_j223 hd) (Int32.ofInt 1) q33.2 _ hf) (And.intro (Or.inr rfl) (And.intro (Or.inl rfl) (trivial)))
          · have hf := (if_pos b34).symm.trans hf
            refine Ev.blk (pc' := 201) [(.aload_n 0, 0, 0, 0), (.aload_n 0, 0, 0, 0), (.getfield 69, 0, 10, 27)] (by decide +kernel) ⟨kf_10_69, trivial⟩ rfl (And.intro (kc rfl rfl) (Exists.intro 84 (And.intro rfl (?_))))
            show Ev l d mi_X10_isOwnHere 201 [some (.ref 65), some (.int y0)] [.ref 84, .ref 65] (hp q33.2) 0 0 _
            obtain ⟨q35, hq35, hf⟩ := bd_some hf
            refine Ev.callV (o := 65) (M' := mi_X10_isHere) (d' := d - 1) (As := [.ref 84]) (rest := []) (r' := (some (.int q35.1), hp q35.2)) (e_X10_isHere (d := d - 1) (by omega) 84 q33.2 _ hq35) (by omega) wm_X10_isHere wi_X10_isHere wv_X10_isHere km_10_301 (kc rfl rfl) (Nat.le_of_ble_eq_true rfl) rfl rfl rfl (Nat.le_of_ble_eq_true rfl) ⟨Nat.le_of_ble_eq_true rfl, Nat.le_of_ble_eq_true rfl⟩ (by decide +kernel) ?_
            show Ev l d mi_X10_isOwnHere 204 [some (.ref 65), some (.int y0)] [.int q35.1] (hp q35.2) 0 0 _
            refine Ev.if_ne (off := 14) (tgt := 218) (by decide +kernel) (by decide) (fun b36 => ?_) (fun b36 => ?_)
            · have hf := (if_neg b36).symm.trans hf
              refine Ev.blk (pc' := 219) [(.iconst 1, 0, 0, 0)] (by decide +kernel) trivial rfl (?_)
              show Ev l d mi_X10_isOwnHere 219 [some (.ref 65), some (.int y0)] [.int (Int32.ofInt 1)] (hp q35.2) 0 0 _
              refine Ev.goto (off := 4) (tgt := 223) (by decide +kernel) (by decide) ?_
              exact Ev.wk ((e_X10_isOwnHere_j223 hd) (Int32.ofInt 1) q35.2 _ hf) (And.intro (Or.inr rfl) (And.intro (Or.inl rfl) (trivial)))
            · have hf := (if_pos b36).symm.trans hf
              refine Ev.blk (pc' := 212) [(.aload_n 0, 0, 0, 0), (.aload_n 0, 0, 0, 0), (.getfield 72, 0, 10, 28)] (by decide +kernel) ⟨kf_10_72, trivial⟩ rfl (And.intro (kc rfl rfl) (Exists.intro 85 (And.intro rfl (?_))))
              show Ev l d mi_X10_isOwnHere 212 [some (.ref 65), some (.int y0)] [.ref 85, .ref 65] (hp q35.2) 0 0 _
              obtain ⟨q37, hq37, hf⟩ := bd_some hf
              refine Ev.callV (o := 65) (M' := mi_X10_isHere) (d' := d - 1) (As := [.ref 85]) (rest := []) (r' := (some (.int q37.1), hp q37.2)) (e_X10_isHere (d := d - 1) (by omega) 85 q35.2 _ hq37) (by omega) wm_X10_isHere wi_X10_isHere wv_X10_isHere km_10_301 (kc rfl rfl) (Nat.le_of_ble_eq_true rfl) rfl rfl rfl (Nat.le_of_ble_eq_true rfl) ⟨Nat.le_of_ble_eq_true rfl, Nat.le_of_ble_eq_true rfl⟩ (by decide +kernel) ?_
              show Ev l d mi_X10_isOwnHere 215 [some (.ref 65), some (.int y0)] [.int q37.1] (hp q37.2) 0 0 _
              refine Ev.if_eq (off := 7) (tgt := 222) (by decide +kernel) (by decide) (fun b38 => ?_) (fun b38 => ?_)
              · have hf := (if_pos b38).symm.trans hf
                refine Ev.blk (pc' := 223) [(.iconst 0, 0, 0, 0)] (by decide +kernel) trivial rfl (?_)
                show Ev l d mi_X10_isOwnHere 223 [some (.ref 65), some (.int y0)] [.int (Int32.ofInt 0)] (hp q37.2) 0 0 _
                exact Ev.wk ((e_X10_isOwnHere_j223 hd) (Int32.ofInt 0) q37.2 _ hf) (And.intro (Or.inr rfl) (And.intro (Or.inl rfl) (trivial)))
              · have hf := (if_neg b38).symm.trans hf
                refine Ev.blk (pc' := 219) [(.iconst 1, 0, 0, 0)] (by decide +kernel) trivial rfl (?_)
                show Ev l d mi_X10_isOwnHere 219 [some (.ref 65), some (.int y0)] [.int (Int32.ofInt 1)] (hp q37.2) 0 0 _
                refine Ev.goto (off := 4) (tgt := 223) (by decide +kernel) (by decide) ?_
                exact Ev.wk ((e_X10_isOwnHere_j223 hd) (Int32.ofInt 1) q37.2 _ hf) (And.intro (Or.inr rfl) (And.intro (Or.inl rfl) (trivial)))
def f_X10_isOwnHere_j71 (y0 : Int32) (s : ST) : Option (Int32 × ST) := (if y0 = 0 then (f_X10_isHere 74 s).bind (fun q14 => (if q14.1 = 0 then (f_X10_isHere 75 q14.2).bind (fun q16 => (if q16.1 = 0 then (f_X10_isHere 76 q16.2).bind (fun q18 => (if q18.1 = 0 then (f_X10_isHere 77 q18.2).bind (fun q20 => (if q20.1 = 0 then (f_X10_isHere 78 q20.2).bind (fun q22 => (if q22.1 = 0 then (f_X10_isHere 79 q22.2).bind (fun q24 => (if q24.1 = 0 then f_X10_isOwnHere_j147 (Int32.ofInt 0) q24.2 else f_X10_isOwnHere_j147 (Int32.ofInt 1) q24.2)) else f_X10_isOwnHere_j147 (Int32.ofInt 1) q22.2)) else f_X10_isOwnHere_j147 (Int32.ofInt 1) q20.2)) else f_X10_isOwnHere_j147 (Int32.ofInt 1) q18.2)) else f_X10_isOwnHere_j147 (Int32.ofInt 1) q16.2)) else f_X10_isOwnHere_j147 (Int32.ofInt 1) q14.2)) else f_X10_isOwnHere_j147 (Int32.ofInt 1) s)
set_option maxHeartbeats 2000000 in
set_option maxRecDepth 20000 in
theorem e_X10_isOwnHere_j71 {l : Launch} {d : Nat} (hd : 3 ≤ d) (y0 : Int32) (s : ST) (r : Int32 × ST) (hf : f_X10_isOwnHere_j71 y0 s = some r) : Ev l d mi_X10_isOwnHere 71 [some (.ref 65), none] [.int y0] (hp s) 0 0 (some (.int r.1), hp r.2) := by
  unfold f_X10_isOwnHere_j71 at hf
  refine Ev.blk (pc' := 73) [(.istore_n 1, 0, 0, 0), (.iload_n 1, 0, 0, 0)] (by decide +kernel) trivial rfl (And.intro (Nat.le_of_ble_eq_true rfl) (?_))
  show Ev l d mi_X10_isOwnHere 73 [some (.ref 65), some (.int y0)] [.int y0] (hp s) 0 0 _
  refine Ev.if_ne (off := 69) (tgt := 142) (by decide +kernel) (by decide) (fun b13 => ?_) (fun b13 => ?_)
  · have hf := (if_neg b13).symm.trans hf
    refine Ev.blk (pc' := 143) [(.iconst 1, 0, 0, 0)] (by decide +kernel) trivial rfl (?_)
    show Ev l d mi_X10_isOwnHere 143 [some (.ref 65), some (.int y0)] [.int (Int32.ofInt 1)] (hp s) 0 0 _
    refine Ev.goto (off := 4) (tgt := 147) (by decide +kernel) (by decide) ?_
    exact Ev.wk ((e_X10_isOwnHere_j147 hd) (Int32.ofInt 1) s _ hf) (And.intro (Or.inr rfl) (And.intro (Or.inl rfl) (trivial)))
  · have hf := (if_pos b13).symm.trans hf
    refine Ev.blk (pc' := 81) [(.aload_n 0, 0, 0, 0), (.aload_n 0, 0, 0, 0), (.getfield 39, 0, 10, 17)] (by decide +kernel) ⟨kf_10_39, trivial⟩ rfl (And.intro (kc rfl rfl) (Exists.intro 74 (And.intro rfl (?_))))
    show Ev l d mi_X10_isOwnHere 81 [some (.ref 65), some (.int y0)] [.ref 74, .ref 65] (hp s) 0 0 _
    obtain ⟨q14, hq14, hf⟩ := bd_some hf
    refine Ev.callV (o := 65) (M' := mi_X10_isHere) (d' := d - 1) (As := [.ref 74]) (rest := []) (r' := (some (.int q14.1), hp q14.2)) (e_X10_isHere (d := d - 1) (by omega) 74 s _ hq14) (by omega) wm_X10_isHere wi_X10_isHere wv_X10_isHere km_10_301 (kc rfl rfl) (Nat.le_of_ble_eq_true rfl) rfl rfl rfl (Nat.le_of_ble_eq_true rfl) ⟨Nat.le_of_ble_eq_true rfl, Nat.le_of_ble_eq_true rfl⟩ (by decide +kernel) ?_
    show Ev l d mi_X10_isOwnHere 84 [some (.ref 65), some (.int y0)] [.int q14.1] (hp q14.2) 0 0 _
    refine Ev.if_ne (off := 58) (tgt := 142) (by decide +kernel) (by decide) (fun b15 => ?_) (fun b15 => ?_)
    · have hf := (if_neg b15).symm.trans hf
      refine Ev.blk (pc' := 143) [(.iconst 1, 0, 0, 0)] (by decide +kernel) trivial rfl (?_)
      show Ev l d mi_X10_isOwnHere 143 [some (.ref 65), some (.int y0)] [.int (Int32.ofInt 1)] (hp q14.2) 0 0 _
      refine Ev.goto (off := 4) (tgt := 147) (by decide +kernel) (by decide) ?_
      exact Ev.wk ((e_X10_isOwnHere_j147 hd) (Int32.ofInt 1) q14.2 _ hf) (And.intro (Or.inr rfl) (And.intro (Or.inl rfl) (trivial)))
    · have hf := (if_pos b15).symm.trans hf
      refine Ev.blk (pc' := 92) [(.aload_n 0, 0, 0, 0), (.aload_n 0, 0, 0, 0), (.getfield 42, 0, 10, 18)] (by decide +kernel) ⟨kf_10_42, trivial⟩ rfl (And.intro (kc rfl rfl) (Exists.intro 75 (And.intro rfl (?_))))
      show Ev l d mi_X10_isOwnHere 92 [some (.ref 65), some (.int y0)] [.ref 75, .ref 65] (hp q14.2) 0 0 _
      obtain ⟨q16, hq16, hf⟩ := bd_some hf
      refine Ev.callV (o := 65) (M' := mi_X10_isHere) (d' := d - 1) (As := [.ref 75]) (rest := []) (r' := (some (.int q16.1), hp q16.2)) (e_X10_isHere (d := d - 1) (by omega) 75 q14.2 _ hq16) (by omega) wm_X10_isHere wi_X10_isHere wv_X10_isHere km_10_301 (kc rfl rfl) (Nat.le_of_ble_eq_true rfl) rfl rfl rfl (Nat.le_of_ble_eq_true rfl) ⟨Nat.le_of_ble_eq_true rfl, Nat.le_of_ble_eq_true rfl⟩ (by decide +kernel) ?_
      show Ev l d mi_X10_isOwnHere 95 [some (.ref 65), some (.int y0)] [.int q16.1] (hp q16.2) 0 0 _
      refine Ev.if_ne (off := 47) (tgt := 142) (by decide +kernel) (by decide) (fun b17 => ?_) (fun b17 => ?_)
      · have hf := (if_neg b17).symm.trans hf
        refine Ev.blk (pc' := 143) [(.iconst 1, 0, 0, 0)] (by decide +kernel) trivial rfl (?_)
        show Ev l d mi_X10_isOwnHere 143 [some (.ref 65), some (.int y0)] [.int (Int32.ofInt 1)] (hp q16.2) 0 0 _
        refine Ev.goto (off := 4) (tgt := 147) (by decide +kernel) (by decide) ?_
        exact Ev.wk ((e_X10_isOwnHere_j147 hd) (Int32.ofInt 1) q16.2 _ hf) (And.intro (Or.inr rfl) (And.intro (Or.inl rfl) (trivial)))
      · have hf := (if_pos b17).symm.trans hf
        refine Ev.blk (pc' := 103) [(.aload_n 0, 0, 0, 0), (.aload_n 0, 0, 0, 0), (.getfield 45, 0, 10, 19)] (by decide +kernel) ⟨kf_10_45, trivial⟩ rfl (And.intro (kc rfl rfl) (Exists.intro 76 (And.intro rfl (?_))))
        show Ev l d mi_X10_isOwnHere 103 [some (.ref 65), some (.int y0)] [.ref 76, .ref 65] (hp q16.2) 0 0 _
        obtain ⟨q18, hq18, hf⟩ := bd_some hf
        refine Ev.callV (o := 65) (M' := mi_X10_isHere) (d' := d - 1) (As := [.ref 76]) (rest := []) (r' := (some (.int q18.1), hp q18.2)) (e_X10_isHere (d := d - 1) (by omega) 76 q16.2 _ hq18) (by omega) wm_X10_isHere wi_X10_isHere wv_X10_isHere km_10_301 (kc rfl rfl) (Nat.le_of_ble_eq_true rfl) rfl rfl rfl (Nat.le_of_ble_eq_true rfl) ⟨Nat.le_of_ble_eq_true rfl, Nat.le_of_ble_eq_true rfl⟩ (by decide +kernel) ?_
        show Ev l d mi_X10_isOwnHere 106 [some (.ref 65), some (.int y0)] [.int q18.1] (hp q18.2) 0 0 _
        refine Ev.if_ne (off := 36) (tgt := 142) (by decide +kernel) (by decide) (fun b19 => ?_) (fun b19 => ?_)
        · have hf := (if_neg b19).symm.trans hf
          refine Ev.blk (pc' := 143) [(.iconst 1, 0, 0, 0)] (by decide +kernel) trivial rfl (?_)
          show Ev l d mi_X10_isOwnHere 143 [some (.ref 65), some (.int y0)] [.int (Int32.ofInt 1)] (hp q18.2) 0 0 _
          refine Ev.goto (off := 4) (tgt := 147) (by decide +kernel) (by decide) ?_
          exact Ev.wk ((e_X10_isOwnHere_j147 hd) (Int32.ofInt 1) q18.2 _ hf) (And.intro (Or.inr rfl) (And.intro (Or.inl rfl) (trivial)))
        · have hf := (if_pos b19).symm.trans hf
          refine Ev.blk (pc' := 114) [(.aload_n 0, 0, 0, 0), (.aload_n 0, 0, 0, 0), (.getfield 48, 0, 10, 20)] (by decide +kernel) ⟨kf_10_48, trivial⟩ rfl (And.intro (kc rfl rfl) (Exists.intro 77 (And.intro rfl (?_))))
          show Ev l d mi_X10_isOwnHere 114 [some (.ref 65), some (.int y0)] [.ref 77, .ref 65] (hp q18.2) 0 0 _
          obtain ⟨q20, hq20, hf⟩ := bd_some hf
          refine Ev.callV (o := 65) (M' := mi_X10_isHere) (d' := d - 1) (As := [.ref 77]) (rest := []) (r' := (some (.int q20.1), hp q20.2)) (e_X10_isHere (d := d - 1) (by omega) 77 q18.2 _ hq20) (by omega) wm_X10_isHere wi_X10_isHere wv_X10_isHere km_10_301 (kc rfl rfl) (Nat.le_of_ble_eq_true rfl) rfl rfl rfl (Nat.le_of_ble_eq_true rfl) ⟨Nat.le_of_ble_eq_true rfl, Nat.le_of_ble_eq_true rfl⟩ (by decide +kernel) ?_
          show Ev l d mi_X10_isOwnHere 117 [some (.ref 65), some (.int y0)] [.int q20.1] (hp q20.2) 0 0 _
          refine Ev.if_ne (off := 25) (tgt := 142) (by decide +kernel) (by decide) (fun b21 => ?_) (fun b21 => ?_)
          · have hf := (if_neg b21).symm.trans hf
            refine Ev.blk (pc' := 143) [(.iconst 1, 0, 0, 0)] (by decide +kernel) trivial rfl (?_)
            show Ev l d mi_X10_isOwnHere 143 [some (.ref 65), some (.int y0)] [.int (Int32.ofInt 1)] (hp q20.2) 0 0 _
            refine Ev.goto (off := 4) (tgt := 147) (by decide +kernel) (by decide) ?_
            exact Ev.wk ((e_X10_isOwnHere_j147 hd) (Int32.ofInt 1) q20.2 _ hf) (And.intro (Or.inr rfl) (And.intro (Or.inl rfl) (trivial)))
          · have hf := (if_pos b21).symm.trans hf
            refine Ev.blk (pc' := 125) [(.aload_n 0, 0, 0, 0), (.aload_n 0, 0, 0, 0), (.getfield 51, 0, 10, 21)] (by decide +kernel) ⟨kf_10_51, trivial⟩ rfl (And.intro (kc rfl rfl) (Exists.intro 78 (And.intro rfl (?_))))
            show Ev l d mi_X10_isOwnHere 125 [some (.ref 65), some (.int y0)] [.ref 78, .ref 65] (hp q20.2) 0 0 _
            obtain ⟨q22, hq22, hf⟩ := bd_some hf
            refine Ev.callV (o := 65) (M' := mi_X10_isHere) (d' := d - 1) (As := [.ref 78]) (rest := []) (r' := (some (.int q22.1), hp q22.2)) (e_X10_isHere (d := d - 1) (by omega) 78 q20.2 _ hq22) (by omega) wm_X10_isHere wi_X10_isHere wv_X10_isHere km_10_301 (kc rfl rfl) (Nat.le_of_ble_eq_true rfl) rfl rfl rfl (Nat.le_of_ble_eq_true rfl) ⟨Nat.le_of_ble_eq_true rfl, Nat.le_of_ble_eq_true rfl⟩ (by decide +kernel) ?_
            show Ev l d mi_X10_isOwnHere 128 [some (.ref 65), some (.int y0)] [.int q22.1] (hp q22.2) 0 0 _
            refine Ev.if_ne (off := 14) (tgt := 142) (by decide +kernel) (by decide) (fun b23 => ?_) (fun b23 => ?_)
            · have hf := (if_neg b23).symm.trans hf
              refine Ev.blk (pc' := 143) [(.iconst 1, 0, 0, 0)] (by decide +kernel) trivial rfl (?_)
              show Ev l d mi_X10_isOwnHere 143 [some (.ref 65), some (.int y0)] [.int (Int32.ofInt 1)] (hp q22.2) 0 0 _
              refine Ev.goto (off := 4) (tgt := 147) (by decide +kernel) (by decide) ?_
              exact Ev.wk ((e_X10_isOwnHere_j147 hd) (Int32.ofInt 1) q22.2 _ hf) (And.intro (Or.inr rfl) (And.intro (Or.inl rfl) (trivial)))
            · have hf := (if_pos b23).symm.trans hf
              refine Ev.blk (pc' := 136) [(.aload_n 0, 0, 0, 0), (.aload_n 0, 0, 0, 0), (.getfield 54, 0, 10, 22)] (by decide +kernel) ⟨kf_10_54, trivial⟩ rfl (And.intro (kc rfl rfl) (Exists.intro 79 (And.intro rfl (?_))))
              show Ev l d mi_X10_isOwnHere 136 [some (.ref 65), some (.int y0)] [.ref 79, .ref 65] (hp q22.2) 0 0 _
              obtain ⟨q24, hq24, hf⟩ := bd_some hf
              refine Ev.callV (o := 65) (M' := mi_X10_isHere) (d' := d - 1) (As := [.ref 79]) (rest := []) (r' := (some (.int q24.1), hp q24.2)) (e_X10_isHere (d := d - 1) (by omega) 79 q22.2 _ hq24) (by omega) wm_X10_isHere wi_X10_isHere wv_X10_isHere km_10_301 (kc rfl rfl) (Nat.le_of_ble_eq_true rfl) rfl rfl rfl (Nat.le_of_ble_eq_true rfl) ⟨Nat.le_of_ble_eq_true rfl, Nat.le_of_ble_eq_true rfl⟩ (by decide +kernel) ?_
              show Ev l d mi_X10_isOwnHere 139 [some (.ref 65), some (.int y0)] [.int q24.1] (hp q24.2) 0 0 _
              refine Ev.if_eq (off := 7) (tgt := 146) (by decide +kernel) (by decide) (fun b25 => ?_) (fun b25 => ?_)
              · have hf := (if_pos b25).symm.trans hf
                refine Ev.blk (pc' := 147) [(.iconst 0, 0, 0, 0)] (by decide +kernel) trivial rfl (?_)
                show Ev l d mi_X10_isOwnHere 147 [some (.ref 65), some (.int y0)] [.int (Int32.ofInt 0)] (hp q24.2) 0 0 _
                exact Ev.wk ((e_X10_isOwnHere_j147 hd) (Int32.ofInt 0) q24.2 _ hf) (And.intro (Or.inr rfl) (And.intro (Or.inl rfl) (trivial)))
              · have hf := (if_neg b25).symm.trans hf
                refine Ev.blk (pc' := 143) [(.iconst 1, 0, 0, 0)] (by decide +kernel) trivial rfl (?_)
                show Ev l d mi_X10_isOwnHere 143 [some (.ref 65), some (.int y0)] [.int (Int32.ofInt 1)] (hp q24.2) 0 0 _
                refine Ev.goto (off := 4) (tgt := 147) (by decide +kernel) (by decide) ?_
                exact Ev.wk ((e_X10_isOwnHere_j147 hd) (Int32.ofInt 1) q24.2 _ hf) (And.intro (Or.inr rfl) (And.intro (Or.inl rfl) (trivial)))
def f_X10_isOwnHere (s : ST) : Option (Int32 × ST) := (f_X10_isHere 68 s).bind (fun q1 => (if q1.1 = 0 then (f_X10_isHere 69 q1.2).bind (fun q3 => (if q3.1 = 0 then (f_X10_isHere 70 q3.2).bind (fun q5 => (if q5.1 = 0 then (f_X10_isHere 71 q5.2).bind (fun q7 => (if q7.1 = 0 then (f_X10_isHere 72 q7.2).bind (fun q9 => (if q9.1 = 0 then (f_X10_isHere 73 q9.2).bind (fun q11 => (if q11.1 = 0 then f_X10_isOwnHere_j71 (Int32.ofInt 0) q11.2 else f_X10_isOwnHere_j71 (Int32.ofInt 1) q11.2)) else f_X10_isOwnHere_j71 (Int32.ofInt 1) q9.2)) else f_X10_isOwnHere_j71 (Int32.ofInt 1) q7.2)) else f_X10_isOwnHere_j71 (Int32.ofInt 1) q5.2)) else f_X10_isOwnHere_j71 (Int32.ofInt 1) q3.2)) else f_X10_isOwnHere_j71 (Int32.ofInt 1) q1.2))
set_option maxHeartbeats 2000000 in
set_option maxRecDepth 20000 in
theorem e_X10_isOwnHere {l : Launch} {d : Nat} (hd : 3 ≤ d) (s : ST) (r : Int32 × ST) (hf : f_X10_isOwnHere s = some r) : Cl l d mi_X10_isOwnHere [.ref 65] (hp s) (some (.int r.1), hp r.2) := by
  refine Ev.entry (by decide +kernel) rfl rfl ?_
  show Ev l d mi_X10_isOwnHere 0 [some (.ref 65), none] [] (hp s) 0 0 _
  unfold f_X10_isOwnHere at hf
  refine Ev.blk (pc' := 5) [(.aload_n 0, 0, 0, 0), (.aload_n 0, 0, 0, 0), (.getfield 20, 0, 10, 11)] (by decide +kernel) ⟨kf_10_20, trivial⟩ rfl (And.intro (kc rfl rfl) (Exists.intro 68 (And.intro rfl (?_))))
  show Ev l d mi_X10_isOwnHere 5 [some (.ref 65), none] [.ref 68, .ref 65] (hp s) 0 0 _
  obtain ⟨q1, hq1, hf⟩ := bd_some hf
  refine Ev.callV (o := 65) (M' := mi_X10_isHere) (d' := d - 1) (As := [.ref 68]) (rest := []) (r' := (some (.int q1.1), hp q1.2)) (e_X10_isHere (d := d - 1) (by omega) 68 s _ hq1) (by omega) wm_X10_isHere wi_X10_isHere wv_X10_isHere km_10_301 (kc rfl rfl) (Nat.le_of_ble_eq_true rfl) rfl rfl rfl (Nat.le_of_ble_eq_true rfl) ⟨Nat.le_of_ble_eq_true rfl, Nat.le_of_ble_eq_true rfl⟩ (by decide +kernel) ?_
  show Ev l d mi_X10_isOwnHere 8 [some (.ref 65), none] [.int q1.1] (hp q1.2) 0 0 _
  refine Ev.if_ne (off := 58) (tgt := 66) (by decide +kernel) (by decide) (fun b2 => ?_) (fun b2 => ?_)
  · have hf := (if_neg b2).symm.trans hf
    refine Ev.blk (pc' := 67) [(.iconst 1, 0, 0, 0)] (by decide +kernel) trivial rfl (?_)
    show Ev l d mi_X10_isOwnHere 67 [some (.ref 65), none] [.int (Int32.ofInt 1)] (hp q1.2) 0 0 _
    refine Ev.goto (off := 4) (tgt := 71) (by decide +kernel) (by decide) ?_
    exact (e_X10_isOwnHere_j71 hd) (Int32.ofInt 1) q1.2 _ hf
  · have hf := (if_pos b2).symm.trans hf
    refine Ev.blk (pc' := 16) [(.aload_n 0, 0, 0, 0), (.aload_n 0, 0, 0, 0), (.getfield 24, 0, 10, 12)] (by decide +kernel) ⟨kf_10_24, trivial⟩ rfl (And.intro (kc rfl rfl) (Exists.intro 69 (And.intro rfl (?_))))
    show Ev l d mi_X10_isOwnHere 16 [some (.ref 65), none] [.ref 69, .ref 65] (hp q1.2) 0 0 _
    obtain ⟨q3, hq3, hf⟩ := bd_some hf
    refine Ev.callV (o := 65) (M' := mi_X10_isHere) (d' := d - 1) (As := [.ref 69]) (rest := []) (r' := (some (.int q3.1), hp q3.2)) (e_X10_isHere (d := d - 1) (by omega) 69 q1.2 _ hq3) (by omega) wm_X10_isHere wi_X10_isHere wv_X10_isHere km_10_301 (kc rfl rfl) (Nat.le_of_ble_eq_true rfl) rfl rfl rfl (Nat.le_of_ble_eq_true rfl) ⟨Nat.le_of_ble_eq_true rfl, Nat.le_of_ble_eq_true rfl⟩ (by decide +kernel) ?_
    show Ev l d mi_X10_isOwnHere 19 [some (.ref 65), none] [.int q3.1] (hp q3.2) 0 0 _
    refine Ev.if_ne (off := 47) (tgt := 66) (by decide +kernel) (by decide) (fun b4 => ?_) (fun b4 => ?_)
    · have hf := (if_neg b4).symm.trans hf
      refine Ev.blk (pc' := 67) [(.iconst 1, 0, 0, 0)] (by decide +kernel) trivial rfl (?_)
      show Ev l d mi_X10_isOwnHere 67 [some (.ref 65), none] [.int (Int32.ofInt 1)] (hp q3.2) 0 0 _
      refine Ev.goto (off := 4) (tgt := 71) (by decide +kernel) (by decide) ?_
      exact (e_X10_isOwnHere_j71 hd) (Int32.ofInt 1) q3.2 _ hf
    · have hf := (if_pos b4).symm.trans hf
      refine Ev.blk (pc' := 27) [(.aload_n 0, 0, 0, 0), (.aload_n 0, 0, 0, 0), (.getfield 27, 0, 10, 13)] (by decide +kernel) ⟨kf_10_27, trivial⟩ rfl (And.intro (kc rfl rfl) (Exists.intro 70 (And.intro rfl (?_))))
      show Ev l d mi_X10_isOwnHere 27 [some (.ref 65), none] [.ref 70, .ref 65] (hp q3.2) 0 0 _
      obtain ⟨q5, hq5, hf⟩ := bd_some hf
      refine Ev.callV (o := 65) (M' := mi_X10_isHere) (d' := d - 1) (As := [.ref 70]) (rest := []) (r' := (some (.int q5.1), hp q5.2)) (e_X10_isHere (d := d - 1) (by omega) 70 q3.2 _ hq5) (by omega) wm_X10_isHere wi_X10_isHere wv_X10_isHere km_10_301 (kc rfl rfl) (Nat.le_of_ble_eq_true rfl) rfl rfl rfl (Nat.le_of_ble_eq_true rfl) ⟨Nat.le_of_ble_eq_true rfl, Nat.le_of_ble_eq_true rfl⟩ (by decide +kernel) ?_
      show Ev l d mi_X10_isOwnHere 30 [some (.ref 65), none] [.int q5.1] (hp q5.2) 0 0 _
      refine Ev.if_ne (off := 36) (tgt := 66) (by decide +kernel) (by decide) (fun b6 => ?_) (fun b6 => ?_)
      · have hf := (if_neg b6).symm.trans hf
        refine Ev.blk (pc' := 67) [(.iconst 1, 0, 0, 0)] (by decide +kernel) trivial rfl (?_)
        show Ev l d mi_X10_isOwnHere 67 [some (.ref 65), none] [.int (Int32.ofInt 1)] (hp q5.2) 0 0 _
        refine Ev.goto (off := 4) (tgt := 71) (by decide +kernel) (by decide) ?_
        exact (e_X10_isOwnHere_j71 hd) (Int32.ofInt 1) q5.2 _ hf
      · have hf := (if_pos b6).symm.trans hf
        refine Ev.blk (pc' := 38) [(.aload_n 0, 0, 0, 0), (.aload_n 0, 0, 0, 0), (.getfield 30, 0, 10, 14)] (by decide +kernel) ⟨kf_10_30, trivial⟩ rfl (And.intro (kc rfl rfl) (Exists.intro 71 (And.intro rfl (?_))))
        show Ev l d mi_X10_isOwnHere 38 [some (.ref 65), none] [.ref 71, .ref 65] (hp q5.2) 0 0 _
        obtain ⟨q7, hq7, hf⟩ := bd_some hf
        refine Ev.callV (o := 65) (M' := mi_X10_isHere) (d' := d - 1) (As := [.ref 71]) (rest := []) (r' := (some (.int q7.1), hp q7.2)) (e_X10_isHere (d := d - 1) (by omega) 71 q5.2 _ hq7) (by omega) wm_X10_isHere wi_X10_isHere wv_X10_isHere km_10_301 (kc rfl rfl) (Nat.le_of_ble_eq_true rfl) rfl rfl rfl (Nat.le_of_ble_eq_true rfl) ⟨Nat.le_of_ble_eq_true rfl, Nat.le_of_ble_eq_true rfl⟩ (by decide +kernel) ?_
        show Ev l d mi_X10_isOwnHere 41 [some (.ref 65), none] [.int q7.1] (hp q7.2) 0 0 _
        refine Ev.if_ne (off := 25) (tgt := 66) (by decide +kernel) (by decide) (fun b8 => ?_) (fun b8 => ?_)
        · have hf := (if_neg b8).symm.trans hf
          refine Ev.blk (pc' := 67) [(.iconst 1, 0, 0, 0)] (by decide +kernel) trivial rfl (?_)
          show Ev l d mi_X10_isOwnHere 67 [some (.ref 65), none] [.int (Int32.ofInt 1)] (hp q7.2) 0 0 _
          refine Ev.goto (off := 4) (tgt := 71) (by decide +kernel) (by decide) ?_
          exact (e_X10_isOwnHere_j71 hd) (Int32.ofInt 1) q7.2 _ hf
        · have hf := (if_pos b8).symm.trans hf
          refine Ev.blk (pc' := 49) [(.aload_n 0, 0, 0, 0), (.aload_n 0, 0, 0, 0), (.getfield 33, 0, 10, 15)] (by decide +kernel) ⟨kf_10_33, trivial⟩ rfl (And.intro (kc rfl rfl) (Exists.intro 72 (And.intro rfl (?_))))
          show Ev l d mi_X10_isOwnHere 49 [some (.ref 65), none] [.ref 72, .ref 65] (hp q7.2) 0 0 _
          obtain ⟨q9, hq9, hf⟩ := bd_some hf
          refine Ev.callV (o := 65) (M' := mi_X10_isHere) (d' := d - 1) (As := [.ref 72]) (rest := []) (r' := (some (.int q9.1), hp q9.2)) (e_X10_isHere (d := d - 1) (by omega) 72 q7.2 _ hq9) (by omega) wm_X10_isHere wi_X10_isHere wv_X10_isHere km_10_301 (kc rfl rfl) (Nat.le_of_ble_eq_true rfl) rfl rfl rfl (Nat.le_of_ble_eq_true rfl) ⟨Nat.le_of_ble_eq_true rfl, Nat.le_of_ble_eq_true rfl⟩ (by decide +kernel) ?_
          show Ev l d mi_X10_isOwnHere 52 [some (.ref 65), none] [.int q9.1] (hp q9.2) 0 0 _
          refine Ev.if_ne (off := 14) (tgt := 66) (by decide +kernel) (by decide) (fun b10 => ?_) (fun b10 => ?_)
          · have hf := (if_neg b10).symm.trans hf
            refine Ev.blk (pc' := 67) [(.iconst 1, 0, 0, 0)] (by decide +kernel) trivial rfl (?_)
            show Ev l d mi_X10_isOwnHere 67 [some (.ref 65), none] [.int (Int32.ofInt 1)] (hp q9.2) 0 0 _
            refine Ev.goto (off := 4) (tgt := 71) (by decide +kernel) (by decide) ?_
            exact (e_X10_isOwnHere_j71 hd) (Int32.ofInt 1) q9.2 _ hf
          · have hf := (if_pos b10).symm.trans hf
            refine Ev.blk (pc' := 60) [(.aload_n 0, 0, 0, 0), (.aload_n 0, 0, 0, 0), (.getfield 36, 0, 10, 16)] (by decide +kernel) ⟨kf_10_36, trivial⟩ rfl (And.intro (kc rfl rfl) (Exists.intro 73 (And.intro rfl (?_))))
            show Ev l d mi_X10_isOwnHere 60 [some (.ref 65), none] [.ref 73, .ref 65] (hp q9.2) 0 0 _
            obtain ⟨q11, hq11, hf⟩ := bd_some hf
            refine Ev.callV (o := 65) (M' := mi_X10_isHere) (d' := d - 1) (As := [.ref 73]) (rest := []) (r' := (some (.int q11.1), hp q11.2)) (e_X10_isHere (d := d - 1) (by omega) 73 q9.2 _ hq11) (by omega) wm_X10_isHere wi_X10_isHere wv_X10_isHere km_10_301 (kc rfl rfl) (Nat.le_of_ble_eq_true rfl) rfl rfl rfl (Nat.le_of_ble_eq_true rfl) ⟨Nat.le_of_ble_eq_true rfl, Nat.le_of_ble_eq_true rfl⟩ (by decide +kernel) ?_
            show Ev l d mi_X10_isOwnHere 63 [some (.ref 65), none] [.int q11.1] (hp q11.2) 0 0 _
            refine Ev.if_eq (off := 7) (tgt := 70) (by decide +kernel) (by decide) (fun b12 => ?_) (fun b12 => ?_)
            · have hf := (if_pos b12).symm.trans hf
              refine Ev.blk (pc' := 71) [(.iconst 0, 0, 0, 0)] (by decide +kernel) trivial rfl (?_)
              show Ev l d mi_X10_isOwnHere 71 [some (.ref 65), none] [.int (Int32.ofInt 0)] (hp q11.2) 0 0 _
              exact (e_X10_isOwnHere_j71 hd) (Int32.ofInt 0) q11.2 _ hf
            · have hf := (if_neg b12).symm.trans hf
              refine Ev.blk (pc' := 67) [(.iconst 1, 0, 0, 0)] (by decide +kernel) trivial rfl (?_)
              show Ev l d mi_X10_isOwnHere 67 [some (.ref 65), none] [.int (Int32.ofInt 1)] (hp q11.2) 0 0 _
              refine Ev.goto (off := 4) (tgt := 71) (by decide +kernel) (by decide) ?_
              exact (e_X10_isOwnHere_j71 hd) (Int32.ofInt 1) q11.2 _ hf
def f_X10_name_L58 (k98 : ST → Option (Int64 × ST)) (k145 : Int64 → ST → Option (Int64 × ST)) : Nat → Int64 → ST → Option (Int64 × ST)
  | 0, _, _ => none
  | n + 1, x1, s => (if (s.1 65 3) ≤ (s.1 65 2) then k145 x1 s else gd (ib (s.1 65 2) 1600) ((f_X10_isLetter (s.1 66 (s.1 65 2).toNatClampNeg) s).bind (fun q12 => (if q12.1 = 0 then k145 x1 q12.2 else (if ((q12.2.1 65 2) - (q12.2.1 65 44)) = ((Int8.ofInt 6).toInt32) then k98 q12.2 else gd (ib (q12.2.1 65 2) 1600) (lt (uI q12.2 65 2 ((q12.2.1 65 2) + (Int32.ofInt 1))) (fun s16 => lt (((((Int64.ofInt 27) * x1) + (q12.2.1 66 (q12.2.1 65 2).toNatClampNeg).toInt64) - (Int64.ofInt 97)) + (Int64.ofNat ((1 : Fin 2) : Nat))) (fun v17 => (f_X10_name_L58 k98 k145 n) v17 s16))))))))
set_option maxHeartbeats 2000000 in
set_option maxRecDepth 20000 in
theorem e_X10_name_L58 {l : Launch} {d : Nat} (hd : 4 ≤ d) (k98 : ST → Option (Int64 × ST)) (k145 : Int64 → ST → Option (Int64 × ST)) (hk98 : ∀ (s : ST) (r : Int64 × ST), k98 s = some r → Ev l d mi_X10_name 98 [some (.ref 65), none, none] [] (hp s) 0 0 (some (.long r.1), hp r.2)) (hk145 : ∀ (x1 : Int64) (s : ST) (r : Int64 × ST), k145 x1 s = some r → Ev l d mi_X10_name 145 [some (.ref 65), some (.long x1), none] [] (hp s) 0 0 (some (.long r.1), hp r.2)) : ∀ (n : Nat) (x1 : Int64) (s : ST) (r : Int64 × ST), f_X10_name_L58 k98 k145 n x1 s = some r → Ev l d mi_X10_name 58 [some (.ref 65), some (.long x1), none] [] (hp s) 0 0 (some (.long r.1), hp r.2) := by
  intro n
  induction n with
  | zero =>
    intro x1 s r hf
    cases hf
  | succ n ih =>
    intro x1 s r hf
    unfold f_X10_name_L58 at hf
    refine Ev.blk (pc' := 66) [(.aload_n 0, 0, 0, 0), (.getfield 284, 0, 10, 2), (.aload_n 0, 0, 0, 0), (.getfield 287, 0, 10, 3)] (by decide +kernel) ⟨kf_10_284, ⟨kf_10_287, trivial⟩⟩ rfl (And.intro (kc rfl rfl) (And.intro (kc rfl rfl) (?_)))
    show Ev l d mi_X10_name 66 [some (.ref 65), some (.long x1), none] [.int (s.1 65 3), .int (s.1 65 2)] (hp s) 0 0 _
    refine Ev.icmp_ge (off := 79) (tgt := 145) (by decide +kernel) (by decide) (fun b10 => ?_) (fun b10 => ?_)
    · have hf := (if_pos b10).symm.trans hf
      exact hk145 x1 s _ hf
    · have hf := (if_neg b10).symm.trans hf
      obtain ⟨c11, hf⟩ := gd_some hf
      refine Ev.blk (pc' := 78) [(.aload_n 0, 0, 0, 0), (.getfield 7, 0, 10, 0), (.aload_n 0, 0, 0, 0), (.getfield 284, 0, 10, 2), (.iaload, 0, 0, 0)] (by decide +kernel) ⟨kf_10_7, ⟨kf_10_284, trivial⟩⟩ rfl (And.intro (kc rfl rfl) (Exists.intro 66 (And.intro rfl (And.intro (kc rfl rfl) (And.intro (kc rfl rfl) (And.intro (ib_ok c11) (?_)))))))
      show Ev l d mi_X10_name 78 [some (.ref 65), some (.long x1), none] [.int (s.1 66 (s.1 65 2).toNatClampNeg)] (hp s) 0 0 _
      obtain ⟨q12, hq12, hf⟩ := bd_some hf
      refine Ev.callS (M' := mi_X10_isLetter) (d' := d - 1) (As := [.int (s.1 66 (s.1 65 2).toNatClampNeg)]) (rest := []) (r' := (some (.int q12.1), hp q12.2)) (e_X10_isLetter (d := d - 1) (by omega) (s.1 66 (s.1 65 2).toNatClampNeg) s _ hq12) (by omega) wm_X10_isLetter wt_X10_isLetter km_10_294 rfl rfl rfl (Nat.le_of_ble_eq_true rfl) ⟨Nat.le_of_ble_eq_true rfl, Nat.le_of_ble_eq_true rfl⟩ (by decide +kernel) ?_
      show Ev l d mi_X10_name 81 [some (.ref 65), some (.long x1), none] [.int q12.1] (hp q12.2) 0 0 _
      refine Ev.if_eq (off := 64) (tgt := 145) (by decide +kernel) (by decide) (fun b13 => ?_) (fun b13 => ?_)
      · have hf := (if_pos b13).symm.trans hf
        exact hk145 x1 q12.2 _ hf
      · have hf := (if_neg b13).symm.trans hf
        refine Ev.blk (pc' := 95) [(.aload_n 0, 0, 0, 0), (.getfield 284, 0, 10, 2), (.aload_n 0, 0, 0, 0), (.getfield 329, 0, 10, 44), (.isub, 0, 0, 0), (.bipush 6, 0, 0, 0)] (by decide +kernel) ⟨kf_10_284, ⟨kf_10_329, trivial⟩⟩ rfl (And.intro (kc rfl rfl) (And.intro (kc rfl rfl) (?_)))
        show Ev l d mi_X10_name 95 [some (.ref 65), some (.long x1), none] [.int ((Int8.ofInt 6).toInt32), .int ((q12.2.1 65 2) - (q12.2.1 65 44))] (hp q12.2) 0 0 _
        refine Ev.icmp_ne (off := 14) (tgt := 109) (by decide +kernel) (by decide) (fun b14 => ?_) (fun b14 => ?_)
        · have hf := (if_neg b14).symm.trans hf
          obtain ⟨c15, hf⟩ := gd_some hf
          obtain ⟨s16, hs16, hf⟩ := lt_some hf
          obtain ⟨v17, hv17, hf⟩ := lt_some hf
          refine Ev.blk (pc' := 142) [(.ldc2_w 332, 27, 0, 0), (.lload_n 1, 0, 0, 0), (.lmul, 0, 0, 0), (.aload_n 0, 0, 0, 0), (.getfield 7, 0, 10, 0), (.aload_n 0, 0, 0, 0), (.getfield 284, 0, 10, 2), (.iaload, 0, 0, 0), (.i2l, 0, 0, 0), (.ladd, 0, 0, 0), (.ldc2_w 334, 97, 0, 0), (.lsub, 0, 0, 0), (.lconst 1, 0, 0, 0), (.ladd, 0, 0, 0), (.lstore_n 1, 0, 0, 0), (.aload_n 0, 0, 0, 0), (.dup, 0, 0, 0), (.getfield 284, 0, 10, 2), (.iconst 1, 0, 0, 0), (.iadd, 0, 0, 0), (.putfield 284, 0, 10, 2)] (by decide +kernel) ⟨kl_10_332, ⟨kf_10_7, ⟨kf_10_284, ⟨kl_10_334, ⟨kf_10_284, ⟨⟨kf_10_284, Or.inl rfl⟩, trivial⟩⟩⟩⟩⟩⟩ rfl (And.intro (kc rfl rfl) (Exists.intro 66 (And.intro rfl (And.intro (kc rfl rfl) (And.intro (kc rfl rfl) (And.intro (ib_ok c15) (And.intro (Nat.le_of_ble_eq_true rfl) (And.intro rfl (And.intro (kc rfl rfl) (And.intro (kc rfl rfl) (?_)))))))))))
          show Ev l d mi_X10_name 142 [some (.ref 65), some (.long (((((Int64.ofInt 27) * x1) + (q12.2.1 66 (q12.2.1 65 2).toNatClampNeg).toInt64) - (Int64.ofInt 97)) + (Int64.ofNat ((1 : Fin 2) : Nat)))), none] [] (hp (uI q12.2 65 2 ((q12.2.1 65 2) + (Int32.ofInt 1)))) 0 0 _
          rw [← hs16, ← hv17]
          refine Ev.goto (off := -84) (tgt := 58) (by decide +kernel) (by decide) ?_
          exact ih v17 s16 _ hf
        · have hf := (if_pos b14).symm.trans hf
          exact Ev.wk (hk98 q12.2 _ hf) (And.intro (Or.inr rfl) (And.intro (Or.inl rfl) (And.intro (Or.inr rfl) (trivial))))
def f_X10_name_j98 (s : ST) : Option (Int64 × ST) := (f_X10_fail (Int32.ofInt 1) (s.1 65 2) s).bind (fun q18 => some ((Int64.ofNat ((0 : Fin 2) : Nat)), q18))
set_option maxHeartbeats 2000000 in
set_option maxRecDepth 20000 in
theorem e_X10_name_j98 {l : Launch} {d : Nat} (hd : 4 ≤ d) (s : ST) (r : Int64 × ST) (hf : f_X10_name_j98 s = some r) : Ev l d mi_X10_name 98 [some (.ref 65), none, none] [] (hp s) 0 0 (some (.long r.1), hp r.2) := by
  unfold f_X10_name_j98 at hf
  refine Ev.blk (pc' := 104) [(.aload_n 0, 0, 0, 0), (.iconst 1, 0, 0, 0), (.aload_n 0, 0, 0, 0), (.getfield 284, 0, 10, 2)] (by decide +kernel) ⟨kf_10_284, trivial⟩ rfl (And.intro (kc rfl rfl) (?_))
  show Ev l d mi_X10_name 104 [some (.ref 65), none, none] [.int (s.1 65 2), .int (Int32.ofInt 1), .ref 65] (hp s) 0 0 _
  obtain ⟨q18, hq18, hf⟩ := bd_some hf
  refine Ev.callV (o := 65) (M' := mi_X10_fail) (d' := d - 1) (As := [.int (Int32.ofInt 1), .int (s.1 65 2)]) (rest := []) (r' := (none, hp q18)) (e_X10_fail (d := d - 1) (by omega) (Int32.ofInt 1) (s.1 65 2) s _ hq18) (by omega) wm_X10_fail wi_X10_fail wv_X10_fail km_10_308 (kc rfl rfl) (Nat.le_of_ble_eq_true rfl) rfl rfl rfl (Nat.le_of_ble_eq_true rfl) ⟨Nat.le_of_ble_eq_true rfl, Nat.le_of_ble_eq_true rfl⟩ (by decide +kernel) ?_
  show Ev l d mi_X10_name 107 [some (.ref 65), none, none] [] (hp q18) 0 0 _
  refine Ev.blk (pc' := 108) [(.lconst 0, 0, 0, 0)] (by decide +kernel) trivial rfl (?_)
  show Ev l d mi_X10_name 108 [some (.ref 65), none, none] [.long (Int64.ofNat ((0 : Fin 2) : Nat))] (hp q18) 0 0 _
  cases hf
  exact Ev.lret rfl (by decide +kernel) (Nat.le_refl _) (Nat.le_refl _)
def f_X10_name_j145 (x1 : Int64) (s : ST) : Option (Int64 × ST) := lt (uI s 65 4 (s.1 65 2)) (fun s19 => some (x1, s19))
set_option maxHeartbeats 2000000 in
set_option maxRecDepth 20000 in
theorem e_X10_name_j145 {l : Launch} {d : Nat} (hd : 4 ≤ d) (x1 : Int64) (s : ST) (r : Int64 × ST) (hf : f_X10_name_j145 x1 s = some r) : Ev l d mi_X10_name 145 [some (.ref 65), some (.long x1), none] [] (hp s) 0 0 (some (.long r.1), hp r.2) := by
  unfold f_X10_name_j145 at hf
  obtain ⟨s19, hs19, hf⟩ := lt_some hf
  refine Ev.blk (pc' := 154) [(.aload_n 0, 0, 0, 0), (.aload_n 0, 0, 0, 0), (.getfield 284, 0, 10, 2), (.putfield 298, 0, 10, 4), (.lload_n 1, 0, 0, 0)] (by decide +kernel) ⟨kf_10_284, ⟨⟨kf_10_298, Or.inl rfl⟩, trivial⟩⟩ rfl (And.intro (kc rfl rfl) (And.intro (kc rfl rfl) (?_)))
  show Ev l d mi_X10_name 154 [some (.ref 65), some (.long x1), none] [.long x1] (hp (uI s 65 4 (s.1 65 2))) 0 0 _
  rw [← hs19]
  cases hf
  exact Ev.lret rfl (by decide +kernel) (Nat.le_refl _) (Nat.le_refl _)
def f_X10_name_j37 (s : ST) : Option (Int64 × ST) := (f_X10_fail (Int32.ofInt 1) (s.1 65 2) s).bind (fun q9 => some ((Int64.ofNat ((0 : Fin 2) : Nat)), q9))
set_option maxHeartbeats 2000000 in
set_option maxRecDepth 20000 in
theorem e_X10_name_j37 {l : Launch} {d : Nat} (hd : 4 ≤ d) (s : ST) (r : Int64 × ST) (hf : f_X10_name_j37 s = some r) : Ev l d mi_X10_name 37 [some (.ref 65), none, none] [] (hp s) 0 0 (some (.long r.1), hp r.2) := by
  unfold f_X10_name_j37 at hf
  refine Ev.blk (pc' := 43) [(.aload_n 0, 0, 0, 0), (.iconst 1, 0, 0, 0), (.aload_n 0, 0, 0, 0), (.getfield 284, 0, 10, 2)] (by decide +kernel) ⟨kf_10_284, trivial⟩ rfl (And.intro (kc rfl rfl) (?_))
  show Ev l d mi_X10_name 43 [some (.ref 65), none, none] [.int (s.1 65 2), .int (Int32.ofInt 1), .ref 65] (hp s) 0 0 _
  obtain ⟨q9, hq9, hf⟩ := bd_some hf
  refine Ev.callV (o := 65) (M' := mi_X10_fail) (d' := d - 1) (As := [.int (Int32.ofInt 1), .int (s.1 65 2)]) (rest := []) (r' := (none, hp q9)) (e_X10_fail (d := d - 1) (by omega) (Int32.ofInt 1) (s.1 65 2) s _ hq9) (by omega) wm_X10_fail wi_X10_fail wv_X10_fail km_10_308 (kc rfl rfl) (Nat.le_of_ble_eq_true rfl) rfl rfl rfl (Nat.le_of_ble_eq_true rfl) ⟨Nat.le_of_ble_eq_true rfl, Nat.le_of_ble_eq_true rfl⟩ (by decide +kernel) ?_
  show Ev l d mi_X10_name 46 [some (.ref 65), none, none] [] (hp q9) 0 0 _
  refine Ev.blk (pc' := 47) [(.lconst 0, 0, 0, 0)] (by decide +kernel) trivial rfl (?_)
  show Ev l d mi_X10_name 47 [some (.ref 65), none, none] [.long (Int64.ofNat ((0 : Fin 2) : Nat))] (hp q9) 0 0 _
  cases hf
  exact Ev.lret rfl (by decide +kernel) (Nat.le_refl _) (Nat.le_refl _)
def f_X10_name (s : ST) : Option (Int64 × ST) := (if (s.1 65 5) = 0 then (f_X10_look s).bind (fun q2 => (f_X10_isLetter q2.1 q2.2).bind (fun q3 => (if q3.1 = 0 then f_X10_name_j37 q3.2 else (if (q3.2.1 65 2) = (q3.2.1 65 4) then f_X10_name_j37 q3.2 else (f_X10_isOwnHere q3.2).bind (fun q6 => (if q6.1 = 0 then lt (uI q6.2 65 44 (q6.2.1 65 2)) (fun s8 => (f_X10_name_L58 f_X10_name_j98 f_X10_name_j145 fuel) (Int64.ofNat ((0 : Fin 2) : Nat)) s8) else f_X10_name_j37 q6.2)))))) else some ((Int64.ofNat ((0 : Fin 2) : Nat)), s))
set_option maxHeartbeats 2000000 in
set_option maxRecDepth 20000 in
theorem e_X10_name {l : Launch} {d : Nat} (hd : 4 ≤ d) (s : ST) (r : Int64 × ST) (hf : f_X10_name s = some r) : Cl l d mi_X10_name [.ref 65] (hp s) (some (.long r.1), hp r.2) := by
  refine Ev.entry (by decide +kernel) rfl rfl ?_
  show Ev l d mi_X10_name 0 [some (.ref 65), none, none] [] (hp s) 0 0 _
  unfold f_X10_name at hf
  refine Ev.blk (pc' := 4) [(.aload_n 0, 0, 0, 0), (.getfield 278, 0, 10, 5)] (by decide +kernel) ⟨kf_10_278, trivial⟩ rfl (And.intro (kc rfl rfl) (?_))
  show Ev l d mi_X10_name 4 [some (.ref 65), none, none] [.int (s.1 65 5)] (hp s) 0 0 _
  refine Ev.if_eq (off := 5) (tgt := 9) (by decide +kernel) (by decide) (fun b1 => ?_) (fun b1 => ?_)
  · have hf := (if_pos b1).symm.trans hf
    refine Ev.blk (pc' := 10) [(.aload_n 0, 0, 0, 0)] (by decide +kernel) trivial rfl (?_)
    show Ev l d mi_X10_name 10 [some (.ref 65), none, none] [.ref 65] (hp s) 0 0 _
    obtain ⟨q2, hq2, hf⟩ := bd_some hf
    refine Ev.callV (o := 65) (M' := mi_X10_look) (d' := d - 1) (As := []) (rest := []) (r' := (some (.int q2.1), hp q2.2)) (e_X10_look (d := d - 1) (by omega) s _ hq2) (by omega) wm_X10_look wi_X10_look wv_X10_look km_10_290 (kc rfl rfl) (Nat.le_of_ble_eq_true rfl) rfl rfl rfl (Nat.le_of_ble_eq_true rfl) ⟨Nat.le_of_ble_eq_true rfl, Nat.le_of_ble_eq_true rfl⟩ (by decide +kernel) ?_
    show Ev l d mi_X10_name 13 [some (.ref 65), none, none] [.int q2.1] (hp q2.2) 0 0 _
    obtain ⟨q3, hq3, hf⟩ := bd_some hf
    refine Ev.callS (M' := mi_X10_isLetter) (d' := d - 1) (As := [.int q2.1]) (rest := []) (r' := (some (.int q3.1), hp q3.2)) (e_X10_isLetter (d := d - 1) (by omega) q2.1 q2.2 _ hq3) (by omega) wm_X10_isLetter wt_X10_isLetter km_10_294 rfl rfl rfl (Nat.le_of_ble_eq_true rfl) ⟨Nat.le_of_ble_eq_true rfl, Nat.le_of_ble_eq_true rfl⟩ (by decide +kernel) ?_
    show Ev l d mi_X10_name 16 [some (.ref 65), none, none] [.int q3.1] (hp q3.2) 0 0 _
    refine Ev.if_eq (off := 21) (tgt := 37) (by decide +kernel) (by decide) (fun b4 => ?_) (fun b4 => ?_)
    · have hf := (if_pos b4).symm.trans hf
      exact (e_X10_name_j37 hd) q3.2 _ hf
    · have hf := (if_neg b4).symm.trans hf
      refine Ev.blk (pc' := 27) [(.aload_n 0, 0, 0, 0), (.getfield 284, 0, 10, 2), (.aload_n 0, 0, 0, 0), (.getfield 298, 0, 10, 4)] (by decide +kernel) ⟨kf_10_284, ⟨kf_10_298, trivial⟩⟩ rfl (And.intro (kc rfl rfl) (And.intro (kc rfl rfl) (?_)))
      show Ev l d mi_X10_name 27 [some (.ref 65), none, none] [.int (q3.2.1 65 4), .int (q3.2.1 65 2)] (hp q3.2) 0 0 _
      refine Ev.icmp_eq (off := 10) (tgt := 37) (by decide +kernel) (by decide) (fun b5 => ?_) (fun b5 => ?_)
      · have hf := (if_pos b5).symm.trans hf
        exact (e_X10_name_j37 hd) q3.2 _ hf
      · have hf := (if_neg b5).symm.trans hf
        refine Ev.blk (pc' := 31) [(.aload_n 0, 0, 0, 0)] (by decide +kernel) trivial rfl (?_)
        show Ev l d mi_X10_name 31 [some (.ref 65), none, none] [.ref 65] (hp q3.2) 0 0 _
        obtain ⟨q6, hq6, hf⟩ := bd_some hf
        refine Ev.callV (o := 65) (M' := mi_X10_isOwnHere) (d' := d - 1) (As := []) (rest := []) (r' := (some (.int q6.1), hp q6.2)) (e_X10_isOwnHere (d := d - 1) (by omega) q3.2 _ hq6) (by omega) wm_X10_isOwnHere wi_X10_isOwnHere wv_X10_isOwnHere km_10_325 (kc rfl rfl) (Nat.le_of_ble_eq_true rfl) rfl rfl rfl (Nat.le_of_ble_eq_true rfl) ⟨Nat.le_of_ble_eq_true rfl, Nat.le_of_ble_eq_true rfl⟩ (by decide +kernel) ?_
        show Ev l d mi_X10_name 34 [some (.ref 65), none, none] [.int q6.1] (hp q6.2) 0 0 _
        refine Ev.if_eq (off := 14) (tgt := 48) (by decide +kernel) (by decide) (fun b7 => ?_) (fun b7 => ?_)
        · have hf := (if_pos b7).symm.trans hf
          obtain ⟨s8, hs8, hf⟩ := lt_some hf
          refine Ev.blk (pc' := 58) [(.aload_n 0, 0, 0, 0), (.aload_n 0, 0, 0, 0), (.getfield 284, 0, 10, 2), (.putfield 329, 0, 10, 44), (.lconst 0, 0, 0, 0), (.lstore_n 1, 0, 0, 0)] (by decide +kernel) ⟨kf_10_284, ⟨⟨kf_10_329, Or.inl rfl⟩, trivial⟩⟩ rfl (And.intro (kc rfl rfl) (And.intro (kc rfl rfl) (And.intro (Nat.le_of_ble_eq_true rfl) (?_))))
          show Ev l d mi_X10_name 58 [some (.ref 65), some (.long (Int64.ofNat ((0 : Fin 2) : Nat))), none] [] (hp (uI q6.2 65 44 (q6.2.1 65 2))) 0 0 _
          rw [← hs8]
          exact (e_X10_name_L58 hd f_X10_name_j98 f_X10_name_j145 (e_X10_name_j98 hd) (e_X10_name_j145 hd) fuel) (Int64.ofNat ((0 : Fin 2) : Nat)) s8 _ hf
        · have hf := (if_neg b7).symm.trans hf
          exact (e_X10_name_j37 hd) q6.2 _ hf
  · have hf := (if_neg b1).symm.trans hf
    refine Ev.blk (pc' := 8) [(.lconst 0, 0, 0, 0)] (by decide +kernel) trivial rfl (?_)
    show Ev l d mi_X10_name 8 [some (.ref 65), none, none] [.long (Int64.ofNat ((0 : Fin 2) : Nat))] (hp s) 0 0 _
    cases hf
    exact Ev.lret rfl (by decide +kernel) (Nat.le_refl _) (Nat.le_refl _)
def f_X10_isAllowed (p0 : Int32) (s : ST) : Option (Int32 × ST) := (if (s.1 65 59) = 0 then (if p0 ≤ (Int32.ofInt 2) then some ((Int32.ofInt 0), s) else some ((Int32.ofInt 1), s)) else (if (Int32.ofInt 4) ≤ p0 then some ((Int32.ofInt 0), s) else some ((Int32.ofInt 1), s)))
set_option maxHeartbeats 2000000 in
set_option maxRecDepth 20000 in
theorem e_X10_isAllowed {l : Launch} {d : Nat} (hd : 1 ≤ d) (p0 : Int32) (s : ST) (r : Int32 × ST) (hf : f_X10_isAllowed p0 s = some r) : Cl l d mi_X10_isAllowed [.ref 65, .int p0] (hp s) (some (.int r.1), hp r.2) := by
  refine Ev.entry (by decide +kernel) rfl rfl ?_
  show Ev l d mi_X10_isAllowed 0 [some (.ref 65), some (.int p0)] [] (hp s) 0 0 _
  unfold f_X10_isAllowed at hf
  refine Ev.blk (pc' := 4) [(.aload_n 0, 0, 0, 0), (.getfield 336, 0, 10, 59)] (by decide +kernel) ⟨kf_10_336, trivial⟩ rfl (And.intro (kc rfl rfl) (?_))
  show Ev l d mi_X10_isAllowed 4 [some (.ref 65), some (.int p0)] [.int (s.1 65 59)] (hp s) 0 0 _
  refine Ev.if_eq (off := 16) (tgt := 20) (by decide +kernel) (by decide) (fun b1 => ?_) (fun b1 => ?_)
  · have hf := (if_pos b1).symm.trans hf
    refine Ev.blk (pc' := 22) [(.iload_n 1, 0, 0, 0), (.iconst 2, 0, 0, 0)] (by decide +kernel) trivial rfl (?_)
    show Ev l d mi_X10_isAllowed 22 [some (.ref 65), some (.int p0)] [.int (Int32.ofInt 2), .int p0] (hp s) 0 0 _
    refine Ev.icmp_le (off := 7) (tgt := 29) (by decide +kernel) (by decide) (fun b2 => ?_) (fun b2 => ?_)
    · have hf := (if_pos b2).symm.trans hf
      refine Ev.blk (pc' := 30) [(.iconst 0, 0, 0, 0)] (by decide +kernel) trivial rfl (?_)
      show Ev l d mi_X10_isAllowed 30 [some (.ref 65), some (.int p0)] [.int (Int32.ofInt 0)] (hp s) 0 0 _
      cases hf
      exact Ev.iret .boolean rfl rfl (by decide +kernel) (Nat.le_refl _) (Nat.le_refl _)
    · have hf := (if_neg b2).symm.trans hf
      refine Ev.blk (pc' := 26) [(.iconst 1, 0, 0, 0)] (by decide +kernel) trivial rfl (?_)
      show Ev l d mi_X10_isAllowed 26 [some (.ref 65), some (.int p0)] [.int (Int32.ofInt 1)] (hp s) 0 0 _
      refine Ev.goto (off := 4) (tgt := 30) (by decide +kernel) (by decide) ?_
      cases hf
      exact Ev.iret .boolean rfl rfl (by decide +kernel) (Nat.le_refl _) (Nat.le_refl _)
  · have hf := (if_neg b1).symm.trans hf
    refine Ev.blk (pc' := 9) [(.iload_n 1, 0, 0, 0), (.iconst 4, 0, 0, 0)] (by decide +kernel) trivial rfl (?_)
    show Ev l d mi_X10_isAllowed 9 [some (.ref 65), some (.int p0)] [.int (Int32.ofInt 4), .int p0] (hp s) 0 0 _
    refine Ev.icmp_ge (off := 7) (tgt := 16) (by decide +kernel) (by decide) (fun b3 => ?_) (fun b3 => ?_)
    · have hf := (if_pos b3).symm.trans hf
      refine Ev.blk (pc' := 17) [(.iconst 0, 0, 0, 0)] (by decide +kernel) trivial rfl (?_)
      show Ev l d mi_X10_isAllowed 17 [some (.ref 65), some (.int p0)] [.int (Int32.ofInt 0)] (hp s) 0 0 _
      refine Ev.goto (off := 13) (tgt := 30) (by decide +kernel) (by decide) ?_
      cases hf
      exact Ev.iret .boolean rfl rfl (by decide +kernel) (Nat.le_refl _) (Nat.le_refl _)
    · have hf := (if_neg b3).symm.trans hf
      refine Ev.blk (pc' := 13) [(.iconst 1, 0, 0, 0)] (by decide +kernel) trivial rfl (?_)
      show Ev l d mi_X10_isAllowed 13 [some (.ref 65), some (.int p0)] [.int (Int32.ofInt 1)] (hp s) 0 0 _
      refine Ev.goto (off := 17) (tgt := 30) (by decide +kernel) (by decide) ?_
      cases hf
      exact Ev.iret .boolean rfl rfl (by decide +kernel) (Nat.le_refl _) (Nat.le_refl _)
def f_X10_isFull_j23 (s : ST) : Option (Int32 × ST) := (if (s.1 65 5) = 0 then some ((Int32.ofInt 0), s) else some ((Int32.ofInt 1), s))
set_option maxHeartbeats 2000000 in
set_option maxRecDepth 20000 in
theorem e_X10_isFull_j23 {l : Launch} {d : Nat} (hd : 2 ≤ d) (s : ST) (r : Int32 × ST) (hf : f_X10_isFull_j23 s = some r) : Ev l d mi_X10_isFull 23 [some (.ref 65), none, none, none] [] (hp s) 0 0 (some (.int r.1), hp r.2) := by
  unfold f_X10_isFull_j23 at hf
  refine Ev.blk (pc' := 27) [(.aload_n 0, 0, 0, 0), (.getfield 278, 0, 10, 5)] (by decide +kernel) ⟨kf_10_278, trivial⟩ rfl (And.intro (kc rfl rfl) (?_))
  show Ev l d mi_X10_isFull 27 [some (.ref 65), none, none, none] [.int (s.1 65 5)] (hp s) 0 0 _
  refine Ev.if_eq (off := 7) (tgt := 34) (by decide +kernel) (by decide) (fun b5 => ?_) (fun b5 => ?_)
  · have hf := (if_pos b5).symm.trans hf
    refine Ev.blk (pc' := 35) [(.iconst 0, 0, 0, 0)] (by decide +kernel) trivial rfl (?_)
    show Ev l d mi_X10_isFull 35 [some (.ref 65), none, none, none] [.int (Int32.ofInt 0)] (hp s) 0 0 _
    cases hf
    exact Ev.iret .boolean rfl rfl (by decide +kernel) (Nat.le_refl _) (Nat.le_refl _)
  · have hf := (if_neg b5).symm.trans hf
    refine Ev.blk (pc' := 31) [(.iconst 1, 0, 0, 0)] (by decide +kernel) trivial rfl (?_)
    show Ev l d mi_X10_isFull 31 [some (.ref 65), none, none, none] [.int (Int32.ofInt 1)] (hp s) 0 0 _
    refine Ev.goto (off := 4) (tgt := 35) (by decide +kernel) (by decide) ?_
    cases hf
    exact Ev.iret .boolean rfl rfl (by decide +kernel) (Nat.le_refl _) (Nat.le_refl _)
def f_X10_isFull (p0 : Int32) (p1 : Int32) (p2 : Int32) (s : ST) : Option (Int32 × ST) := (if (s.1 65 5) = 0 then gd (ib p0 6) ((if (s.1 101 p0.toNatClampNeg) = p1 then (f_X10_fail (Int32.ofInt 5) p2 s).bind (fun q4 => f_X10_isFull_j23 q4) else f_X10_isFull_j23 s)) else f_X10_isFull_j23 s)
set_option maxHeartbeats 2000000 in
set_option maxRecDepth 20000 in
theorem e_X10_isFull {l : Launch} {d : Nat} (hd : 2 ≤ d) (p0 : Int32) (p1 : Int32) (p2 : Int32) (s : ST) (r : Int32 × ST) (hf : f_X10_isFull p0 p1 p2 s = some r) : Cl l d mi_X10_isFull [.ref 65, .int p0, .int p1, .int p2] (hp s) (some (.int r.1), hp r.2) := by
  refine Ev.entry (by decide +kernel) rfl rfl ?_
  show Ev l d mi_X10_isFull 0 [some (.ref 65), some (.int p0), some (.int p1), some (.int p2)] [] (hp s) 0 0 _
  unfold f_X10_isFull at hf
  refine Ev.blk (pc' := 4) [(.aload_n 0, 0, 0, 0), (.getfield 278, 0, 10, 5)] (by decide +kernel) ⟨kf_10_278, trivial⟩ rfl (And.intro (kc rfl rfl) (?_))
  show Ev l d mi_X10_isFull 4 [some (.ref 65), some (.int p0), some (.int p1), some (.int p2)] [.int (s.1 65 5)] (hp s) 0 0 _
  refine Ev.if_ne (off := 19) (tgt := 23) (by decide +kernel) (by decide) (fun b1 => ?_) (fun b1 => ?_)
  · have hf := (if_neg b1).symm.trans hf
    exact Ev.wk ((e_X10_isFull_j23 hd) s _ hf) (And.intro (Or.inr rfl) (And.intro (Or.inl rfl) (And.intro (Or.inl rfl) (And.intro (Or.inl rfl) (trivial)))))
  · have hf := (if_pos b1).symm.trans hf
    obtain ⟨c2, hf⟩ := gd_some hf
    refine Ev.blk (pc' := 14) [(.aload_n 0, 0, 0, 0), (.getfield 120, 0, 10, 45), (.iload_n 1, 0, 0, 0), (.iaload, 0, 0, 0), (.iload_n 2, 0, 0, 0)] (by decide +kernel) ⟨kf_10_120, trivial⟩ rfl (And.intro (kc rfl rfl) (Exists.intro 101 (And.intro rfl (And.intro (kc rfl rfl) (And.intro (ib_ok c2) (?_))))))
    show Ev l d mi_X10_isFull 14 [some (.ref 65), some (.int p0), some (.int p1), some (.int p2)] [.int p1, .int (s.1 101 p0.toNatClampNeg)] (hp s) 0 0 _
    refine Ev.icmp_ne (off := 9) (tgt := 23) (by decide +kernel) (by decide) (fun b3 => ?_) (fun b3 => ?_)
    · have hf := (if_neg b3).symm.trans hf
      exact Ev.wk ((e_X10_isFull_j23 hd) s _ hf) (And.intro (Or.inr rfl) (And.intro (Or.inl rfl) (And.intro (Or.inl rfl) (And.intro (Or.inl rfl) (trivial)))))
    · have hf := (if_pos b3).symm.trans hf
      refine Ev.blk (pc' := 20) [(.aload_n 0, 0, 0, 0), (.iconst 5, 0, 0, 0), (.iload_n 3, 0, 0, 0)] (by decide +kernel) trivial rfl (?_)
      show Ev l d mi_X10_isFull 20 [some (.ref 65), some (.int p0), some (.int p1), some (.int p2)] [.int p2, .int (Int32.ofInt 5), .ref 65] (hp s) 0 0 _
      obtain ⟨q4, hq4, hf⟩ := bd_some hf
      refine Ev.callV (o := 65) (M' := mi_X10_fail) (d' := d - 1) (As := [.int (Int32.ofInt 5), .int p2]) (rest := []) (r' := (none, hp q4)) (e_X10_fail (d := d - 1) (by omega) (Int32.ofInt 5) p2 s _ hq4) (by omega) wm_X10_fail wi_X10_fail wv_X10_fail km_10_308 (kc rfl rfl) (Nat.le_of_ble_eq_true rfl) rfl rfl rfl (Nat.le_of_ble_eq_true rfl) ⟨Nat.le_of_ble_eq_true rfl, Nat.le_of_ble_eq_true rfl⟩ (by decide +kernel) ?_
      show Ev l d mi_X10_isFull 23 [some (.ref 65), some (.int p0), some (.int p1), some (.int p2)] [] (hp q4) 0 0 _
      exact Ev.wk ((e_X10_isFull_j23 hd) q4 _ hf) (And.intro (Or.inr rfl) (And.intro (Or.inl rfl) (And.intro (Or.inl rfl) (And.intro (Or.inl rfl) (trivial)))))
def f_X10_nameOf_L3 : Nat → Int32 → Int64 → Int32 → ST → Option (Int32 × ST)
  | 0, _, _, _, _ => none
  | n + 1, x1, x2, x4, s => gd (ib x1 6) ((if (s.1 101 x1.toNatClampNeg) ≤ x4 then some ((Int32.ofInt (-1)), s) else gd (ib ((((Int8.ofInt 8).toInt32) * x1) + x4) 48) (lt (lg_cmp (s.2.1 102 ((((Int8.ofInt 8).toInt32) * x1) + x4).toNatClampNeg) x2) (fun v4 => (if v4 = 0 then some (x4, s) else (f_X10_nameOf_L3 n) x1 x2 (x4 + Int32.ofInt 1) s)))))
set_option maxHeartbeats 2000000 in
set_option maxRecDepth 20000 in
theorem e_X10_nameOf_L3 {l : Launch} {d : Nat} (hd : 1 ≤ d) : ∀ (n : Nat) (x1 : Int32) (x2 : Int64) (x4 : Int32) (s : ST) (r : Int32 × ST), f_X10_nameOf_L3 n x1 x2 x4 s = some r → Ev l d mi_X10_nameOf 3 [some (.ref 65), some (.int x1), some (.long x2), none, some (.int x4)] [] (hp s) 0 0 (some (.int r.1), hp r.2) := by
  intro n
  induction n with
  | zero =>
    intro x1 x2 x4 s r hf
    cases hf
  | succ n ih =>
    intro x1 x2 x4 s r hf
    unfold f_X10_nameOf_L3 at hf
    obtain ⟨c1, hf⟩ := gd_some hf
    refine Ev.blk (pc' := 11) [(.iload 4, 0, 0, 0), (.aload_n 0, 0, 0, 0), (.getfield 120, 0, 10, 45), (.iload_n 1, 0, 0, 0), (.iaload, 0, 0, 0)] (by decide +kernel) ⟨kf_10_120, trivial⟩ rfl (And.intro (kc rfl rfl) (Exists.intro 101 (And.intro rfl (And.intro (kc rfl rfl) (And.intro (ib_ok c1) (?_))))))
    show Ev l d mi_X10_nameOf 11 [some (.ref 65), some (.int x1), some (.long x2), none, some (.int x4)] [.int (s.1 101 x1.toNatClampNeg), .int x4] (hp s) 0 0 _
    refine Ev.icmp_ge (off := 29) (tgt := 40) (by decide +kernel) (by decide) (fun b2 => ?_) (fun b2 => ?_)
    · have hf := (if_pos b2).symm.trans hf
      refine Ev.blk (pc' := 41) [(.iconst (-1), 0, 0, 0)] (by decide +kernel) trivial rfl (?_)
      show Ev l d mi_X10_nameOf 41 [some (.ref 65), some (.int x1), some (.long x2), none, some (.int x4)] [.int (Int32.ofInt (-1))] (hp s) 0 0 _
      cases hf
      exact Ev.iret .int rfl rfl (by decide +kernel) (Nat.le_refl _) (Nat.le_refl _)
    · have hf := (if_neg b2).symm.trans hf
      obtain ⟨c3, hf⟩ := gd_some hf
      obtain ⟨v4, hv4, hf⟩ := lt_some hf
      refine Ev.blk (pc' := 28) [(.aload_n 0, 0, 0, 0), (.getfield 123, 0, 10, 46), (.bipush 8, 0, 0, 0), (.iload_n 1, 0, 0, 0), (.imul, 0, 0, 0), (.iload 4, 0, 0, 0), (.iadd, 0, 0, 0), (.laload, 0, 0, 0), (.lload_n 2, 0, 0, 0), (.lcmp, 0, 0, 0)] (by decide +kernel) ⟨kf_10_123, trivial⟩ rfl (And.intro (kc rfl rfl) (Exists.intro 102 (And.intro rfl (And.intro (kc rfl rfl) (And.intro (ib_ok c3) (?_))))))
      show Ev l d mi_X10_nameOf 28 [some (.ref 65), some (.int x1), some (.long x2), none, some (.int x4)] [.int (lg_cmp (s.2.1 102 ((((Int8.ofInt 8).toInt32) * x1) + x4).toNatClampNeg) x2)] (hp s) 0 0 _
      rw [← hv4]
      refine Ev.if_ne (off := 6) (tgt := 34) (by decide +kernel) (by decide) (fun b5 => ?_) (fun b5 => ?_)
      · have hf := (if_neg b5).symm.trans hf
        refine Ev.blk (pc' := 37) [(.iinc 4 1, 0, 0, 0)] (by decide +kernel) trivial rfl (And.intro (Nat.le_of_ble_eq_true rfl) (?_))
        show Ev l d mi_X10_nameOf 37 [some (.ref 65), some (.int x1), some (.long x2), none, some (.int (x4 + Int32.ofInt 1))] [] (hp s) 0 0 _
        refine Ev.goto (off := -34) (tgt := 3) (by decide +kernel) (by decide) ?_
        exact ih x1 x2 (x4 + Int32.ofInt 1) s _ hf
      · have hf := (if_pos b5).symm.trans hf
        refine Ev.blk (pc' := 33) [(.iload 4, 0, 0, 0)] (by decide +kernel) trivial rfl (?_)
        show Ev l d mi_X10_nameOf 33 [some (.ref 65), some (.int x1), some (.long x2), none, some (.int x4)] [.int x4] (hp s) 0 0 _
        cases hf
        exact Ev.iret .int rfl rfl (by decide +kernel) (Nat.le_refl _) (Nat.le_refl _)
def f_X10_nameOf (p0 : Int32) (p1 : Int64) (s : ST) : Option (Int32 × ST) := (f_X10_nameOf_L3 fuel) p0 p1 (Int32.ofInt 0) s
set_option maxHeartbeats 2000000 in
set_option maxRecDepth 20000 in
theorem e_X10_nameOf {l : Launch} {d : Nat} (hd : 1 ≤ d) (p0 : Int32) (p1 : Int64) (s : ST) (r : Int32 × ST) (hf : f_X10_nameOf p0 p1 s = some r) : Cl l d mi_X10_nameOf [.ref 65, .int p0, .long p1] (hp s) (some (.int r.1), hp r.2) := by
  refine Ev.entry (by decide +kernel) rfl rfl ?_
  show Ev l d mi_X10_nameOf 0 [some (.ref 65), some (.int p0), some (.long p1), none, none] [] (hp s) 0 0 _
  unfold f_X10_nameOf at hf
  refine Ev.blk (pc' := 3) [(.iconst 0, 0, 0, 0), (.istore 4, 0, 0, 0)] (by decide +kernel) trivial rfl (And.intro (Nat.le_of_ble_eq_true rfl) (?_))
  show Ev l d mi_X10_nameOf 3 [some (.ref 65), some (.int p0), some (.long p1), none, some (.int (Int32.ofInt 0))] [] (hp s) 0 0 _
  exact (e_X10_nameOf_L3 hd fuel) p0 p1 (Int32.ofInt 0) s _ hf
def f_X10_newName_L7 : Nat → Int64 → Int32 → ST → Option (Int64 × ST)
  | 0, _, _, _ => none
  | n + 1, x1, x3, s => (if (Int32.ofInt 3) ≤ x3 then some (x1, s) else (if (s.1 65 5) = 0 then (f_X10_nameOf x3 x1 s).bind (fun q4 => (if q4.1 = (Int32.ofInt (-1)) then (f_X10_newName_L7 n) x1 (x3 + Int32.ofInt 1) q4.2 else (f_X10_fail (Int32.ofInt 3) (q4.2.1 65 44) q4.2).bind (fun q6 => (f_X10_newName_L7 n) x1 (x3 + Int32.ofInt 1) q6))) else (f_X10_newName_L7 n) x1 (x3 + Int32.ofInt 1) s))
set_option maxHeartbeats 2000000 in
set_option maxRecDepth 20000 in
theorem e_X10_newName_L7 {l : Launch} {d : Nat} (hd : 5 ≤ d) : ∀ (n : Nat) (x1 : Int64) (x3 : Int32) (s : ST) (r : Int64 × ST), f_X10_newName_L7 n x1 x3 s = some r → Ev l d mi_X10_newName 7 [some (.ref 65), some (.long x1), none, some (.int x3)] [] (hp s) 0 0 (some (.long r.1), hp r.2) := by
  intro n
  induction n with
  | zero =>
    intro x1 x3 s r hf
    cases hf
  | succ n ih =>
    intro x1 x3 s r hf
    unfold f_X10_newName_L7 at hf
    refine Ev.blk (pc' := 9) [(.iload_n 3, 0, 0, 0), (.iconst 3, 0, 0, 0)] (by decide +kernel) trivial rfl (?_)
    show Ev l d mi_X10_newName 9 [some (.ref 65), some (.long x1), none, some (.int x3)] [.int (Int32.ofInt 3), .int x3] (hp s) 0 0 _
    refine Ev.icmp_ge (off := 35) (tgt := 44) (by decide +kernel) (by decide) (fun b2 => ?_) (fun b2 => ?_)
    · have hf := (if_pos b2).symm.trans hf
      refine Ev.blk (pc' := 45) [(.lload_n 1, 0, 0, 0)] (by decide +kernel) trivial rfl (?_)
      show Ev l d mi_X10_newName 45 [some (.ref 65), some (.long x1), none, some (.int x3)] [.long x1] (hp s) 0 0 _
      cases hf
      exact Ev.lret rfl (by decide +kernel) (Nat.le_refl _) (Nat.le_refl _)
    · have hf := (if_neg b2).symm.trans hf
      refine Ev.blk (pc' := 16) [(.aload_n 0, 0, 0, 0), (.getfield 278, 0, 10, 5)] (by decide +kernel) ⟨kf_10_278, trivial⟩ rfl (And.intro (kc rfl rfl) (?_))
      show Ev l d mi_X10_newName 16 [some (.ref 65), some (.long x1), none, some (.int x3)] [.int (s.1 65 5)] (hp s) 0 0 _
      refine Ev.if_ne (off := 22) (tgt := 38) (by decide +kernel) (by decide) (fun b3 => ?_) (fun b3 => ?_)
      · have hf := (if_neg b3).symm.trans hf
        refine Ev.blk (pc' := 41) [(.iinc 3 1, 0, 0, 0)] (by decide +kernel) trivial rfl (And.intro (Nat.le_of_ble_eq_true rfl) (?_))
        show Ev l d mi_X10_newName 41 [some (.ref 65), some (.long x1), none, some (.int (x3 + Int32.ofInt 1))] [] (hp s) 0 0 _
        refine Ev.goto (off := -34) (tgt := 7) (by decide +kernel) (by decide) ?_
        exact ih x1 (x3 + Int32.ofInt 1) s _ hf
      · have hf := (if_pos b3).symm.trans hf
        refine Ev.blk (pc' := 22) [(.aload_n 0, 0, 0, 0), (.iload_n 3, 0, 0, 0), (.lload_n 1, 0, 0, 0)] (by decide +kernel) trivial rfl (?_)
        show Ev l d mi_X10_newName 22 [some (.ref 65), some (.long x1), none, some (.int x3)] [.long x1, .int x3, .ref 65] (hp s) 0 0 _
        obtain ⟨q4, hq4, hf⟩ := bd_some hf
        refine Ev.callV (o := 65) (M' := mi_X10_nameOf) (d' := d - 1) (As := [.int x3, .long x1]) (rest := []) (r' := (some (.int q4.1), hp q4.2)) (e_X10_nameOf (d := d - 1) (by omega) x3 x1 s _ hq4) (by omega) wm_X10_nameOf wi_X10_nameOf wv_X10_nameOf km_10_344 (kc rfl rfl) (Nat.le_of_ble_eq_true rfl) rfl rfl rfl (Nat.le_of_ble_eq_true rfl) ⟨Nat.le_of_ble_eq_true rfl, Nat.le_of_ble_eq_true rfl⟩ (by decide +kernel) ?_
        show Ev l d mi_X10_newName 25 [some (.ref 65), some (.long x1), none, some (.int x3)] [.int q4.1] (hp q4.2) 0 0 _
        refine Ev.blk (pc' := 26) [(.iconst (-1), 0, 0, 0)] (by decide +kernel) trivial rfl (?_)
        show Ev l d mi_X10_newName 26 [some (.ref 65), some (.long x1), none, some (.int x3)] [.int (Int32.ofInt (-1)), .int q4.1] (hp q4.2) 0 0 _
        refine Ev.icmp_eq (off := 12) (tgt := 38) (by decide +kernel) (by decide) (fun b5 => ?_) (fun b5 => ?_)
        · have hf := (if_pos b5).symm.trans hf
          refine Ev.blk (pc' := 41) [(.iinc 3 1, 0, 0, 0)] (by decide +kernel) trivial rfl (And.intro (Nat.le_of_ble_eq_true rfl) (?_))
          show Ev l d mi_X10_newName 41 [some (.ref 65), some (.long x1), none, some (.int (x3 + Int32.ofInt 1))] [] (hp q4.2) 0 0 _
          refine Ev.goto (off := -34) (tgt := 7) (by decide +kernel) (by decide) ?_
          exact ih x1 (x3 + Int32.ofInt 1) q4.2 _ hf
        · have hf := (if_neg b5).symm.trans hf
          refine Ev.blk (pc' := 35) [(.aload_n 0, 0, 0, 0), (.iconst 3, 0, 0, 0), (.aload_n 0, 0, 0, 0), (.getfield 329, 0, 10, 44)] (by decide +kernel) ⟨kf_10_329, trivial⟩ rfl (And.intro (kc rfl rfl) (?_))
          show Ev l d mi_X10_newName 35 [some (.ref 65), some (.long x1), none, some (.int x3)] [.int (q4.2.1 65 44), .int (Int32.ofInt 3), .ref 65] (hp q4.2) 0 0 _
          obtain ⟨q6, hq6, hf⟩ := bd_some hf
          refine Ev.callV (o := 65) (M' := mi_X10_fail) (d' := d - 1) (As := [.int (Int32.ofInt 3), .int (q4.2.1 65 44)]) (rest := []) (r' := (none, hp q6)) (e_X10_fail (d := d - 1) (by omega) (Int32.ofInt 3) (q4.2.1 65 44) q4.2 _ hq6) (by omega) wm_X10_fail wi_X10_fail wv_X10_fail km_10_308 (kc rfl rfl) (Nat.le_of_ble_eq_true rfl) rfl rfl rfl (Nat.le_of_ble_eq_true rfl) ⟨Nat.le_of_ble_eq_true rfl, Nat.le_of_ble_eq_true rfl⟩ (by decide +kernel) ?_
          show Ev l d mi_X10_newName 38 [some (.ref 65), some (.long x1), none, some (.int x3)] [] (hp q6) 0 0 _
          refine Ev.blk (pc' := 41) [(.iinc 3 1, 0, 0, 0)] (by decide +kernel) trivial rfl (And.intro (Nat.le_of_ble_eq_true rfl) (?_))
          show Ev l d mi_X10_newName 41 [some (.ref 65), some (.long x1), none, some (.int (x3 + Int32.ofInt 1))] [] (hp q6) 0 0 _
          refine Ev.goto (off := -34) (tgt := 7) (by decide +kernel) (by decide) ?_
          exact ih x1 (x3 + Int32.ofInt 1) q6 _ hf
def f_X10_newName (s : ST) : Option (Int64 × ST) := (f_X10_name s).bind (fun q1 => (f_X10_newName_L7 fuel) q1.1 (Int32.ofInt 0) q1.2)
set_option maxHeartbeats 2000000 in
set_option maxRecDepth 20000 in
theorem e_X10_newName {l : Launch} {d : Nat} (hd : 5 ≤ d) (s : ST) (r : Int64 × ST) (hf : f_X10_newName s = some r) : Cl l d mi_X10_newName [.ref 65] (hp s) (some (.long r.1), hp r.2) := by
  refine Ev.entry (by decide +kernel) rfl rfl ?_
  show Ev l d mi_X10_newName 0 [some (.ref 65), none, none, none] [] (hp s) 0 0 _
  unfold f_X10_newName at hf
  refine Ev.blk (pc' := 1) [(.aload_n 0, 0, 0, 0)] (by decide +kernel) trivial rfl (?_)
  show Ev l d mi_X10_newName 1 [some (.ref 65), none, none, none] [.ref 65] (hp s) 0 0 _
  obtain ⟨q1, hq1, hf⟩ := bd_some hf
  refine Ev.callV (o := 65) (M' := mi_X10_name) (d' := d - 1) (As := []) (rest := []) (r' := (some (.long q1.1), hp q1.2)) (e_X10_name (d := d - 1) (by omega) s _ hq1) (by omega) wm_X10_name wi_X10_name wv_X10_name km_10_340 (kc rfl rfl) (Nat.le_of_ble_eq_true rfl) rfl rfl rfl (Nat.le_of_ble_eq_true rfl) ⟨Nat.le_of_ble_eq_true rfl, Nat.le_of_ble_eq_true rfl⟩ (by decide +kernel) ?_
  show Ev l d mi_X10_newName 4 [some (.ref 65), none, none, none] [.long q1.1] (hp q1.2) 0 0 _
  refine Ev.blk (pc' := 7) [(.lstore_n 1, 0, 0, 0), (.iconst 0, 0, 0, 0), (.istore_n 3, 0, 0, 0)] (by decide +kernel) trivial rfl (And.intro (Nat.le_of_ble_eq_true rfl) (And.intro (Nat.le_of_ble_eq_true rfl) (?_)))
  show Ev l d mi_X10_newName 7 [some (.ref 65), some (.long q1.1), none, some (.int (Int32.ofInt 0))] [] (hp q1.2) 0 0 _
  exact (e_X10_newName_L7 hd fuel) q1.1 (Int32.ofInt 0) q1.2 _ hf
def f_X10_adds (p0 : Int32) (p1 : Int64) (s : ST) : Option (Int32 × ST) := gd (ib p0 6) (gd (ib ((((Int8.ofInt 8).toInt32) * p0) + (s.1 101 p0.toNatClampNeg)) 48) (gd (ib p0 6) (gd (ib p0 6) (gd (ib p0 6) (lt (uI (uJ s 102 ((((Int8.ofInt 8).toInt32) * p0) + (s.1 101 p0.toNatClampNeg)).toNatClampNeg p1) 101 p0.toNatClampNeg (((uJ s 102 ((((Int8.ofInt 8).toInt32) * p0) + (s.1 101 p0.toNatClampNeg)).toNatClampNeg p1).1 101 p0.toNatClampNeg) + (Int32.ofInt 1))) (fun s6 => some (((s6.1 101 p0.toNatClampNeg) - (Int32.ofInt 1)), s6)))))))
set_option maxHeartbeats 2000000 in
set_option maxRecDepth 20000 in
theorem e_X10_adds {l : Launch} {d : Nat} (hd : 1 ≤ d) (p0 : Int32) (p1 : Int64) (s : ST) (r : Int32 × ST) (hf : f_X10_adds p0 p1 s = some r) : Cl l d mi_X10_adds [.ref 65, .int p0, .long p1] (hp s) (some (.int r.1), hp r.2) := by
  refine Ev.entry (by decide +kernel) rfl rfl ?_
  show Ev l d mi_X10_adds 0 [some (.ref 65), some (.int p0), some (.long p1), none] [] (hp s) 0 0 _
  unfold f_X10_adds at hf
  obtain ⟨c1, hf⟩ := gd_some hf
  obtain ⟨c2, hf⟩ := gd_some hf
  obtain ⟨c3, hf⟩ := gd_some hf
  obtain ⟨c4, hf⟩ := gd_some hf
  obtain ⟨c5, hf⟩ := gd_some hf
  obtain ⟨s6, hs6, hf⟩ := lt_some hf
  refine Ev.blk (pc' := 35) [(.aload_n 0, 0, 0, 0), (.getfield 123, 0, 10, 46), (.bipush 8, 0, 0, 0), (.iload_n 1, 0, 0, 0), (.imul, 0, 0, 0), (.aload_n 0, 0, 0, 0), (.getfield 120, 0, 10, 45), (.iload_n 1, 0, 0, 0), (.iaload, 0, 0, 0), (.iadd, 0, 0, 0), (.lload_n 2, 0, 0, 0), (.lastore, 0, 0, 0), (.aload_n 0, 0, 0, 0), (.getfield 120, 0, 10, 45), (.iload_n 1, 0, 0, 0), (.dup2, 0, 0, 0), (.iaload, 0, 0, 0), (.iconst 1, 0, 0, 0), (.iadd, 0, 0, 0), (.iastore, 0, 0, 0), (.aload_n 0, 0, 0, 0), (.getfield 120, 0, 10, 45), (.iload_n 1, 0, 0, 0), (.iaload, 0, 0, 0), (.iconst 1, 0, 0, 0), (.isub, 0, 0, 0)] (by decide +kernel) ⟨kf_10_123, ⟨kf_10_120, ⟨kf_10_120, ⟨kf_10_120, trivial⟩⟩⟩⟩ rfl (And.intro (kc rfl rfl) (Exists.intro 102 (And.intro rfl (And.intro (kc rfl rfl) (Exists.intro 101 (And.intro rfl (And.intro (kc rfl rfl) (And.intro (ib_ok c1) (And.intro (kc rfl rfl) (And.intro (ib_ok c2) (And.intro (kc rfl rfl) (Exists.intro 101 (And.intro rfl (And.intro (And.intro rfl rfl) (And.intro (kc rfl rfl) (And.intro (ib_ok c3) (And.intro (kc rfl rfl) (And.intro (ib_ok c4) (And.intro (kc rfl rfl) (Exists.intro 101 (And.intro rfl (And.intro (kc rfl rfl) (And.intro (ib_ok c5) (?_))))))))))))))))))))))))
  show Ev l d mi_X10_adds 35 [some (.ref 65), some (.int p0), some (.long p1), none] [.int (((uI (uJ s 102 ((((Int8.ofInt 8).toInt32) * p0) + (s.1 101 p0.toNatClampNeg)).toNatClampNeg p1) 101 p0.toNatClampNeg (((uJ s 102 ((((Int8.ofInt 8).toInt32) * p0) + (s.1 101 p0.toNatClampNeg)).toNatClampNeg p1).1 101 p0.toNatClampNeg) + (Int32.ofInt 1))).1 101 p0.toNatClampNeg) - (Int32.ofInt 1))] (hp (uI (uJ s 102 ((((Int8.ofInt 8).toInt32) * p0) + (s.1 101 p0.toNatClampNeg)).toNatClampNeg p1) 101 p0.toNatClampNeg (((uJ s 102 ((((Int8.ofInt 8).toInt32) * p0) + (s.1 101 p0.toNatClampNeg)).toNatClampNeg p1).1 101 p0.toNatClampNeg) + (Int32.ofInt 1)))) 0 0 _
  rw [← hs6]
  cases hf
  exact Ev.iret .int rfl rfl (by decide +kernel) (Nat.le_refl _) (Nat.le_refl _)
def f_X10_boardTold (s : ST) : Option (ST) := (f_X10_asks 68 s).bind (fun q1 => (f_X10_number (Int32.ofInt 2) (Int32.ofInt 5) q1).bind (fun q2 => gd (ib (Int32.ofInt 0) 8) (lt (uI q2.2 103 (Int32.ofInt 0).toNatClampNeg q2.1) (fun s4 => (f_X10_asks 69 s4).bind (fun q5 => (f_X10_number (Int32.ofInt 2) (Int32.ofInt 5) q5).bind (fun q6 => gd (ib (Int32.ofInt 1) 8) (lt (uI q6.2 103 (Int32.ofInt 1).toNatClampNeg q6.1) (fun s8 => (f_X10_asks 70 s8).bind (fun q9 => (f_X10_number (Int32.ofInt 1) (Int32.ofInt 2) q9).bind (fun q10 => gd (ib (Int32.ofInt 2) 8) (lt (uI q10.2 103 (Int32.ofInt 2).toNatClampNeg q10.1) (fun s12 => (f_X10_asks 71 s12).bind (fun q13 => (f_X10_number (Int32.ofInt 1) (Int32.ofInt 2) q13).bind (fun q14 => gd (ib (Int32.ofInt 3) 8) (lt (uI q14.2 103 (Int32.ofInt 3).toNatClampNeg q14.1) (fun s16 => (f_X10_asksSign ((Int8.ofInt 59).toInt32) s16).bind (fun q17 => some q17)))))))))))))))))
set_option maxHeartbeats 2000000 in
set_option maxRecDepth 20000 in
theorem e_X10_boardTold {l : Launch} {d : Nat} (hd : 5 ≤ d) (s : ST) (r : ST) (hf : f_X10_boardTold s = some r) : Cl l d mi_X10_boardTold [.ref 65] (hp s) (none, hp r) := by
  refine Ev.entry (by decide +kernel) rfl rfl ?_
  show Ev l d mi_X10_boardTold 0 [some (.ref 65)] [] (hp s) 0 0 _
  unfold f_X10_boardTold at hf
  refine Ev.blk (pc' := 5) [(.aload_n 0, 0, 0, 0), (.aload_n 0, 0, 0, 0), (.getfield 20, 0, 10, 11)] (by decide +kernel) ⟨kf_10_20, trivial⟩ rfl (And.intro (kc rfl rfl) (Exists.intro 68 (And.intro rfl (?_))))
  show Ev l d mi_X10_boardTold 5 [some (.ref 65)] [.ref 68, .ref 65] (hp s) 0 0 _
  obtain ⟨q1, hq1, hf⟩ := bd_some hf
  refine Ev.callV (o := 65) (M' := mi_X10_asks) (d' := d - 1) (As := [.ref 68]) (rest := []) (r' := (none, hp q1)) (e_X10_asks (d := d - 1) (by omega) 68 s _ hq1) (by omega) wm_X10_asks wi_X10_asks wv_X10_asks km_10_348 (kc rfl rfl) (Nat.le_of_ble_eq_true rfl) rfl rfl rfl (Nat.le_of_ble_eq_true rfl) ⟨Nat.le_of_ble_eq_true rfl, Nat.le_of_ble_eq_true rfl⟩ (by decide +kernel) ?_
  show Ev l d mi_X10_boardTold 8 [some (.ref 65)] [] (hp q1) 0 0 _
  refine Ev.blk (pc' := 16) [(.aload_n 0, 0, 0, 0), (.getfield 127, 0, 10, 47), (.iconst 0, 0, 0, 0), (.aload_n 0, 0, 0, 0), (.iconst 2, 0, 0, 0), (.iconst 5, 0, 0, 0)] (by decide +kernel) ⟨kf_10_127, trivial⟩ rfl (And.intro (kc rfl rfl) (Exists.intro 103 (And.intro rfl (?_))))
  show Ev l d mi_X10_boardTold 16 [some (.ref 65)] [.int (Int32.ofInt 5), .int (Int32.ofInt 2), .ref 65, .int (Int32.ofInt 0), .ref 103] (hp q1) 0 0 _
  obtain ⟨q2, hq2, hf⟩ := bd_some hf
  refine Ev.callV (o := 65) (M' := mi_X10_number) (d' := d - 1) (As := [.int (Int32.ofInt 2), .int (Int32.ofInt 5)]) (rest := [.int (Int32.ofInt 0), .ref 103]) (r' := (some (.int q2.1), hp q2.2)) (e_X10_number (d := d - 1) (by omega) (Int32.ofInt 2) (Int32.ofInt 5) q1 _ hq2) (by omega) wm_X10_number wi_X10_number wv_X10_number km_10_352 (kc rfl rfl) (Nat.le_of_ble_eq_true rfl) rfl rfl rfl (Nat.le_of_ble_eq_true rfl) ⟨Nat.le_of_ble_eq_true rfl, Nat.le_of_ble_eq_true rfl⟩ (by decide +kernel) ?_
  show Ev l d mi_X10_boardTold 19 [some (.ref 65)] [.int q2.1, .int (Int32.ofInt 0), .ref 103] (hp q2.2) 0 0 _
  obtain ⟨c3, hf⟩ := gd_some hf
  obtain ⟨s4, hs4, hf⟩ := lt_some hf
  refine Ev.blk (pc' := 25) [(.iastore, 0, 0, 0), (.aload_n 0, 0, 0, 0), (.aload_n 0, 0, 0, 0), (.getfield 24, 0, 10, 12)] (by decide +kernel) ⟨kf_10_24, trivial⟩ rfl (And.intro (kc rfl rfl) (And.intro (ib_ok c3) (And.intro (kc rfl rfl) (Exists.intro 69 (And.intro rfl (?_))))))
  show Ev l d mi_X10_boardTold 25 [some (.ref 65)] [.ref 69, .ref 65] (hp (uI q2.2 103 (Int32.ofInt 0).toNatClampNeg q2.1)) 0 0 _
  rw [← hs4]
  obtain ⟨q5, hq5, hf⟩ := bd_some hf
  refine Ev.callV (o := 65) (M' := mi_X10_asks) (d' := d - 1) (As := [.ref 69]) (rest := []) (r' := (none, hp q5)) (e_X10_asks (d := d - 1) (by omega) 69 s4 _ hq5) (by omega) wm_X10_asks wi_X10_asks wv_X10_asks km_10_348 (kc rfl rfl) (Nat.le_of_ble_eq_true rfl) rfl rfl rfl (Nat.le_of_ble_eq_true rfl) ⟨Nat.le_of_ble_eq_true rfl, Nat.le_of_ble_eq_true rfl⟩ (by decide +kernel) ?_
  show Ev l d mi_X10_boardTold 28 [some (.ref 65)] [] (hp q5) 0 0 _
  refine Ev.blk (pc' := 36) [(.aload_n 0, 0, 0, 0), (.getfield 127, 0, 10, 47), (.iconst 1, 0, 0, 0), (.aload_n 0, 0, 0, 0), (.iconst 2, 0, 0, 0), (.iconst 5, 0, 0, 0)] (by decide +kernel) ⟨kf_10_127, trivial⟩ rfl (And.intro (kc rfl rfl) (Exists.intro 103 (And.intro rfl (?_))))
  show Ev l d mi_X10_boardTold 36 [some (.ref 65)] [.int (Int32.ofInt 5), .int (Int32.ofInt 2), .ref 65, .int (Int32.ofInt 1), .ref 103] (hp q5) 0 0 _
  obtain ⟨q6, hq6, hf⟩ := bd_some hf
  refine Ev.callV (o := 65) (M' := mi_X10_number) (d' := d - 1) (As := [.int (Int32.ofInt 2), .int (Int32.ofInt 5)]) (rest := [.int (Int32.ofInt 1), .ref 103]) (r' := (some (.int q6.1), hp q6.2)) (e_X10_number (d := d - 1) (by omega) (Int32.ofInt 2) (Int32.ofInt 5) q5 _ hq6) (by omega) wm_X10_number wi_X10_number wv_X10_number km_10_352 (kc rfl rfl) (Nat.le_of_ble_eq_true rfl) rfl rfl rfl (Nat.le_of_ble_eq_true rfl) ⟨Nat.le_of_ble_eq_true rfl, Nat.le_of_ble_eq_true rfl⟩ (by decide +kernel) ?_
  show Ev l d mi_X10_boardTold 39 [some (.ref 65)] [.int q6.1, .int (Int32.ofInt 1), .ref 103] (hp q6.2) 0 0 _
  obtain ⟨c7, hf⟩ := gd_some hf
  obtain ⟨s8, hs8, hf⟩ := lt_some hf
  refine Ev.blk (pc' := 45) [(.iastore, 0, 0, 0), (.aload_n 0, 0, 0, 0), (.aload_n 0, 0, 0, 0), (.getfield 27, 0, 10, 13)] (by decide +kernel) ⟨kf_10_27, trivial⟩ rfl (And.intro (kc rfl rfl) (And.intro (ib_ok c7) (And.intro (kc rfl rfl) (Exists.intro 70 (And.intro rfl (?_))))))
  show Ev l d mi_X10_boardTold 45 [some (.ref 65)] [.ref 70, .ref 65] (hp (uI q6.2 103 (Int32.ofInt 1).toNatClampNeg q6.1)) 0 0 _
  rw [← hs8]
  obtain ⟨q9, hq9, hf⟩ := bd_some hf
  refine Ev.callV (o := 65) (M' := mi_X10_asks) (d' := d - 1) (As := [.ref 70]) (rest := []) (r' := (none, hp q9)) (e_X10_asks (d := d - 1) (by omega) 70 s8 _ hq9) (by omega) wm_X10_asks wi_X10_asks wv_X10_asks km_10_348 (kc rfl rfl) (Nat.le_of_ble_eq_true rfl) rfl rfl rfl (Nat.le_of_ble_eq_true rfl) ⟨Nat.le_of_ble_eq_true rfl, Nat.le_of_ble_eq_true rfl⟩ (by decide +kernel) ?_
  show Ev l d mi_X10_boardTold 48 [some (.ref 65)] [] (hp q9) 0 0 _
  refine Ev.blk (pc' := 56) [(.aload_n 0, 0, 0, 0), (.getfield 127, 0, 10, 47), (.iconst 2, 0, 0, 0), (.aload_n 0, 0, 0, 0), (.iconst 1, 0, 0, 0), (.iconst 2, 0, 0, 0)] (by decide +kernel) ⟨kf_10_127, trivial⟩ rfl (And.intro (kc rfl rfl) (Exists.intro 103 (And.intro rfl (?_))))
  show Ev l d mi_X10_boardTold 56 [some (.ref 65)] [.int (Int32.ofInt 2), .int (Int32.ofInt 1), .ref 65, .int (Int32.ofInt 2), .ref 103] (hp q9) 0 0 _
  obtain ⟨q10, hq10, hf⟩ := bd_some hf
  refine Ev.callV (o := 65) (M' := mi_X10_number) (d' := d - 1) (As := [.int (Int32.ofInt 1), .int (Int32.ofInt 2)]) (rest := [.int (Int32.ofInt 2), .ref 103]) (r' := (some (.int q10.1), hp q10.2)) (e_X10_number (d := d - 1) (by omega) (Int32.ofInt 1) (Int32.ofInt 2) q9 _ hq10) (by omega) wm_X10_number wi_X10_number wv_X10_number km_10_352 (kc rfl rfl) (Nat.le_of_ble_eq_true rfl) rfl rfl rfl (Nat.le_of_ble_eq_true rfl) ⟨Nat.le_of_ble_eq_true rfl, Nat.le_of_ble_eq_true rfl⟩ (by decide +kernel) ?_
  show Ev l d mi_X10_boardTold 59 [some (.ref 65)] [.int q10.1, .int (Int32.ofInt 2), .ref 103] (hp q10.2) 0 0 _
  obtain ⟨c11, hf⟩ := gd_some hf
  obtain ⟨s12, hs12, hf⟩ := lt_some hf
  refine Ev.blk (pc' := 65) [(.iastore, 0, 0, 0), (.aload_n 0, 0, 0, 0), (.aload_n 0, 0, 0, 0), (.getfield 30, 0, 10, 14)] (by decide +kernel) ⟨kf_10_30, trivial⟩ rfl (And.intro (kc rfl rfl) (And.intro (ib_ok c11) (And.intro (kc rfl rfl) (Exists.intro 71 (And.intro rfl (?_))))))
  show Ev l d mi_X10_boardTold 65 [some (.ref 65)] [.ref 71, .ref 65] (hp (uI q10.2 103 (Int32.ofInt 2).toNatClampNeg q10.1)) 0 0 _
  rw [← hs12]
  obtain ⟨q13, hq13, hf⟩ := bd_some hf
  refine Ev.callV (o := 65) (M' := mi_X10_asks) (d' := d - 1) (As := [.ref 71]) (rest := []) (r' := (none, hp q13)) (e_X10_asks (d := d - 1) (by omega) 71 s12 _ hq13) (by omega) wm_X10_asks wi_X10_asks wv_X10_asks km_10_348 (kc rfl rfl) (Nat.le_of_ble_eq_true rfl) rfl rfl rfl (Nat.le_of_ble_eq_true rfl) ⟨Nat.le_of_ble_eq_true rfl, Nat.le_of_ble_eq_true rfl⟩ (by decide +kernel) ?_
  show Ev l d mi_X10_boardTold 68 [some (.ref 65)] [] (hp q13) 0 0 _
  refine Ev.blk (pc' := 76) [(.aload_n 0, 0, 0, 0), (.getfield 127, 0, 10, 47), (.iconst 3, 0, 0, 0), (.aload_n 0, 0, 0, 0), (.iconst 1, 0, 0, 0), (.iconst 2, 0, 0, 0)] (by decide +kernel) ⟨kf_10_127, trivial⟩ rfl (And.intro (kc rfl rfl) (Exists.intro 103 (And.intro rfl (?_))))
  show Ev l d mi_X10_boardTold 76 [some (.ref 65)] [.int (Int32.ofInt 2), .int (Int32.ofInt 1), .ref 65, .int (Int32.ofInt 3), .ref 103] (hp q13) 0 0 _
  obtain ⟨q14, hq14, hf⟩ := bd_some hf
  refine Ev.callV (o := 65) (M' := mi_X10_number) (d' := d - 1) (As := [.int (Int32.ofInt 1), .int (Int32.ofInt 2)]) (rest := [.int (Int32.ofInt 3), .ref 103]) (r' := (some (.int q14.1), hp q14.2)) (e_X10_number (d := d - 1) (by omega) (Int32.ofInt 1) (Int32.ofInt 2) q13 _ hq14) (by omega) wm_X10_number wi_X10_number wv_X10_number km_10_352 (kc rfl rfl) (Nat.le_of_ble_eq_true rfl) rfl rfl rfl (Nat.le_of_ble_eq_true rfl) ⟨Nat.le_of_ble_eq_true rfl, Nat.le_of_ble_eq_true rfl⟩ (by decide +kernel) ?_
  show Ev l d mi_X10_boardTold 79 [some (.ref 65)] [.int q14.1, .int (Int32.ofInt 3), .ref 103] (hp q14.2) 0 0 _
  obtain ⟨c15, hf⟩ := gd_some hf
  obtain ⟨s16, hs16, hf⟩ := lt_some hf
  refine Ev.blk (pc' := 83) [(.iastore, 0, 0, 0), (.aload_n 0, 0, 0, 0), (.bipush 59, 0, 0, 0)] (by decide +kernel) trivial rfl (And.intro (kc rfl rfl) (And.intro (ib_ok c15) (?_)))
  show Ev l d mi_X10_boardTold 83 [some (.ref 65)] [.int ((Int8.ofInt 59).toInt32), .ref 65] (hp (uI q14.2 103 (Int32.ofInt 3).toNatClampNeg q14.1)) 0 0 _
  rw [← hs16]
  obtain ⟨q17, hq17, hf⟩ := bd_some hf
  refine Ev.callV (o := 65) (M' := mi_X10_asksSign) (d' := d - 1) (As := [.int ((Int8.ofInt 59).toInt32)]) (rest := []) (r' := (none, hp q17)) (e_X10_asksSign (d := d - 1) (by omega) ((Int8.ofInt 59).toInt32) s16 _ hq17) (by omega) wm_X10_asksSign wi_X10_asksSign wv_X10_asksSign km_10_356 (kc rfl rfl) (Nat.le_of_ble_eq_true rfl) rfl rfl rfl (Nat.le_of_ble_eq_true rfl) ⟨Nat.le_of_ble_eq_true rfl, Nat.le_of_ble_eq_true rfl⟩ (by decide +kernel) ?_
  show Ev l d mi_X10_boardTold 86 [some (.ref 65)] [] (hp q17) 0 0 _
  cases hf
  exact Ev.vret rfl (by decide +kernel) (Nat.le_refl _) (Nat.le_refl _)
def f_X10_kindTold_j81 (x2 : Int64) (x4 : Int32) (x5 : Int32) (x6 : Int32) (y0 : Int32) (s : ST) : Option (ST) := (if (s.1 65 5) = 0 then (f_X10_adds (Int32.ofInt 0) x2 s).bind (fun q13 => gd (ib ((Int32.ofInt 4) * q13.1) 40) (gd (ib (((Int32.ofInt 4) * q13.1) + (Int32.ofInt 1)) 40) (gd (ib (((Int32.ofInt 4) * q13.1) + (Int32.ofInt 2)) 40) (gd (ib (((Int32.ofInt 4) * q13.1) + (Int32.ofInt 3)) 40) (lt (uI (uI (uI (uI q13.2 104 ((Int32.ofInt 4) * q13.1).toNatClampNeg x4) 104 (((Int32.ofInt 4) * q13.1) + (Int32.ofInt 1)).toNatClampNeg x5) 104 (((Int32.ofInt 4) * q13.1) + (Int32.ofInt 2)).toNatClampNeg x6) 104 (((Int32.ofInt 4) * q13.1) + (Int32.ofInt 3)).toNatClampNeg y0) (fun s18 => some s18)))))) else some s)
set_option maxHeartbeats 2000000 in
set_option maxRecDepth 20000 in
theorem e_X10_kindTold_j81 {l : Launch} {d : Nat} (hd : 6 ≤ d) (x2 : Int64) (x4 : Int32) (x5 : Int32) (x6 : Int32) (y0 : Int32) (s : ST) (r : ST) (hf : f_X10_kindTold_j81 x2 x4 x5 x6 y0 s = some r) : Ev l d mi_X10_kindTold 81 [some (.ref 65), none, some (.long x2), none, some (.int x4), some (.int x5), some (.int x6), none, none] [.int y0] (hp s) 0 0 (none, hp r) := by
  unfold f_X10_kindTold_j81 at hf
  refine Ev.blk (pc' := 87) [(.istore 7, 0, 0, 0), (.aload_n 0, 0, 0, 0), (.getfield 278, 0, 10, 5)] (by decide +kernel) ⟨kf_10_278, trivial⟩ rfl (And.intro (Nat.le_of_ble_eq_true rfl) (And.intro (kc rfl rfl) (?_)))
  show Ev l d mi_X10_kindTold 87 [some (.ref 65), none, some (.long x2), none, some (.int x4), some (.int x5), some (.int x6), some (.int y0), none] [.int (s.1 65 5)] (hp s) 0 0 _
  refine Ev.if_eq (off := 4) (tgt := 91) (by decide +kernel) (by decide) (fun b12 => ?_) (fun b12 => ?_)
  · have hf := (if_pos b12).symm.trans hf
    refine Ev.blk (pc' := 95) [(.iconst 4, 0, 0, 0), (.aload_n 0, 0, 0, 0), (.iconst 0, 0, 0, 0), (.lload_n 2, 0, 0, 0)] (by decide +kernel) trivial rfl (?_)
    show Ev l d mi_X10_kindTold 95 [some (.ref 65), none, some (.long x2), none, some (.int x4), some (.int x5), some (.int x6), some (.int y0), none] [.long x2, .int (Int32.ofInt 0), .ref 65, .int (Int32.ofInt 4)] (hp s) 0 0 _
    obtain ⟨q13, hq13, hf⟩ := bd_some hf
    refine Ev.callV (o := 65) (M' := mi_X10_adds) (d' := d - 1) (As := [.int (Int32.ofInt 0), .long x2]) (rest := [.int (Int32.ofInt 4)]) (r' := (some (.int q13.1), hp q13.2)) (e_X10_adds (d := d - 1) (by omega) (Int32.ofInt 0) x2 s _ hq13) (by omega) wm_X10_adds wi_X10_adds wv_X10_adds km_10_367 (kc rfl rfl) (Nat.le_of_ble_eq_true rfl) rfl rfl rfl (Nat.le_of_ble_eq_true rfl) ⟨Nat.le_of_ble_eq_true rfl, Nat.le_of_ble_eq_true rfl⟩ (by decide +kernel) ?_
    show Ev l d mi_X10_kindTold 98 [some (.ref 65), none, some (.long x2), none, some (.int x4), some (.int x5), some (.int x6), some (.int y0), none] [.int q13.1, .int (Int32.ofInt 4)] (hp q13.2) 0 0 _
    obtain ⟨c14, hf⟩ := gd_some hf
    obtain ⟨c15, hf⟩ := gd_some hf
    obtain ⟨c16, hf⟩ := gd_some hf
    obtain ⟨c17, hf⟩ := gd_some hf
    obtain ⟨s18, hs18, hf⟩ := lt_some hf
    refine Ev.blk (pc' := 143) [(.imul, 0, 0, 0), (.istore 8, 0, 0, 0), (.aload_n 0, 0, 0, 0), (.getfield 130, 0, 10, 48), (.iload 8, 0, 0, 0), (.iload 4, 0, 0, 0), (.iastore, 0, 0, 0), (.aload_n 0, 0, 0, 0), (.getfield 130, 0, 10, 48), (.iload 8, 0, 0, 0), (.iconst 1, 0, 0, 0), (.iadd, 0, 0, 0), (.iload 5, 0, 0, 0), (.iastore, 0, 0, 0), (.aload_n 0, 0, 0, 0), (.getfield 130, 0, 10, 48), (.iload 8, 0, 0, 0), (.iconst 2, 0, 0, 0), (.iadd, 0, 0, 0), (.iload 6, 0, 0, 0), (.iastore, 0, 0, 0), (.aload_n 0, 0, 0, 0), (.getfield 130, 0, 10, 48), (.iload 8, 0, 0, 0), (.iconst 3, 0, 0, 0), (.iadd, 0, 0, 0), (.iload 7, 0, 0, 0), (.iastore, 0, 0, 0)] (by decide +kernel) ⟨kf_10_130, ⟨kf_10_130, ⟨kf_10_130, ⟨kf_10_130, trivial⟩⟩⟩⟩ rfl (And.intro (Nat.le_of_ble_eq_true rfl) (And.intro (kc rfl rfl) (Exists.intro 104 (And.intro rfl (And.intro (kc rfl rfl) (And.intro (ib_ok c14) (And.intro (kc rfl rfl) (Exists.intro 104 (And.intro rfl (And.intro (kc rfl rfl) (And.intro (ib_ok c15) (And.intro (kc rfl rfl) (Exists.intro 104 (And.intro rfl (And.intro (kc rfl rfl) (And.intro (ib_ok c16) (And.intro (kc rfl rfl) (Exists.intro 104 (And.intro rfl (And.intro (kc rfl rfl) (And.intro (ib_ok c17) (?_))))))))))))))))))))))
    show Ev l d mi_X10_kindTold 143 [some (.ref 65), none, some (.long x2), none, some (.int x4), some (.int x5), some (.int x6), some (.int y0), some (.int ((Int32.ofInt 4) * q13.1))] [] (hp (uI (uI (uI (uI q13.2 104 ((Int32.ofInt 4) * q13.1).toNatClampNeg x4) 104 (((Int32.ofInt 4) * q13.1) + (Int32.ofInt 1)).toNatClampNeg x5) 104 (((Int32.ofInt 4) * q13.1) + (Int32.ofInt 2)).toNatClampNeg x6) 104 (((Int32.ofInt 4) * q13.1) + (Int32.ofInt 3)).toNatClampNeg y0)) 0 0 _
    rw [← hs18]
    cases hf
    exact Ev.vret rfl (by decide +kernel) (Nat.le_refl _) (Nat.le_refl _)
  · have hf := (if_neg b12).symm.trans hf
    cases hf
    exact Ev.vret rfl (by decide +kernel) (Nat.le_refl _) (Nat.le_refl _)
def f_X10_kindTold (p0 : Int32) (s : ST) : Option (ST) := (f_X10_isFull (Int32.ofInt 0) (Int32.ofInt 5) p0 s).bind (fun q1 => (if q1.1 = 0 then (f_X10_newName q1.2).bind (fun q3 => (f_X10_asks 73 q3.2).bind (fun q4 => (f_X10_number (Int32.ofInt 1) (Int32.ofInt 4) q4).bind (fun q5 => (f_X10_asks 74 q5.2).bind (fun q6 => (f_X10_number (Int32.ofInt 1) (Int32.ofInt 4) q6).bind (fun q7 => (f_X10_asks 75 q7.2).bind (fun q8 => (f_X10_number (Int32.ofInt 0) ((Int8.ofInt 99).toInt32) q8).bind (fun q9 => (f_X10_takes 76 q9.2).bind (fun q10 => (if q10.1 = 0 then f_X10_kindTold_j81 q3.1 q5.1 q7.1 q9.1 (Int32.ofInt 0) q10.2 else f_X10_kindTold_j81 q3.1 q5.1 q7.1 q9.1 (Int32.ofInt 1) q10.2))))))))) else some q1.2))
set_option maxHeartbeats 2000000 in
set_option maxRecDepth 20000 in
theorem e_X10_kindTold {l : Launch} {d : Nat} (hd : 6 ≤ d) (p0 : Int32) (s : ST) (r : ST) (hf : f_X10_kindTold p0 s = some r) : Cl l d mi_X10_kindTold [.ref 65, .int p0] (hp s) (none, hp r) := by
  refine Ev.entry (by decide +kernel) rfl rfl ?_
  show Ev l d mi_X10_kindTold 0 [some (.ref 65), some (.int p0), none, none, none, none, none, none, none] [] (hp s) 0 0 _
  unfold f_X10_kindTold at hf
  refine Ev.blk (pc' := 4) [(.aload_n 0, 0, 0, 0), (.iconst 0, 0, 0, 0), (.iconst 5, 0, 0, 0), (.iload_n 1, 0, 0, 0)] (by decide +kernel) trivial rfl (?_)
  show Ev l d mi_X10_kindTold 4 [some (.ref 65), some (.int p0), none, none, none, none, none, none, none] [.int p0, .int (Int32.ofInt 5), .int (Int32.ofInt 0), .ref 65] (hp s) 0 0 _
  obtain ⟨q1, hq1, hf⟩ := bd_some hf
  refine Ev.callV (o := 65) (M' := mi_X10_isFull) (d' := d - 1) (As := [.int (Int32.ofInt 0), .int (Int32.ofInt 5), .int p0]) (rest := []) (r' := (some (.int q1.1), hp q1.2)) (e_X10_isFull (d := d - 1) (by omega) (Int32.ofInt 0) (Int32.ofInt 5) p0 s _ hq1) (by omega) wm_X10_isFull wi_X10_isFull wv_X10_isFull km_10_360 (kc rfl rfl) (Nat.le_of_ble_eq_true rfl) rfl rfl rfl (Nat.le_of_ble_eq_true rfl) ⟨Nat.le_of_ble_eq_true rfl, Nat.le_of_ble_eq_true rfl⟩ (by decide +kernel) ?_
  show Ev l d mi_X10_kindTold 7 [some (.ref 65), some (.int p0), none, none, none, none, none, none, none] [.int q1.1] (hp q1.2) 0 0 _
  refine Ev.if_eq (off := 4) (tgt := 11) (by decide +kernel) (by decide) (fun b2 => ?_) (fun b2 => ?_)
  · have hf := (if_pos b2).symm.trans hf
    refine Ev.blk (pc' := 12) [(.aload_n 0, 0, 0, 0)] (by decide +kernel) trivial rfl (?_)
    show Ev l d mi_X10_kindTold 12 [some (.ref 65), some (.int p0), none, none, none, none, none, none, none] [.ref 65] (hp q1.2) 0 0 _
    obtain ⟨q3, hq3, hf⟩ := bd_some hf
    refine Ev.callV (o := 65) (M' := mi_X10_newName) (d' := d - 1) (As := []) (rest := []) (r' := (some (.long q3.1), hp q3.2)) (e_X10_newName (d := d - 1) (by omega) q1.2 _ hq3) (by omega) wm_X10_newName wi_X10_newName wv_X10_newName km_10_364 (kc rfl rfl) (Nat.le_of_ble_eq_true rfl) rfl rfl rfl (Nat.le_of_ble_eq_true rfl) ⟨Nat.le_of_ble_eq_true rfl, Nat.le_of_ble_eq_true rfl⟩ (by decide +kernel) ?_
    show Ev l d mi_X10_kindTold 15 [some (.ref 65), some (.int p0), none, none, none, none, none, none, none] [.long q3.1] (hp q3.2) 0 0 _
    refine Ev.blk (pc' := 21) [(.lstore_n 2, 0, 0, 0), (.aload_n 0, 0, 0, 0), (.aload_n 0, 0, 0, 0), (.getfield 36, 0, 10, 16)] (by decide +kernel) ⟨kf_10_36, trivial⟩ rfl (And.intro (Nat.le_of_ble_eq_true rfl) (And.intro (kc rfl rfl) (Exists.intro 73 (And.intro rfl (?_)))))
    show Ev l d mi_X10_kindTold 21 [some (.ref 65), some (.int p0), some (.long q3.1), none, none, none, none, none, none] [.ref 73, .ref 65] (hp q3.2) 0 0 _
    obtain ⟨q4, hq4, hf⟩ := bd_some hf
    refine Ev.callV (o := 65) (M' := mi_X10_asks) (d' := d - 1) (As := [.ref 73]) (rest := []) (r' := (none, hp q4)) (e_X10_asks (d := d - 1) (by omega) 73 q3.2 _ hq4) (by omega) wm_X10_asks wi_X10_asks wv_X10_asks km_10_348 (kc rfl rfl) (Nat.le_of_ble_eq_true rfl) rfl rfl rfl (Nat.le_of_ble_eq_true rfl) ⟨Nat.le_of_ble_eq_true rfl, Nat.le_of_ble_eq_true rfl⟩ (by decide +kernel) ?_
    show Ev l d mi_X10_kindTold 24 [some (.ref 65), some (.int p0), some (.long q3.1), none, none, none, none, none, none] [] (hp q4) 0 0 _
    refine Ev.blk (pc' := 27) [(.aload_n 0, 0, 0, 0), (.iconst 1, 0, 0, 0), (.iconst 4, 0, 0, 0)] (by decide +kernel) trivial rfl (?_)
    show Ev l d mi_X10_kindTold 27 [some (.ref 65), some (.int p0), some (.long q3.1), none, none, none, none, none, none] [.int (Int32.ofInt 4), .int (Int32.ofInt 1), .ref 65] (hp q4) 0 0 _
    obtain ⟨q5, hq5, hf⟩ := bd_some hf
    refine Ev.callV (o := 65) (M' := mi_X10_number) (d' := d - 1) (As := [.int (Int32.ofInt 1), .int (Int32.ofInt 4)]) (rest := []) (r' := (some (.int q5.1), hp q5.2)) (e_X10_number (d := d - 1) (by omega) (Int32.ofInt 1) (Int32.ofInt 4) q4 _ hq5) (by omega) wm_X10_number wi_X10_number wv_X10_number km_10_352 (kc rfl rfl) (Nat.le_of_ble_eq_true rfl) rfl rfl rfl (Nat.le_of_ble_eq_true rfl) ⟨Nat.le_of_ble_eq_true rfl, Nat.le_of_ble_eq_true rfl⟩ (by decide +kernel) ?_
    show Ev l d mi_X10_kindTold 30 [some (.ref 65), some (.int p0), some (.long q3.1), none, none, none, none, none, none] [.int q5.1] (hp q5.2) 0 0 _
    refine Ev.blk (pc' := 37) [(.istore 4, 0, 0, 0), (.aload_n 0, 0, 0, 0), (.aload_n 0, 0, 0, 0), (.getfield 39, 0, 10, 17)] (by decide +kernel) ⟨kf_10_39, trivial⟩ rfl (And.intro (Nat.le_of_ble_eq_true rfl) (And.intro (kc rfl rfl) (Exists.intro 74 (And.intro rfl (?_)))))
    show Ev l d mi_X10_kindTold 37 [some (.ref 65), some (.int p0), some (.long q3.1), none, some (.int q5.1), none, none, none, none] [.ref 74, .ref 65] (hp q5.2) 0 0 _
    obtain ⟨q6, hq6, hf⟩ := bd_some hf
    refine Ev.callV (o := 65) (M' := mi_X10_asks) (d' := d - 1) (As := [.ref 74]) (rest := []) (r' := (none, hp q6)) (e_X10_asks (d := d - 1) (by omega) 74 q5.2 _ hq6) (by omega) wm_X10_asks wi_X10_asks wv_X10_asks km_10_348 (kc rfl rfl) (Nat.le_of_ble_eq_true rfl) rfl rfl rfl (Nat.le_of_ble_eq_true rfl) ⟨Nat.le_of_ble_eq_true rfl, Nat.le_of_ble_eq_true rfl⟩ (by decide +kernel) ?_
    show Ev l d mi_X10_kindTold 40 [some (.ref 65), some (.int p0), some (.long q3.1), none, some (.int q5.1), none, none, none, none] [] (hp q6) 0 0 _
    refine Ev.blk (pc' := 43) [(.aload_n 0, 0, 0, 0), (.iconst 1, 0, 0, 0), (.iconst 4, 0, 0, 0)] (by decide +kernel) trivial rfl (?_)
    show Ev l d mi_X10_kindTold 43 [some (.ref 65), some (.int p0), some (.long q3.1), none, some (.int q5.1), none, none, none, none] [.int (Int32.ofInt 4), .int (Int32.ofInt 1), .ref 65] (hp q6) 0 0 _
    obtain ⟨q7, hq7, hf⟩ := bd_some hf
    refine Ev.callV (o := 65) (M' := mi_X10_number) (d' := d - 1) (As := [.int (Int32.ofInt 1), .int (Int32.ofInt 4)]) (rest := []) (r' := (some (.int q7.1), hp q7.2)) (e_X10_number (d := d - 1) (by omega) (Int32.ofInt 1) (Int32.ofInt 4) q6 _ hq7) (by omega) wm_X10_number wi_X10_number wv_X10_number km_10_352 (kc rfl rfl) (Nat.le_of_ble_eq_true rfl) rfl rfl rfl (Nat.le_of_ble_eq_true rfl) ⟨Nat.le_of_ble_eq_true rfl, Nat.le_of_ble_eq_true rfl⟩ (by decide +kernel) ?_
    show Ev l d mi_X10_kindTold 46 [some (.ref 65), some (.int p0), some (.long q3.1), none, some (.int q5.1), none, none, none, none] [.int q7.1] (hp q7.2) 0 0 _
    refine Ev.blk (pc' := 53) [(.istore 5, 0, 0, 0), (.aload_n 0, 0, 0, 0), (.aload_n 0, 0, 0, 0), (.getfield 42, 0, 10, 18)] (by decide +kernel) ⟨kf_10_42, trivial⟩ rfl (And.intro (Nat.le_of_ble_eq_true rfl) (And.intro (kc rfl rfl) (Exists.intro 75 (And.intro rfl (?_)))))
    show Ev l d mi_X10_kindTold 53 [some (.ref 65), some (.int p0), some (.long q3.1), none, some (.int q5.1), some (.int q7.1), none, none, none] [.ref 75, .ref 65] (hp q7.2) 0 0 _
    obtain ⟨q8, hq8, hf⟩ := bd_some hf
    refine Ev.callV (o := 65) (M' := mi_X10_asks) (d' := d - 1) (As := [.ref 75]) (rest := []) (r' := (none, hp q8)) (e_X10_asks (d := d - 1) (by omega) 75 q7.2 _ hq8) (by omega) wm_X10_asks wi_X10_asks wv_X10_asks km_10_348 (kc rfl rfl) (Nat.le_of_ble_eq_true rfl) rfl rfl rfl (Nat.le_of_ble_eq_true rfl) ⟨Nat.le_of_ble_eq_true rfl, Nat.le_of_ble_eq_true rfl⟩ (by decide +kernel) ?_
    show Ev l d mi_X10_kindTold 56 [some (.ref 65), some (.int p0), some (.long q3.1), none, some (.int q5.1), some (.int q7.1), none, none, none] [] (hp q8) 0 0 _
    refine Ev.blk (pc' := 60) [(.aload_n 0, 0, 0, 0), (.iconst 0, 0, 0, 0), (.bipush 99, 0, 0, 0)] (by decide +kernel) trivial rfl (?_)
    show Ev l d mi_X10_kindTold 60 [some (.ref 65), some (.int p0), some (.long q3.1), none, some (.int q5.1), some (.int q7.1), none, none, none] [.int ((Int8.ofInt 99).toInt32), .int (Int32.ofInt 0), .ref 65] (hp q8) 0 0 _
    obtain ⟨q9, hq9, hf⟩ := bd_some hf
    refine Ev.callV (o := 65) (M' := mi_X10_number) (d' := d - 1) (As := [.int (Int32.ofInt 0), .int ((Int8.ofInt 99).toInt32)]) (rest := []) (r' := (some (.int q9.1), hp q9.2)) (e_X10_number (d := d - 1) (by omega) (Int32.ofInt 0) ((Int8.ofInt 99).toInt32) q8 _ hq9) (by omega) wm_X10_number wi_X10_number wv_X10_number km_10_352 (kc rfl rfl) (Nat.le_of_ble_eq_true rfl) rfl rfl rfl (Nat.le_of_ble_eq_true rfl) ⟨Nat.le_of_ble_eq_true rfl, Nat.le_of_ble_eq_true rfl⟩ (by decide +kernel) ?_
    show Ev l d mi_X10_kindTold 63 [some (.ref 65), some (.int p0), some (.long q3.1), none, some (.int q5.1), some (.int q7.1), none, none, none] [.int q9.1] (hp q9.2) 0 0 _
    refine Ev.blk (pc' := 70) [(.istore 6, 0, 0, 0), (.aload_n 0, 0, 0, 0), (.aload_n 0, 0, 0, 0), (.getfield 45, 0, 10, 19)] (by decide +kernel) ⟨kf_10_45, trivial⟩ rfl (And.intro (Nat.le_of_ble_eq_true rfl) (And.intro (kc rfl rfl) (Exists.intro 76 (And.intro rfl (?_)))))
    show Ev l d mi_X10_kindTold 70 [some (.ref 65), some (.int p0), some (.long q3.1), none, some (.int q5.1), some (.int q7.1), some (.int q9.1), none, none] [.ref 76, .ref 65] (hp q9.2) 0 0 _
    obtain ⟨q10, hq10, hf⟩ := bd_some hf
    refine Ev.callV (o := 65) (M' := mi_X10_takes) (d' := d - 1) (As := [.ref 76]) (rest := []) (r' := (some (.int q10.1), hp q10.2)) (e_X10_takes (d := d - 1) (by omega) 76 q9.2 _ hq10) (by omega) wm_X10_takes wi_X10_takes wv_X10_takes km_10_305 (kc rfl rfl) (Nat.le_of_ble_eq_true rfl) rfl rfl rfl (Nat.le_of_ble_eq_true rfl) ⟨Nat.le_of_ble_eq_true rfl, Nat.le_of_ble_eq_true rfl⟩ (by decide +kernel) ?_
    show Ev l d mi_X10_kindTold 73 [some (.ref 65), some (.int p0), some (.long q3.1), none, some (.int q5.1), some (.int q7.1), some (.int q9.1), none, none] [.int q10.1] (hp q10.2) 0 0 _
    refine Ev.if_eq (off := 7) (tgt := 80) (by decide +kernel) (by decide) (fun b11 => ?_) (fun b11 => ?_)
    · have hf := (if_pos b11).symm.trans hf
      refine Ev.blk (pc' := 81) [(.iconst 0, 0, 0, 0)] (by decide +kernel) trivial rfl (?_)
      show Ev l d mi_X10_kindTold 81 [some (.ref 65), some (.int p0), some (.long q3.1), none, some (.int q5.1), some (.int q7.1), some (.int q9.1), none, none] [.int (Int32.ofInt 0)] (hp q10.2) 0 0 _
      exact Ev.wk ((e_X10_kindTold_j81 hd) q3.1 q5.1 q7.1 q9.1 (Int32.ofInt 0) q10.2 _ hf) (And.intro (Or.inr rfl) (And.intro (Or.inl rfl) (And.intro (Or.inr rfl) (And.intro (Or.inr rfl) (And.intro (Or.inr rfl) (And.intro (Or.inr rfl) (And.intro (Or.inr rfl) (And.intro (Or.inr rfl) (And.intro (Or.inr rfl) (trivial))))))))))
    · have hf := (if_neg b11).symm.trans hf
      refine Ev.blk (pc' := 77) [(.iconst 1, 0, 0, 0)] (by decide +kernel) trivial rfl (?_)
      show Ev l d mi_X10_kindTold 77 [some (.ref 65), some (.int p0), some (.long q3.1), none, some (.int q5.1), some (.int q7.1), some (.int q9.1), none, none] [.int (Int32.ofInt 1)] (hp q10.2) 0 0 _
      refine Ev.goto (off := 4) (tgt := 81) (by decide +kernel) (by decide) ?_
      exact Ev.wk ((e_X10_kindTold_j81 hd) q3.1 q5.1 q7.1 q9.1 (Int32.ofInt 1) q10.2 _ hf) (And.intro (Or.inr rfl) (And.intro (Or.inl rfl) (And.intro (Or.inr rfl) (And.intro (Or.inr rfl) (And.intro (Or.inr rfl) (And.intro (Or.inr rfl) (And.intro (Or.inr rfl) (And.intro (Or.inr rfl) (And.intro (Or.inr rfl) (trivial))))))))))
  · have hf := (if_neg b2).symm.trans hf
    cases hf
    exact Ev.vret rfl (by decide +kernel) (Nat.le_refl _) (Nat.le_refl _)
def f_X10_placeTold (s : ST) : Option (ST) := gd (ib (Int32.ofInt 0) 8) ((f_X10_number (Int32.ofInt 0) ((s.1 103 (Int32.ofInt 0).toNatClampNeg) - (Int32.ofInt 1)) s).bind (fun q2 => gd (ib (Int32.ofInt 1) 8) (lt (uI q2.2 65 60 q2.1) (fun s4 => (f_X10_number (Int32.ofInt 0) ((s4.1 103 (Int32.ofInt 1).toNatClampNeg) - (Int32.ofInt 1)) s4).bind (fun q5 => lt (uI q5.2 65 61 q5.1) (fun s6 => some s6))))))
set_option maxHeartbeats 2000000 in
set_option maxRecDepth 20000 in
theorem e_X10_placeTold {l : Launch} {d : Nat} (hd : 3 ≤ d) (s : ST) (r : ST) (hf : f_X10_placeTold s = some r) : Cl l d mi_X10_placeTold [.ref 65] (hp s) (none, hp r) := by
  refine Ev.entry (by decide +kernel) rfl rfl ?_
  show Ev l d mi_X10_placeTold 0 [some (.ref 65)] [] (hp s) 0 0 _
  unfold f_X10_placeTold at hf
  obtain ⟨c1, hf⟩ := gd_some hf
  refine Ev.blk (pc' := 11) [(.aload_n 0, 0, 0, 0), (.aload_n 0, 0, 0, 0), (.iconst 0, 0, 0, 0), (.aload_n 0, 0, 0, 0), (.getfield 127, 0, 10, 47), (.iconst 0, 0, 0, 0), (.iaload, 0, 0, 0), (.iconst 1, 0, 0, 0), (.isub, 0, 0, 0)] (by decide +kernel) ⟨kf_10_127, trivial⟩ rfl (And.intro (kc rfl rfl) (Exists.intro 103 (And.intro rfl (And.intro (kc rfl rfl) (And.intro (ib_ok c1) (?_))))))
  show Ev l d mi_X10_placeTold 11 [some (.ref 65)] [.int ((s.1 103 (Int32.ofInt 0).toNatClampNeg) - (Int32.ofInt 1)), .int (Int32.ofInt 0), .ref 65, .ref 65] (hp s) 0 0 _
  obtain ⟨q2, hq2, hf⟩ := bd_some hf
  refine Ev.callV (o := 65) (M' := mi_X10_number) (d' := d - 1) (As := [.int (Int32.ofInt 0), .int ((s.1 103 (Int32.ofInt 0).toNatClampNeg) - (Int32.ofInt 1))]) (rest := [.ref 65]) (r' := (some (.int q2.1), hp q2.2)) (e_X10_number (d := d - 1) (by omega) (Int32.ofInt 0) ((s.1 103 (Int32.ofInt 0).toNatClampNeg) - (Int32.ofInt 1)) s _ hq2) (by omega) wm_X10_number wi_X10_number wv_X10_number km_10_352 (kc rfl rfl) (Nat.le_of_ble_eq_true rfl) rfl rfl rfl (Nat.le_of_ble_eq_true rfl) ⟨Nat.le_of_ble_eq_true rfl, Nat.le_of_ble_eq_true rfl⟩ (by decide +kernel) ?_
  show Ev l d mi_X10_placeTold 14 [some (.ref 65)] [.int q2.1, .ref 65] (hp q2.2) 0 0 _
  obtain ⟨c3, hf⟩ := gd_some hf
  obtain ⟨s4, hs4, hf⟩ := lt_some hf
  refine Ev.blk (pc' := 28) [(.putfield 370, 0, 10, 60), (.aload_n 0, 0, 0, 0), (.aload_n 0, 0, 0, 0), (.iconst 0, 0, 0, 0), (.aload_n 0, 0, 0, 0), (.getfield 127, 0, 10, 47), (.iconst 1, 0, 0, 0), (.iaload, 0, 0, 0), (.iconst 1, 0, 0, 0), (.isub, 0, 0, 0)] (by decide +kernel) ⟨⟨kf_10_370, Or.inl rfl⟩, ⟨kf_10_127, trivial⟩⟩ rfl (And.intro (kc rfl rfl) (And.intro (kc rfl rfl) (Exists.intro 103 (And.intro rfl (And.intro (kc rfl rfl) (And.intro (ib_ok c3) (?_)))))))
  show Ev l d mi_X10_placeTold 28 [some (.ref 65)] [.int (((uI q2.2 65 60 q2.1).1 103 (Int32.ofInt 1).toNatClampNeg) - (Int32.ofInt 1)), .int (Int32.ofInt 0), .ref 65, .ref 65] (hp (uI q2.2 65 60 q2.1)) 0 0 _
  rw [← hs4]
  obtain ⟨q5, hq5, hf⟩ := bd_some hf
  refine Ev.callV (o := 65) (M' := mi_X10_number) (d' := d - 1) (As := [.int (Int32.ofInt 0), .int ((s4.1 103 (Int32.ofInt 1).toNatClampNeg) - (Int32.ofInt 1))]) (rest := [.ref 65]) (r' := (some (.int q5.1), hp q5.2)) (e_X10_number (d := d - 1) (by omega) (Int32.ofInt 0) ((s4.1 103 (Int32.ofInt 1).toNatClampNeg) - (Int32.ofInt 1)) s4 _ hq5) (by omega) wm_X10_number wi_X10_number wv_X10_number km_10_352 (kc rfl rfl) (Nat.le_of_ble_eq_true rfl) rfl rfl rfl (Nat.le_of_ble_eq_true rfl) ⟨Nat.le_of_ble_eq_true rfl, Nat.le_of_ble_eq_true rfl⟩ (by decide +kernel) ?_
  show Ev l d mi_X10_placeTold 31 [some (.ref 65)] [.int q5.1, .ref 65] (hp q5.2) 0 0 _
  obtain ⟨s6, hs6, hf⟩ := lt_some hf
  refine Ev.blk (pc' := 34) [(.putfield 373, 0, 10, 61)] (by decide +kernel) ⟨⟨kf_10_373, Or.inl rfl⟩, trivial⟩ rfl (And.intro (kc rfl rfl) (?_))
  show Ev l d mi_X10_placeTold 34 [some (.ref 65)] [] (hp (uI q5.2 65 61 q5.1)) 0 0 _
  rw [← hs6]
  cases hf
  exact Ev.vret rfl (by decide +kernel) (Nat.le_refl _) (Nat.le_refl _)
def f_X10_manTold_L93 (k160 : Int64 → Int32 → Int32 → ST → Option (ST)) : Nat → Int64 → Int32 → Int32 → Int32 → ST → Option (ST)
  | 0, _, _, _, _, _ => none
  | n + 1, x2, x6, x7, x8, s => gd (ib (Int32.ofInt 1) 6) ((if (s.1 101 (Int32.ofInt 1).toNatClampNeg) ≤ x8 then k160 x2 x6 x7 s else (if (s.1 65 5) = 0 then gd (ib ((Int32.ofInt 2) * x8) 16) ((if (s.1 106 ((Int32.ofInt 2) * x8).toNatClampNeg) = (s.1 65 60) then gd (ib (((Int32.ofInt 2) * x8) + (Int32.ofInt 1)) 16) (lt (s.1 106 (((Int32.ofInt 2) * x8) + (Int32.ofInt 1)).toNatClampNeg) (fun v20 => (if v20 = (s.1 65 61) then (f_X10_fail (Int32.ofInt 2) (s.1 65 10) s).bind (fun q22 => (f_X10_manTold_L93 k160 n) x2 x6 x7 (x8 + Int32.ofInt 1) q22) else (f_X10_manTold_L93 k160 n) x2 x6 x7 (x8 + Int32.ofInt 1) s))) else (f_X10_manTold_L93 k160 n) x2 x6 x7 (x8 + Int32.ofInt 1) s)) else (f_X10_manTold_L93 k160 n) x2 x6 x7 (x8 + Int32.ofInt 1) s)))
set_option maxHeartbeats 2000000 in
set_option maxRecDepth 20000 in
theorem e_X10_manTold_L93 {l : Launch} {d : Nat} (hd : 6 ≤ d) (k160 : Int64 → Int32 → Int32 → ST → Option (ST)) (hk160 : ∀ (x2 : Int64) (x6 : Int32) (x7 : Int32) (s : ST) (r : ST), k160 x2 x6 x7 s = some r → Ev l d mi_X10_manTold 160 [some (.ref 65), none, some (.long x2), none, none, none, some (.int x6), some (.int x7), none] [] (hp s) 0 0 (none, hp r)) : ∀ (n : Nat) (x2 : Int64) (x6 : Int32) (x7 : Int32) (x8 : Int32) (s : ST) (r : ST), f_X10_manTold_L93 k160 n x2 x6 x7 x8 s = some r → Ev l d mi_X10_manTold 93 [some (.ref 65), none, some (.long x2), none, none, none, some (.int x6), some (.int x7), some (.int x8)] [] (hp s) 0 0 (none, hp r) := by
  intro n
  induction n with
  | zero =>
    intro x2 x6 x7 x8 s r hf
    cases hf
  | succ n ih =>
    intro x2 x6 x7 x8 s r hf
    unfold f_X10_manTold_L93 at hf
    obtain ⟨c14, hf⟩ := gd_some hf
    refine Ev.blk (pc' := 101) [(.iload 8, 0, 0, 0), (.aload_n 0, 0, 0, 0), (.getfield 120, 0, 10, 45), (.iconst 1, 0, 0, 0), (.iaload, 0, 0, 0)] (by decide +kernel) ⟨kf_10_120, trivial⟩ rfl (And.intro (kc rfl rfl) (Exists.intro 101 (And.intro rfl (And.intro (kc rfl rfl) (And.intro (ib_ok c14) (?_))))))
    show Ev l d mi_X10_manTold 101 [some (.ref 65), none, some (.long x2), none, none, none, some (.int x6), some (.int x7), some (.int x8)] [.int (s.1 101 (Int32.ofInt 1).toNatClampNeg), .int x8] (hp s) 0 0 _
    refine Ev.icmp_ge (off := 59) (tgt := 160) (by decide +kernel) (by decide) (fun b15 => ?_) (fun b15 => ?_)
    · have hf := (if_pos b15).symm.trans hf
      exact Ev.wk (hk160 x2 x6 x7 s _ hf) (And.intro (Or.inr rfl) (And.intro (Or.inr rfl) (And.intro (Or.inr rfl) (And.intro (Or.inr rfl) (And.intro (Or.inr rfl) (And.intro (Or.inr rfl) (And.intro (Or.inr rfl) (And.intro (Or.inr rfl) (And.intro (Or.inl rfl) (trivial))))))))))
    · have hf := (if_neg b15).symm.trans hf
      refine Ev.blk (pc' := 108) [(.aload_n 0, 0, 0, 0), (.getfield 278, 0, 10, 5)] (by decide +kernel) ⟨kf_10_278, trivial⟩ rfl (And.intro (kc rfl rfl) (?_))
      show Ev l d mi_X10_manTold 108 [some (.ref 65), none, some (.long x2), none, none, none, some (.int x6), some (.int x7), some (.int x8)] [.int (s.1 65 5)] (hp s) 0 0 _
      refine Ev.if_ne (off := 46) (tgt := 154) (by decide +kernel) (by decide) (fun b16 => ?_) (fun b16 => ?_)
      · have hf := (if_neg b16).symm.trans hf
        refine Ev.blk (pc' := 157) [(.iinc 8 1, 0, 0, 0)] (by decide +kernel) trivial rfl (And.intro (Nat.le_of_ble_eq_true rfl) (?_))
        show Ev l d mi_X10_manTold 157 [some (.ref 65), none, some (.long x2), none, none, none, some (.int x6), some (.int x7), some (.int (x8 + Int32.ofInt 1))] [] (hp s) 0 0 _
        refine Ev.goto (off := -64) (tgt := 93) (by decide +kernel) (by decide) ?_
        exact ih x2 x6 x7 (x8 + Int32.ofInt 1) s _ hf
      · have hf := (if_pos b16).symm.trans hf
        obtain ⟨c17, hf⟩ := gd_some hf
        refine Ev.blk (pc' := 124) [(.aload_n 0, 0, 0, 0), (.getfield 136, 0, 10, 50), (.iconst 2, 0, 0, 0), (.iload 8, 0, 0, 0), (.imul, 0, 0, 0), (.iaload, 0, 0, 0), (.aload_n 0, 0, 0, 0), (.getfield 370, 0, 10, 60)] (by decide +kernel) ⟨kf_10_136, ⟨kf_10_370, trivial⟩⟩ rfl (And.intro (kc rfl rfl) (Exists.intro 106 (And.intro rfl (And.intro (kc rfl rfl) (And.intro (ib_ok c17) (And.intro (kc rfl rfl) (?_)))))))
        show Ev l d mi_X10_manTold 124 [some (.ref 65), none, some (.long x2), none, none, none, some (.int x6), some (.int x7), some (.int x8)] [.int (s.1 65 60), .int (s.1 106 ((Int32.ofInt 2) * x8).toNatClampNeg)] (hp s) 0 0 _
        refine Ev.icmp_ne (off := 30) (tgt := 154) (by decide +kernel) (by decide) (fun b18 => ?_) (fun b18 => ?_)
        · have hf := (if_neg b18).symm.trans hf
          refine Ev.blk (pc' := 157) [(.iinc 8 1, 0, 0, 0)] (by decide +kernel) trivial rfl (And.intro (Nat.le_of_ble_eq_true rfl) (?_))
          show Ev l d mi_X10_manTold 157 [some (.ref 65), none, some (.long x2), none, none, none, some (.int x6), some (.int x7), some (.int (x8 + Int32.ofInt 1))] [] (hp s) 0 0 _
          refine Ev.goto (off := -64) (tgt := 93) (by decide +kernel) (by decide) ?_
          exact ih x2 x6 x7 (x8 + Int32.ofInt 1) s _ hf
        · have hf := (if_pos b18).symm.trans hf
          obtain ⟨c19, hf⟩ := gd_some hf
          obtain ⟨v20, hv20, hf⟩ := lt_some hf
          refine Ev.blk (pc' := 142) [(.aload_n 0, 0, 0, 0), (.getfield 136, 0, 10, 50), (.iconst 2, 0, 0, 0), (.iload 8, 0, 0, 0), (.imul, 0, 0, 0), (.iconst 1, 0, 0, 0), (.iadd, 0, 0, 0), (.iaload, 0, 0, 0), (.aload_n 0, 0, 0, 0), (.getfield 373, 0, 10, 61)] (by decide +kernel) ⟨kf_10_136, ⟨kf_10_373, trivial⟩⟩ rfl (And.intro (kc rfl rfl) (Exists.intro 106 (And.intro rfl (And.intro (kc rfl rfl) (And.intro (ib_ok c19) (And.intro (kc rfl rfl) (?_)))))))
          show Ev l d mi_X10_manTold 142 [some (.ref 65), none, some (.long x2), none, none, none, some (.int x6), some (.int x7), some (.int x8)] [.int (s.1 65 61), .int (s.1 106 (((Int32.ofInt 2) * x8) + (Int32.ofInt 1)).toNatClampNeg)] (hp s) 0 0 _
          rw [← hv20]
          refine Ev.icmp_ne (off := 12) (tgt := 154) (by decide +kernel) (by decide) (fun b21 => ?_) (fun b21 => ?_)
          · have hf := (if_neg b21).symm.trans hf
            refine Ev.blk (pc' := 157) [(.iinc 8 1, 0, 0, 0)] (by decide +kernel) trivial rfl (And.intro (Nat.le_of_ble_eq_true rfl) (?_))
            show Ev l d mi_X10_manTold 157 [some (.ref 65), none, some (.long x2), none, none, none, some (.int x6), some (.int x7), some (.int (x8 + Int32.ofInt 1))] [] (hp s) 0 0 _
            refine Ev.goto (off := -64) (tgt := 93) (by decide +kernel) (by decide) ?_
            exact ih x2 x6 x7 (x8 + Int32.ofInt 1) s _ hf
          · have hf := (if_pos b21).symm.trans hf
            refine Ev.blk (pc' := 151) [(.aload_n 0, 0, 0, 0), (.iconst 2, 0, 0, 0), (.aload_n 0, 0, 0, 0), (.getfield 318, 0, 10, 10)] (by decide +kernel) ⟨kf_10_318, trivial⟩ rfl (And.intro (kc rfl rfl) (?_))
            show Ev l d mi_X10_manTold 151 [some (.ref 65), none, some (.long x2), none, none, none, some (.int x6), some (.int x7), some (.int x8)] [.int (s.1 65 10), .int (Int32.ofInt 2), .ref 65] (hp s) 0 0 _
            obtain ⟨q22, hq22, hf⟩ := bd_some hf
            refine Ev.callV (o := 65) (M' := mi_X10_fail) (d' := d - 1) (As := [.int (Int32.ofInt 2), .int (s.1 65 10)]) (rest := []) (r' := (none, hp q22)) (e_X10_fail (d := d - 1) (by omega) (Int32.ofInt 2) (s.1 65 10) s _ hq22) (by omega) wm_X10_fail wi_X10_fail wv_X10_fail km_10_308 (kc rfl rfl) (Nat.le_of_ble_eq_true rfl) rfl rfl rfl (Nat.le_of_ble_eq_true rfl) ⟨Nat.le_of_ble_eq_true rfl, Nat.le_of_ble_eq_true rfl⟩ (by decide +kernel) ?_
            show Ev l d mi_X10_manTold 154 [some (.ref 65), none, some (.long x2), none, none, none, some (.int x6), some (.int x7), some (.int x8)] [] (hp q22) 0 0 _
            refine Ev.blk (pc' := 157) [(.iinc 8 1, 0, 0, 0)] (by decide +kernel) trivial rfl (And.intro (Nat.le_of_ble_eq_true rfl) (?_))
            show Ev l d mi_X10_manTold 157 [some (.ref 65), none, some (.long x2), none, none, none, some (.int x6), some (.int x7), some (.int (x8 + Int32.ofInt 1))] [] (hp q22) 0 0 _
            refine Ev.goto (off := -64) (tgt := 93) (by decide +kernel) (by decide) ?_
            exact ih x2 x6 x7 (x8 + Int32.ofInt 1) q22 _ hf
def f_X10_manTold_j160 (x2 : Int64) (x6 : Int32) (x7 : Int32) (s : ST) : Option (ST) := (if (s.1 65 5) = 0 then (f_X10_adds (Int32.ofInt 1) x2 s).bind (fun q24 => gd (ib ((Int32.ofInt 2) * q24.1) 32) (gd (ib (((Int32.ofInt 2) * q24.1) + (Int32.ofInt 1)) 32) (gd (ib ((Int32.ofInt 2) * q24.1) 16) (gd (ib (((Int32.ofInt 2) * q24.1) + (Int32.ofInt 1)) 16) (lt (uI (uI (uI (uI q24.2 105 ((Int32.ofInt 2) * q24.1).toNatClampNeg x6) 105 (((Int32.ofInt 2) * q24.1) + (Int32.ofInt 1)).toNatClampNeg x7) 106 ((Int32.ofInt 2) * q24.1).toNatClampNeg ((uI (uI q24.2 105 ((Int32.ofInt 2) * q24.1).toNatClampNeg x6) 105 (((Int32.ofInt 2) * q24.1) + (Int32.ofInt 1)).toNatClampNeg x7).1 65 60)) 106 (((Int32.ofInt 2) * q24.1) + (Int32.ofInt 1)).toNatClampNeg ((uI (uI (uI q24.2 105 ((Int32.ofInt 2) * q24.1).toNatClampNeg x6) 105 (((Int32.ofInt 2) * q24.1) + (Int32.ofInt 1)).toNatClampNeg x7) 106 ((Int32.ofInt 2) * q24.1).toNatClampNeg ((uI (uI q24.2 105 ((Int32.ofInt 2) * q24.1).toNatClampNeg x6) 105 (((Int32.ofInt 2) * q24.1) + (Int32.ofInt 1)).toNatClampNeg x7).1 65 60)).1 65 61)) (fun s29 => some s29)))))) else some s)
set_option maxHeartbeats 2000000 in
set_option maxRecDepth 20000 in
theorem e_X10_manTold_j160 {l : Launch} {d : Nat} (hd : 6 ≤ d) (x2 : Int64) (x6 : Int32) (x7 : Int32) (s : ST) (r : ST) (hf : f_X10_manTold_j160 x2 x6 x7 s = some r) : Ev l d mi_X10_manTold 160 [some (.ref 65), none, some (.long x2), none, none, none, some (.int x6), some (.int x7), none] [] (hp s) 0 0 (none, hp r) := by
  unfold f_X10_manTold_j160 at hf
  refine Ev.blk (pc' := 164) [(.aload_n 0, 0, 0, 0), (.getfield 278, 0, 10, 5)] (by decide +kernel) ⟨kf_10_278, trivial⟩ rfl (And.intro (kc rfl rfl) (?_))
  show Ev l d mi_X10_manTold 164 [some (.ref 65), none, some (.long x2), none, none, none, some (.int x6), some (.int x7), none] [.int (s.1 65 5)] (hp s) 0 0 _
  refine Ev.if_eq (off := 4) (tgt := 168) (by decide +kernel) (by decide) (fun b23 => ?_) (fun b23 => ?_)
  · have hf := (if_pos b23).symm.trans hf
    refine Ev.blk (pc' := 172) [(.iconst 2, 0, 0, 0), (.aload_n 0, 0, 0, 0), (.iconst 1, 0, 0, 0), (.lload_n 2, 0, 0, 0)] (by decide +kernel) trivial rfl (?_)
    show Ev l d mi_X10_manTold 172 [some (.ref 65), none, some (.long x2), none, none, none, some (.int x6), some (.int x7), none] [.long x2, .int (Int32.ofInt 1), .ref 65, .int (Int32.ofInt 2)] (hp s) 0 0 _
    obtain ⟨q24, hq24, hf⟩ := bd_some hf
    refine Ev.callV (o := 65) (M' := mi_X10_adds) (d' := d - 1) (As := [.int (Int32.ofInt 1), .long x2]) (rest := [.int (Int32.ofInt 2)]) (r' := (some (.int q24.1), hp q24.2)) (e_X10_adds (d := d - 1) (by omega) (Int32.ofInt 1) x2 s _ hq24) (by omega) wm_X10_adds wi_X10_adds wv_X10_adds km_10_367 (kc rfl rfl) (Nat.le_of_ble_eq_true rfl) rfl rfl rfl (Nat.le_of_ble_eq_true rfl) ⟨Nat.le_of_ble_eq_true rfl, Nat.le_of_ble_eq_true rfl⟩ (by decide +kernel) ?_
    show Ev l d mi_X10_manTold 175 [some (.ref 65), none, some (.long x2), none, none, none, some (.int x6), some (.int x7), none] [.int q24.1, .int (Int32.ofInt 2)] (hp q24.2) 0 0 _
    obtain ⟨c25, hf⟩ := gd_some hf
    obtain ⟨c26, hf⟩ := gd_some hf
    obtain ⟨c27, hf⟩ := gd_some hf
    obtain ⟨c28, hf⟩ := gd_some hf
    obtain ⟨s29, hs29, hf⟩ := lt_some hf
    refine Ev.blk (pc' := 222) [(.imul, 0, 0, 0), (.istore 8, 0, 0, 0), (.aload_n 0, 0, 0, 0), (.getfield 133, 0, 10, 49), (.iload 8, 0, 0, 0), (.iload 6, 0, 0, 0), (.iastore, 0, 0, 0), (.aload_n 0, 0, 0, 0), (.getfield 133, 0, 10, 49), (.iload 8, 0, 0, 0), (.iconst 1, 0, 0, 0), (.iadd, 0, 0, 0), (.iload 7, 0, 0, 0), (.iastore, 0, 0, 0), (.aload_n 0, 0, 0, 0), (.getfield 136, 0, 10, 50), (.iload 8, 0, 0, 0), (.aload_n 0, 0, 0, 0), (.getfield 370, 0, 10, 60), (.iastore, 0, 0, 0), (.aload_n 0, 0, 0, 0), (.getfield 136, 0, 10, 50), (.iload 8, 0, 0, 0), (.iconst 1, 0, 0, 0), (.iadd, 0, 0, 0), (.aload_n 0, 0, 0, 0), (.getfield 373, 0, 10, 61), (.iastore, 0, 0, 0)] (by decide +kernel) ⟨kf_10_133, ⟨kf_10_133, ⟨kf_10_136, ⟨kf_10_370, ⟨kf_10_136, ⟨kf_10_373, trivial⟩⟩⟩⟩⟩⟩ rfl (And.intro (Nat.le_of_ble_eq_true rfl) (And.intro (kc rfl rfl) (Exists.intro 105 (And.intro rfl (And.intro (kc rfl rfl) (And.intro (ib_ok c25) (And.intro (kc rfl rfl) (Exists.intro 105 (And.intro rfl (And.intro (kc rfl rfl) (And.intro (ib_ok c26) (And.intro (kc rfl rfl) (Exists.intro 106 (And.intro rfl (And.intro (kc rfl rfl) (And.intro (kc rfl rfl) (And.intro (ib_ok c27) (And.intro (kc rfl rfl) (Exists.intro 106 (And.intro rfl (And.intro (kc rfl rfl) (And.intro (kc rfl rfl) (And.intro (ib_ok c28) (?_))))))))))))))))))))))))
    show Ev l d mi_X10_manTold 222 [some (.ref 65), none, some (.long x2), none, none, none, some (.int x6), some (.int x7), some (.int ((Int32.ofInt 2) * q24.1))] [] (hp (uI (uI (uI (uI q24.2 105 ((Int32.ofInt 2) * q24.1).toNatClampNeg x6) 105 (((Int32.ofInt 2) * q24.1) + (Int32.ofInt 1)).toNatClampNeg x7) 106 ((Int32.ofInt 2) * q24.1).toNatClampNeg ((uI (uI q24.2 105 ((Int32.ofInt 2) * q24.1).toNatClampNeg x6) 105 (((Int32.ofInt 2) * q24.1) + (Int32.ofInt 1)).toNatClampNeg x7).1 65 60)) 106 (((Int32.ofInt 2) * q24.1) + (Int32.ofInt 1)).toNatClampNeg ((uI (uI (uI q24.2 105 ((Int32.ofInt 2) * q24.1).toNatClampNeg x6) 105 (((Int32.ofInt 2) * q24.1) + (Int32.ofInt 1)).toNatClampNeg x7) 106 ((Int32.ofInt 2) * q24.1).toNatClampNeg ((uI (uI q24.2 105 ((Int32.ofInt 2) * q24.1).toNatClampNeg x6) 105 (((Int32.ofInt 2) * q24.1) + (Int32.ofInt 1)).toNatClampNeg x7).1 65 60)).1 65 61))) 0 0 _
    rw [← hs29]
    cases hf
    exact Ev.vret rfl (by decide +kernel) (Nat.le_refl _) (Nat.le_refl _)
  · have hf := (if_neg b23).symm.trans hf
    cases hf
    exact Ev.vret rfl (by decide +kernel) (Nat.le_refl _) (Nat.le_refl _)
def f_X10_manTold_j62 (x2 : Int64) (x6 : Int32) (s : ST) : Option (ST) := (f_X10_asks 79 s).bind (fun q10 => (f_X10_number (Int32.ofInt 0) (Int32.ofInt 1) q10).bind (fun q11 => (f_X10_asks 80 q11.2).bind (fun q12 => (f_X10_placeTold q12).bind (fun q13 => (f_X10_manTold_L93 f_X10_manTold_j160 fuel) x2 x6 q11.1 (Int32.ofInt 0) q13))))
set_option maxHeartbeats 2000000 in
set_option maxRecDepth 20000 in
theorem e_X10_manTold_j62 {l : Launch} {d : Nat} (hd : 6 ≤ d) (x2 : Int64) (x6 : Int32) (s : ST) (r : ST) (hf : f_X10_manTold_j62 x2 x6 s = some r) : Ev l d mi_X10_manTold 62 [some (.ref 65), none, some (.long x2), none, none, none, some (.int x6), none, none] [] (hp s) 0 0 (none, hp r) := by
  unfold f_X10_manTold_j62 at hf
  refine Ev.blk (pc' := 67) [(.aload_n 0, 0, 0, 0), (.aload_n 0, 0, 0, 0), (.getfield 54, 0, 10, 22)] (by decide +kernel) ⟨kf_10_54, trivial⟩ rfl (And.intro (kc rfl rfl) (Exists.intro 79 (And.intro rfl (?_))))
  show Ev l d mi_X10_manTold 67 [some (.ref 65), none, some (.long x2), none, none, none, some (.int x6), none, none] [.ref 79, .ref 65] (hp s) 0 0 _
  obtain ⟨q10, hq10, hf⟩ := bd_some hf
  refine Ev.callV (o := 65) (M' := mi_X10_asks) (d' := d - 1) (As := [.ref 79]) (rest := []) (r' := (none, hp q10)) (e_X10_asks (d := d - 1) (by omega) 79 s _ hq10) (by omega) wm_X10_asks wi_X10_asks wv_X10_asks km_10_348 (kc rfl rfl) (Nat.le_of_ble_eq_true rfl) rfl rfl rfl (Nat.le_of_ble_eq_true rfl) ⟨Nat.le_of_ble_eq_true rfl, Nat.le_of_ble_eq_true rfl⟩ (by decide +kernel) ?_
  show Ev l d mi_X10_manTold 70 [some (.ref 65), none, some (.long x2), none, none, none, some (.int x6), none, none] [] (hp q10) 0 0 _
  refine Ev.blk (pc' := 73) [(.aload_n 0, 0, 0, 0), (.iconst 0, 0, 0, 0), (.iconst 1, 0, 0, 0)] (by decide +kernel) trivial rfl (?_)
  show Ev l d mi_X10_manTold 73 [some (.ref 65), none, some (.long x2), none, none, none, some (.int x6), none, none] [.int (Int32.ofInt 1), .int (Int32.ofInt 0), .ref 65] (hp q10) 0 0 _
  obtain ⟨q11, hq11, hf⟩ := bd_some hf
  refine Ev.callV (o := 65) (M' := mi_X10_number) (d' := d - 1) (As := [.int (Int32.ofInt 0), .int (Int32.ofInt 1)]) (rest := []) (r' := (some (.int q11.1), hp q11.2)) (e_X10_number (d := d - 1) (by omega) (Int32.ofInt 0) (Int32.ofInt 1) q10 _ hq11) (by omega) wm_X10_number wi_X10_number wv_X10_number km_10_352 (kc rfl rfl) (Nat.le_of_ble_eq_true rfl) rfl rfl rfl (Nat.le_of_ble_eq_true rfl) ⟨Nat.le_of_ble_eq_true rfl, Nat.le_of_ble_eq_true rfl⟩ (by decide +kernel) ?_
  show Ev l d mi_X10_manTold 76 [some (.ref 65), none, some (.long x2), none, none, none, some (.int x6), none, none] [.int q11.1] (hp q11.2) 0 0 _
  refine Ev.blk (pc' := 83) [(.istore 7, 0, 0, 0), (.aload_n 0, 0, 0, 0), (.aload_n 0, 0, 0, 0), (.getfield 57, 0, 10, 23)] (by decide +kernel) ⟨kf_10_57, trivial⟩ rfl (And.intro (Nat.le_of_ble_eq_true rfl) (And.intro (kc rfl rfl) (Exists.intro 80 (And.intro rfl (?_)))))
  show Ev l d mi_X10_manTold 83 [some (.ref 65), none, some (.long x2), none, none, none, some (.int x6), some (.int q11.1), none] [.ref 80, .ref 65] (hp q11.2) 0 0 _
  obtain ⟨q12, hq12, hf⟩ := bd_some hf
  refine Ev.callV (o := 65) (M' := mi_X10_asks) (d' := d - 1) (As := [.ref 80]) (rest := []) (r' := (none, hp q12)) (e_X10_asks (d := d - 1) (by omega) 80 q11.2 _ hq12) (by omega) wm_X10_asks wi_X10_asks wv_X10_asks km_10_348 (kc rfl rfl) (Nat.le_of_ble_eq_true rfl) rfl rfl rfl (Nat.le_of_ble_eq_true rfl) ⟨Nat.le_of_ble_eq_true rfl, Nat.le_of_ble_eq_true rfl⟩ (by decide +kernel) ?_
  show Ev l d mi_X10_manTold 86 [some (.ref 65), none, some (.long x2), none, none, none, some (.int x6), some (.int q11.1), none] [] (hp q12) 0 0 _
  refine Ev.blk (pc' := 87) [(.aload_n 0, 0, 0, 0)] (by decide +kernel) trivial rfl (?_)
  show Ev l d mi_X10_manTold 87 [some (.ref 65), none, some (.long x2), none, none, none, some (.int x6), some (.int q11.1), none] [.ref 65] (hp q12) 0 0 _
  obtain ⟨q13, hq13, hf⟩ := bd_some hf
  refine Ev.callV (o := 65) (M' := mi_X10_placeTold) (d' := d - 1) (As := []) (rest := []) (r' := (none, hp q13)) (e_X10_placeTold (d := d - 1) (by omega) q12 _ hq13) (by omega) wm_X10_placeTold wi_X10_placeTold wv_X10_placeTold km_10_376 (kc rfl rfl) (Nat.le_of_ble_eq_true rfl) rfl rfl rfl (Nat.le_of_ble_eq_true rfl) ⟨Nat.le_of_ble_eq_true rfl, Nat.le_of_ble_eq_true rfl⟩ (by decide +kernel) ?_
  show Ev l d mi_X10_manTold 90 [some (.ref 65), none, some (.long x2), none, none, none, some (.int x6), some (.int q11.1), none] [] (hp q13) 0 0 _
  refine Ev.blk (pc' := 93) [(.iconst 0, 0, 0, 0), (.istore 8, 0, 0, 0)] (by decide +kernel) trivial rfl (And.intro (Nat.le_of_ble_eq_true rfl) (?_))
  show Ev l d mi_X10_manTold 93 [some (.ref 65), none, some (.long x2), none, none, none, some (.int x6), some (.int q11.1), some (.int (Int32.ofInt 0))] [] (hp q13) 0 0 _
  exact (e_X10_manTold_L93 hd f_X10_manTold_j160 (e_X10_manTold_j160 hd) fuel) x2 x6 q11.1 (Int32.ofInt 0) q13 _ hf
def f_X10_manTold (p0 : Int32) (s : ST) : Option (ST) := (f_X10_isFull (Int32.ofInt 1) ((Int8.ofInt 8).toInt32) p0 s).bind (fun q1 => (if q1.1 = 0 then (f_X10_newName q1.2).bind (fun q3 => (f_X10_asks 78 q3.2).bind (fun q4 => (f_X10_name q4).bind (fun q5 => (f_X10_nameOf (Int32.ofInt 0) q5.1 q5.2).bind (fun q6 => (if (q6.2.1 65 5) = 0 then (if q6.1 = (Int32.ofInt (-1)) then (f_X10_fail (Int32.ofInt 3) (q6.2.1 65 44) q6.2).bind (fun q9 => f_X10_manTold_j62 q3.1 q6.1 q9) else f_X10_manTold_j62 q3.1 q6.1 q6.2) else f_X10_manTold_j62 q3.1 q6.1 q6.2))))) else some q1.2))
set_option maxHeartbeats 2000000 in
set_option maxRecDepth 20000 in
theorem e_X10_manTold {l : Launch} {d : Nat} (hd : 6 ≤ d) (p0 : Int32) (s : ST) (r : ST) (hf : f_X10_manTold p0 s = some r) : Cl l d mi_X10_manTold [.ref 65, .int p0] (hp s) (none, hp r) := by
  refine Ev.entry (by decide +kernel) rfl rfl ?_
  show Ev l d mi_X10_manTold 0 [some (.ref 65), some (.int p0), none, none, none, none, none, none, none] [] (hp s) 0 0 _
  unfold f_X10_manTold at hf
  refine Ev.blk (pc' := 5) [(.aload_n 0, 0, 0, 0), (.iconst 1, 0, 0, 0), (.bipush 8, 0, 0, 0), (.iload_n 1, 0, 0, 0)] (by decide +kernel) trivial rfl (?_)
  show Ev l d mi_X10_manTold 5 [some (.ref 65), some (.int p0), none, none, none, none, none, none, none] [.int p0, .int ((Int8.ofInt 8).toInt32), .int (Int32.ofInt 1), .ref 65] (hp s) 0 0 _
  obtain ⟨q1, hq1, hf⟩ := bd_some hf
  refine Ev.callV (o := 65) (M' := mi_X10_isFull) (d' := d - 1) (As := [.int (Int32.ofInt 1), .int ((Int8.ofInt 8).toInt32), .int p0]) (rest := []) (r' := (some (.int q1.1), hp q1.2)) (e_X10_isFull (d := d - 1) (by omega) (Int32.ofInt 1) ((Int8.ofInt 8).toInt32) p0 s _ hq1) (by omega) wm_X10_isFull wi_X10_isFull wv_X10_isFull km_10_360 (kc rfl rfl) (Nat.le_of_ble_eq_true rfl) rfl rfl rfl (Nat.le_of_ble_eq_true rfl) ⟨Nat.le_of_ble_eq_true rfl, Nat.le_of_ble_eq_true rfl⟩ (by decide +kernel) ?_
  show Ev l d mi_X10_manTold 8 [some (.ref 65), some (.int p0), none, none, none, none, none, none, none] [.int q1.1] (hp q1.2) 0 0 _
  refine Ev.if_eq (off := 4) (tgt := 12) (by decide +kernel) (by decide) (fun b2 => ?_) (fun b2 => ?_)
  · have hf := (if_pos b2).symm.trans hf
    refine Ev.blk (pc' := 13) [(.aload_n 0, 0, 0, 0)] (by decide +kernel) trivial rfl (?_)
    show Ev l d mi_X10_manTold 13 [some (.ref 65), some (.int p0), none, none, none, none, none, none, none] [.ref 65] (hp q1.2) 0 0 _
    obtain ⟨q3, hq3, hf⟩ := bd_some hf
    refine Ev.callV (o := 65) (M' := mi_X10_newName) (d' := d - 1) (As := []) (rest := []) (r' := (some (.long q3.1), hp q3.2)) (e_X10_newName (d := d - 1) (by omega) q1.2 _ hq3) (by omega) wm_X10_newName wi_X10_newName wv_X10_newName km_10_364 (kc rfl rfl) (Nat.le_of_ble_eq_true rfl) rfl rfl rfl (Nat.le_of_ble_eq_true rfl) ⟨Nat.le_of_ble_eq_true rfl, Nat.le_of_ble_eq_true rfl⟩ (by decide +kernel) ?_
    show Ev l d mi_X10_manTold 16 [some (.ref 65), some (.int p0), none, none, none, none, none, none, none] [.long q3.1] (hp q3.2) 0 0 _
    refine Ev.blk (pc' := 22) [(.lstore_n 2, 0, 0, 0), (.aload_n 0, 0, 0, 0), (.aload_n 0, 0, 0, 0), (.getfield 51, 0, 10, 21)] (by decide +kernel) ⟨kf_10_51, trivial⟩ rfl (And.intro (Nat.le_of_ble_eq_true rfl) (And.intro (kc rfl rfl) (Exists.intro 78 (And.intro rfl (?_)))))
    show Ev l d mi_X10_manTold 22 [some (.ref 65), some (.int p0), some (.long q3.1), none, none, none, none, none, none] [.ref 78, .ref 65] (hp q3.2) 0 0 _
    obtain ⟨q4, hq4, hf⟩ := bd_some hf
    refine Ev.callV (o := 65) (M' := mi_X10_asks) (d' := d - 1) (As := [.ref 78]) (rest := []) (r' := (none, hp q4)) (e_X10_asks (d := d - 1) (by omega) 78 q3.2 _ hq4) (by omega) wm_X10_asks wi_X10_asks wv_X10_asks km_10_348 (kc rfl rfl) (Nat.le_of_ble_eq_true rfl) rfl rfl rfl (Nat.le_of_ble_eq_true rfl) ⟨Nat.le_of_ble_eq_true rfl, Nat.le_of_ble_eq_true rfl⟩ (by decide +kernel) ?_
    show Ev l d mi_X10_manTold 25 [some (.ref 65), some (.int p0), some (.long q3.1), none, none, none, none, none, none] [] (hp q4) 0 0 _
    refine Ev.blk (pc' := 26) [(.aload_n 0, 0, 0, 0)] (by decide +kernel) trivial rfl (?_)
    show Ev l d mi_X10_manTold 26 [some (.ref 65), some (.int p0), some (.long q3.1), none, none, none, none, none, none] [.ref 65] (hp q4) 0 0 _
    obtain ⟨q5, hq5, hf⟩ := bd_some hf
    refine Ev.callV (o := 65) (M' := mi_X10_name) (d' := d - 1) (As := []) (rest := []) (r' := (some (.long q5.1), hp q5.2)) (e_X10_name (d := d - 1) (by omega) q4 _ hq5) (by omega) wm_X10_name wi_X10_name wv_X10_name km_10_340 (kc rfl rfl) (Nat.le_of_ble_eq_true rfl) rfl rfl rfl (Nat.le_of_ble_eq_true rfl) ⟨Nat.le_of_ble_eq_true rfl, Nat.le_of_ble_eq_true rfl⟩ (by decide +kernel) ?_
    show Ev l d mi_X10_manTold 29 [some (.ref 65), some (.int p0), some (.long q3.1), none, none, none, none, none, none] [.long q5.1] (hp q5.2) 0 0 _
    refine Ev.blk (pc' := 35) [(.lstore 4, 0, 0, 0), (.aload_n 0, 0, 0, 0), (.iconst 0, 0, 0, 0), (.lload 4, 0, 0, 0)] (by decide +kernel) trivial rfl (And.intro (Nat.le_of_ble_eq_true rfl) (?_))
    show Ev l d mi_X10_manTold 35 [some (.ref 65), some (.int p0), some (.long q3.1), none, some (.long q5.1), none, none, none, none] [.long q5.1, .int (Int32.ofInt 0), .ref 65] (hp q5.2) 0 0 _
    obtain ⟨q6, hq6, hf⟩ := bd_some hf
    refine Ev.callV (o := 65) (M' := mi_X10_nameOf) (d' := d - 1) (As := [.int (Int32.ofInt 0), .long q5.1]) (rest := []) (r' := (some (.int q6.1), hp q6.2)) (e_X10_nameOf (d := d - 1) (by omega) (Int32.ofInt 0) q5.1 q5.2 _ hq6) (by omega) wm_X10_nameOf wi_X10_nameOf wv_X10_nameOf km_10_344 (kc rfl rfl) (Nat.le_of_ble_eq_true rfl) rfl rfl rfl (Nat.le_of_ble_eq_true rfl) ⟨Nat.le_of_ble_eq_true rfl, Nat.le_of_ble_eq_true rfl⟩ (by decide +kernel) ?_
    show Ev l d mi_X10_manTold 38 [some (.ref 65), some (.int p0), some (.long q3.1), none, some (.long q5.1), none, none, none, none] [.int q6.1] (hp q6.2) 0 0 _
    refine Ev.blk (pc' := 44) [(.istore 6, 0, 0, 0), (.aload_n 0, 0, 0, 0), (.getfield 278, 0, 10, 5)] (by decide +kernel) ⟨kf_10_278, trivial⟩ rfl (And.intro (Nat.le_of_ble_eq_true rfl) (And.intro (kc rfl rfl) (?_)))
    show Ev l d mi_X10_manTold 44 [some (.ref 65), some (.int p0), some (.long q3.1), none, some (.long q5.1), none, some (.int q6.1), none, none] [.int (q6.2.1 65 5)] (hp q6.2) 0 0 _
    refine Ev.if_ne (off := 18) (tgt := 62) (by decide +kernel) (by decide) (fun b7 => ?_) (fun b7 => ?_)
    · have hf := (if_neg b7).symm.trans hf
      exact Ev.wk ((e_X10_manTold_j62 hd) q3.1 q6.1 q6.2 _ hf) (And.intro (Or.inr rfl) (And.intro (Or.inl rfl) (And.intro (Or.inr rfl) (And.intro (Or.inr rfl) (And.intro (Or.inl rfl) (And.intro (Or.inr rfl) (And.intro (Or.inr rfl) (And.intro (Or.inr rfl) (And.intro (Or.inr rfl) (trivial))))))))))
    · have hf := (if_pos b7).symm.trans hf
      refine Ev.blk (pc' := 50) [(.iload 6, 0, 0, 0), (.iconst (-1), 0, 0, 0)] (by decide +kernel) trivial rfl (?_)
      show Ev l d mi_X10_manTold 50 [some (.ref 65), some (.int p0), some (.long q3.1), none, some (.long q5.1), none, some (.int q6.1), none, none] [.int (Int32.ofInt (-1)), .int q6.1] (hp q6.2) 0 0 _
      refine Ev.icmp_ne (off := 12) (tgt := 62) (by decide +kernel) (by decide) (fun b8 => ?_) (fun b8 => ?_)
      · have hf := (if_neg b8).symm.trans hf
        exact Ev.wk ((e_X10_manTold_j62 hd) q3.1 q6.1 q6.2 _ hf) (And.intro (Or.inr rfl) (And.intro (Or.inl rfl) (And.intro (Or.inr rfl) (And.intro (Or.inr rfl) (And.intro (Or.inl rfl) (And.intro (Or.inr rfl) (And.intro (Or.inr rfl) (And.intro (Or.inr rfl) (And.intro (Or.inr rfl) (trivial))))))))))
      · have hf := (if_pos b8).symm.trans hf
        refine Ev.blk (pc' := 59) [(.aload_n 0, 0, 0, 0), (.iconst 3, 0, 0, 0), (.aload_n 0, 0, 0, 0), (.getfield 329, 0, 10, 44)] (by decide +kernel) ⟨kf_10_329, trivial⟩ rfl (And.intro (kc rfl rfl) (?_))
        show Ev l d mi_X10_manTold 59 [some (.ref 65), some (.int p0), some (.long q3.1), none, some (.long q5.1), none, some (.int q6.1), none, none] [.int (q6.2.1 65 44), .int (Int32.ofInt 3), .ref 65] (hp q6.2) 0 0 _
        obtain ⟨q9, hq9, hf⟩ := bd_some hf
        refine Ev.callV (o := 65) (M' := mi_X10_fail) (d' := d - 1) (As := [.int (Int32.ofInt 3), .int (q6.2.1 65 44)]) (rest := []) (r' := (none, hp q9)) (e_X10_fail (d := d - 1) (by omega) (Int32.ofInt 3) (q6.2.1 65 44) q6.2 _ hq9) (by omega) wm_X10_fail wi_X10_fail wv_X10_fail km_10_308 (kc rfl rfl) (Nat.le_of_ble_eq_true rfl) rfl rfl rfl (Nat.le_of_ble_eq_true rfl) ⟨Nat.le_of_ble_eq_true rfl, Nat.le_of_ble_eq_true rfl⟩ (by decide +kernel) ?_
        show Ev l d mi_X10_manTold 62 [some (.ref 65), some (.int p0), some (.long q3.1), none, some (.long q5.1), none, some (.int q6.1), none, none] [] (hp q9) 0 0 _
        exact Ev.wk ((e_X10_manTold_j62 hd) q3.1 q6.1 q9 _ hf) (And.intro (Or.inr rfl) (And.intro (Or.inl rfl) (And.intro (Or.inr rfl) (And.intro (Or.inr rfl) (And.intro (Or.inl rfl) (And.intro (Or.inr rfl) (And.intro (Or.inr rfl) (And.intro (Or.inr rfl) (And.intro (Or.inr rfl) (trivial))))))))))
  · have hf := (if_neg b2).symm.trans hf
    cases hf
    exact Ev.vret rfl (by decide +kernel) (Nat.le_refl _) (Nat.le_refl _)
def f_X10_fieldTold (p0 : Int32) (s : ST) : Option (ST) := (f_X10_isFull (Int32.ofInt 2) ((Int8.ofInt 6).toInt32) p0 s).bind (fun q1 => (if q1.1 = 0 then (f_X10_newName q1.2).bind (fun q3 => (f_X10_asks 80 q3.2).bind (fun q4 => (f_X10_placeTold q4).bind (fun q5 => (f_X10_asks 82 q5).bind (fun q6 => (f_X10_number (Int32.ofInt 1) ((Int16.ofInt 999).toInt32) q6).bind (fun q7 => (if (q7.2.1 65 5) = 0 then (f_X10_adds (Int32.ofInt 2) q3.1 q7.2).bind (fun q9 => gd (ib ((Int32.ofInt 3) * q9.1) 36) (gd (ib (((Int32.ofInt 3) * q9.1) + (Int32.ofInt 1)) 36) (gd (ib (((Int32.ofInt 3) * q9.1) + (Int32.ofInt 2)) 36) (lt (uI (uI (uI q9.2 107 ((Int32.ofInt 3) * q9.1).toNatClampNeg (q9.2.1 65 60)) 107 (((Int32.ofInt 3) * q9.1) + (Int32.ofInt 1)).toNatClampNeg ((uI q9.2 107 ((Int32.ofInt 3) * q9.1).toNatClampNeg (q9.2.1 65 60)).1 65 61)) 107 (((Int32.ofInt 3) * q9.1) + (Int32.ofInt 2)).toNatClampNeg q7.1) (fun s13 => some s13))))) else some q7.2)))))) else some q1.2))
set_option maxHeartbeats 2000000 in
set_option maxRecDepth 20000 in
theorem e_X10_fieldTold {l : Launch} {d : Nat} (hd : 6 ≤ d) (p0 : Int32) (s : ST) (r : ST) (hf : f_X10_fieldTold p0 s = some r) : Cl l d mi_X10_fieldTold [.ref 65, .int p0] (hp s) (none, hp r) := by
  refine Ev.entry (by decide +kernel) rfl rfl ?_
  show Ev l d mi_X10_fieldTold 0 [some (.ref 65), some (.int p0), none, none, none, none] [] (hp s) 0 0 _
  unfold f_X10_fieldTold at hf
  refine Ev.blk (pc' := 5) [(.aload_n 0, 0, 0, 0), (.iconst 2, 0, 0, 0), (.bipush 6, 0, 0, 0), (.iload_n 1, 0, 0, 0)] (by decide +kernel) trivial rfl (?_)
  show Ev l d mi_X10_fieldTold 5 [some (.ref 65), some (.int p0), none, none, none, none] [.int p0, .int ((Int8.ofInt 6).toInt32), .int (Int32.ofInt 2), .ref 65] (hp s) 0 0 _
  obtain ⟨q1, hq1, hf⟩ := bd_some hf
  refine Ev.callV (o := 65) (M' := mi_X10_isFull) (d' := d - 1) (As := [.int (Int32.ofInt 2), .int ((Int8.ofInt 6).toInt32), .int p0]) (rest := []) (r' := (some (.int q1.1), hp q1.2)) (e_X10_isFull (d := d - 1) (by omega) (Int32.ofInt 2) ((Int8.ofInt 6).toInt32) p0 s _ hq1) (by omega) wm_X10_isFull wi_X10_isFull wv_X10_isFull km_10_360 (kc rfl rfl) (Nat.le_of_ble_eq_true rfl) rfl rfl rfl (Nat.le_of_ble_eq_true rfl) ⟨Nat.le_of_ble_eq_true rfl, Nat.le_of_ble_eq_true rfl⟩ (by decide +kernel) ?_
  show Ev l d mi_X10_fieldTold 8 [some (.ref 65), some (.int p0), none, none, none, none] [.int q1.1] (hp q1.2) 0 0 _
  refine Ev.if_eq (off := 4) (tgt := 12) (by decide +kernel) (by decide) (fun b2 => ?_) (fun b2 => ?_)
  · have hf := (if_pos b2).symm.trans hf
    refine Ev.blk (pc' := 13) [(.aload_n 0, 0, 0, 0)] (by decide +kernel) trivial rfl (?_)
    show Ev l d mi_X10_fieldTold 13 [some (.ref 65), some (.int p0), none, none, none, none] [.ref 65] (hp q1.2) 0 0 _
    obtain ⟨q3, hq3, hf⟩ := bd_some hf
    refine Ev.callV (o := 65) (M' := mi_X10_newName) (d' := d - 1) (As := []) (rest := []) (r' := (some (.long q3.1), hp q3.2)) (e_X10_newName (d := d - 1) (by omega) q1.2 _ hq3) (by omega) wm_X10_newName wi_X10_newName wv_X10_newName km_10_364 (kc rfl rfl) (Nat.le_of_ble_eq_true rfl) rfl rfl rfl (Nat.le_of_ble_eq_true rfl) ⟨Nat.le_of_ble_eq_true rfl, Nat.le_of_ble_eq_true rfl⟩ (by decide +kernel) ?_
    show Ev l d mi_X10_fieldTold 16 [some (.ref 65), some (.int p0), none, none, none, none] [.long q3.1] (hp q3.2) 0 0 _
    refine Ev.blk (pc' := 22) [(.lstore_n 2, 0, 0, 0), (.aload_n 0, 0, 0, 0), (.aload_n 0, 0, 0, 0), (.getfield 57, 0, 10, 23)] (by decide +kernel) ⟨kf_10_57, trivial⟩ rfl (And.intro (Nat.le_of_ble_eq_true rfl) (And.intro (kc rfl rfl) (Exists.intro 80 (And.intro rfl (?_)))))
    show Ev l d mi_X10_fieldTold 22 [some (.ref 65), some (.int p0), some (.long q3.1), none, none, none] [.ref 80, .ref 65] (hp q3.2) 0 0 _
    obtain ⟨q4, hq4, hf⟩ := bd_some hf
    refine Ev.callV (o := 65) (M' := mi_X10_asks) (d' := d - 1) (As := [.ref 80]) (rest := []) (r' := (none, hp q4)) (e_X10_asks (d := d - 1) (by omega) 80 q3.2 _ hq4) (by omega) wm_X10_asks wi_X10_asks wv_X10_asks km_10_348 (kc rfl rfl) (Nat.le_of_ble_eq_true rfl) rfl rfl rfl (Nat.le_of_ble_eq_true rfl) ⟨Nat.le_of_ble_eq_true rfl, Nat.le_of_ble_eq_true rfl⟩ (by decide +kernel) ?_
    show Ev l d mi_X10_fieldTold 25 [some (.ref 65), some (.int p0), some (.long q3.1), none, none, none] [] (hp q4) 0 0 _
    refine Ev.blk (pc' := 26) [(.aload_n 0, 0, 0, 0)] (by decide +kernel) trivial rfl (?_)
    show Ev l d mi_X10_fieldTold 26 [some (.ref 65), some (.int p0), some (.long q3.1), none, none, none] [.ref 65] (hp q4) 0 0 _
    obtain ⟨q5, hq5, hf⟩ := bd_some hf
    refine Ev.callV (o := 65) (M' := mi_X10_placeTold) (d' := d - 1) (As := []) (rest := []) (r' := (none, hp q5)) (e_X10_placeTold (d := d - 1) (by omega) q4 _ hq5) (by omega) wm_X10_placeTold wi_X10_placeTold wv_X10_placeTold km_10_376 (kc rfl rfl) (Nat.le_of_ble_eq_true rfl) rfl rfl rfl (Nat.le_of_ble_eq_true rfl) ⟨Nat.le_of_ble_eq_true rfl, Nat.le_of_ble_eq_true rfl⟩ (by decide +kernel) ?_
    show Ev l d mi_X10_fieldTold 29 [some (.ref 65), some (.int p0), some (.long q3.1), none, none, none] [] (hp q5) 0 0 _
    refine Ev.blk (pc' := 34) [(.aload_n 0, 0, 0, 0), (.aload_n 0, 0, 0, 0), (.getfield 63, 0, 10, 25)] (by decide +kernel) ⟨kf_10_63, trivial⟩ rfl (And.intro (kc rfl rfl) (Exists.intro 82 (And.intro rfl (?_))))
    show Ev l d mi_X10_fieldTold 34 [some (.ref 65), some (.int p0), some (.long q3.1), none, none, none] [.ref 82, .ref 65] (hp q5) 0 0 _
    obtain ⟨q6, hq6, hf⟩ := bd_some hf
    refine Ev.callV (o := 65) (M' := mi_X10_asks) (d' := d - 1) (As := [.ref 82]) (rest := []) (r' := (none, hp q6)) (e_X10_asks (d := d - 1) (by omega) 82 q5 _ hq6) (by omega) wm_X10_asks wi_X10_asks wv_X10_asks km_10_348 (kc rfl rfl) (Nat.le_of_ble_eq_true rfl) rfl rfl rfl (Nat.le_of_ble_eq_true rfl) ⟨Nat.le_of_ble_eq_true rfl, Nat.le_of_ble_eq_true rfl⟩ (by decide +kernel) ?_
    show Ev l d mi_X10_fieldTold 37 [some (.ref 65), some (.int p0), some (.long q3.1), none, none, none] [] (hp q6) 0 0 _
    refine Ev.blk (pc' := 42) [(.aload_n 0, 0, 0, 0), (.iconst 1, 0, 0, 0), (.sipush 999, 0, 0, 0)] (by decide +kernel) trivial rfl (?_)
    show Ev l d mi_X10_fieldTold 42 [some (.ref 65), some (.int p0), some (.long q3.1), none, none, none] [.int ((Int16.ofInt 999).toInt32), .int (Int32.ofInt 1), .ref 65] (hp q6) 0 0 _
    obtain ⟨q7, hq7, hf⟩ := bd_some hf
    refine Ev.callV (o := 65) (M' := mi_X10_number) (d' := d - 1) (As := [.int (Int32.ofInt 1), .int ((Int16.ofInt 999).toInt32)]) (rest := []) (r' := (some (.int q7.1), hp q7.2)) (e_X10_number (d := d - 1) (by omega) (Int32.ofInt 1) ((Int16.ofInt 999).toInt32) q6 _ hq7) (by omega) wm_X10_number wi_X10_number wv_X10_number km_10_352 (kc rfl rfl) (Nat.le_of_ble_eq_true rfl) rfl rfl rfl (Nat.le_of_ble_eq_true rfl) ⟨Nat.le_of_ble_eq_true rfl, Nat.le_of_ble_eq_true rfl⟩ (by decide +kernel) ?_
    show Ev l d mi_X10_fieldTold 45 [some (.ref 65), some (.int p0), some (.long q3.1), none, none, none] [.int q7.1] (hp q7.2) 0 0 _
    refine Ev.blk (pc' := 51) [(.istore 4, 0, 0, 0), (.aload_n 0, 0, 0, 0), (.getfield 278, 0, 10, 5)] (by decide +kernel) ⟨kf_10_278, trivial⟩ rfl (And.intro (Nat.le_of_ble_eq_true rfl) (And.intro (kc rfl rfl) (?_)))
    show Ev l d mi_X10_fieldTold 51 [some (.ref 65), some (.int p0), some (.long q3.1), none, some (.int q7.1), none] [.int (q7.2.1 65 5)] (hp q7.2) 0 0 _
    refine Ev.if_eq (off := 4) (tgt := 55) (by decide +kernel) (by decide) (fun b8 => ?_) (fun b8 => ?_)
    · have hf := (if_pos b8).symm.trans hf
      refine Ev.blk (pc' := 59) [(.iconst 3, 0, 0, 0), (.aload_n 0, 0, 0, 0), (.iconst 2, 0, 0, 0), (.lload_n 2, 0, 0, 0)] (by decide +kernel) trivial rfl (?_)
      show Ev l d mi_X10_fieldTold 59 [some (.ref 65), some (.int p0), some (.long q3.1), none, some (.int q7.1), none] [.long q3.1, .int (Int32.ofInt 2), .ref 65, .int (Int32.ofInt 3)] (hp q7.2) 0 0 _
      obtain ⟨q9, hq9, hf⟩ := bd_some hf
      refine Ev.callV (o := 65) (M' := mi_X10_adds) (d' := d - 1) (As := [.int (Int32.ofInt 2), .long q3.1]) (rest := [.int (Int32.ofInt 3)]) (r' := (some (.int q9.1), hp q9.2)) (e_X10_adds (d := d - 1) (by omega) (Int32.ofInt 2) q3.1 q7.2 _ hq9) (by omega) wm_X10_adds wi_X10_adds wv_X10_adds km_10_367 (kc rfl rfl) (Nat.le_of_ble_eq_true rfl) rfl rfl rfl (Nat.le_of_ble_eq_true rfl) ⟨Nat.le_of_ble_eq_true rfl, Nat.le_of_ble_eq_true rfl⟩ (by decide +kernel) ?_
      show Ev l d mi_X10_fieldTold 62 [some (.ref 65), some (.int p0), some (.long q3.1), none, some (.int q7.1), none] [.int q9.1, .int (Int32.ofInt 3)] (hp q9.2) 0 0 _
      obtain ⟨c10, hf⟩ := gd_some hf
      obtain ⟨c11, hf⟩ := gd_some hf
      obtain ⟨c12, hf⟩ := gd_some hf
      obtain ⟨s13, hs13, hf⟩ := lt_some hf
      refine Ev.blk (pc' := 100) [(.imul, 0, 0, 0), (.istore 5, 0, 0, 0), (.aload_n 0, 0, 0, 0), (.getfield 139, 0, 10, 51), (.iload 5, 0, 0, 0), (.aload_n 0, 0, 0, 0), (.getfield 370, 0, 10, 60), (.iastore, 0, 0, 0), (.aload_n 0, 0, 0, 0), (.getfield 139, 0, 10, 51), (.iload 5, 0, 0, 0), (.iconst 1, 0, 0, 0), (.iadd, 0, 0, 0), (.aload_n 0, 0, 0, 0), (.getfield 373, 0, 10, 61), (.iastore, 0, 0, 0), (.aload_n 0, 0, 0, 0), (.getfield 139, 0, 10, 51), (.iload 5, 0, 0, 0), (.iconst 2, 0, 0, 0), (.iadd, 0, 0, 0), (.iload 4, 0, 0, 0), (.iastore, 0, 0, 0)] (by decide +kernel) ⟨kf_10_139, ⟨kf_10_370, ⟨kf_10_139, ⟨kf_10_373, ⟨kf_10_139, trivial⟩⟩⟩⟩⟩ rfl (And.intro (Nat.le_of_ble_eq_true rfl) (And.intro (kc rfl rfl) (Exists.intro 107 (And.intro rfl (And.intro (kc rfl rfl) (And.intro (kc rfl rfl) (And.intro (ib_ok c10) (And.intro (kc rfl rfl) (Exists.intro 107 (And.intro rfl (And.intro (kc rfl rfl) (And.intro (kc rfl rfl) (And.intro (ib_ok c11) (And.intro (kc rfl rfl) (Exists.intro 107 (And.intro rfl (And.intro (kc rfl rfl) (And.intro (ib_ok c12) (?_)))))))))))))))))))
      show Ev l d mi_X10_fieldTold 100 [some (.ref 65), some (.int p0), some (.long q3.1), none, some (.int q7.1), some (.int ((Int32.ofInt 3) * q9.1))] [] (hp (uI (uI (uI q9.2 107 ((Int32.ofInt 3) * q9.1).toNatClampNeg (q9.2.1 65 60)) 107 (((Int32.ofInt 3) * q9.1) + (Int32.ofInt 1)).toNatClampNeg ((uI q9.2 107 ((Int32.ofInt 3) * q9.1).toNatClampNeg (q9.2.1 65 60)).1 65 61)) 107 (((Int32.ofInt 3) * q9.1) + (Int32.ofInt 2)).toNatClampNeg q7.1)) 0 0 _
      rw [← hs13]
      cases hf
      exact Ev.vret rfl (by decide +kernel) (Nat.le_refl _) (Nat.le_refl _)
    · have hf := (if_neg b8).symm.trans hf
      cases hf
      exact Ev.vret rfl (by decide +kernel) (Nat.le_refl _) (Nat.le_refl _)
  · have hf := (if_neg b2).symm.trans hf
    cases hf
    exact Ev.vret rfl (by decide +kernel) (Nat.le_refl _) (Nat.le_refl _)
def f_X10_qCode (p0 : Int32) (s : ST) : Option (ST) := gd (ib (s.1 65 111) 1700) (lt (uI (uI s 146 (s.1 65 111).toNatClampNeg p0) 65 111 (((uI s 146 (s.1 65 111).toNatClampNeg p0).1 65 111) + (Int32.ofInt 1))) (fun s2 => some s2))
set_option maxHeartbeats 2000000 in
set_option maxRecDepth 20000 in
theorem e_X10_qCode {l : Launch} {d : Nat} (hd : 1 ≤ d) (p0 : Int32) (s : ST) (r : ST) (hf : f_X10_qCode p0 s = some r) : Cl l d mi_X10_qCode [.ref 65, .int p0] (hp s) (none, hp r) := by
  refine Ev.entry (by decide +kernel) rfl rfl ?_
  show Ev l d mi_X10_qCode 0 [some (.ref 65), some (.int p0)] [] (hp s) 0 0 _
  unfold f_X10_qCode at hf
  obtain ⟨c1, hf⟩ := gd_some hf
  obtain ⟨s2, hs2, hf⟩ := lt_some hf
  refine Ev.blk (pc' := 20) [(.aload_n 0, 0, 0, 0), (.getfield 263, 0, 10, 110), (.aload_n 0, 0, 0, 0), (.getfield 379, 0, 10, 111), (.iload_n 1, 0, 0, 0), (.iastore, 0, 0, 0), (.aload_n 0, 0, 0, 0), (.dup, 0, 0, 0), (.getfield 379, 0, 10, 111), (.iconst 1, 0, 0, 0), (.iadd, 0, 0, 0), (.putfield 379, 0, 10, 111)] (by decide +kernel) ⟨kf_10_263, ⟨kf_10_379, ⟨kf_10_379, ⟨⟨kf_10_379, Or.inl rfl⟩, trivial⟩⟩⟩⟩ rfl (And.intro (kc rfl rfl) (Exists.intro 146 (And.intro rfl (And.intro (kc rfl rfl) (And.intro (kc rfl rfl) (And.intro (ib_ok c1) (And.intro rfl (And.intro (kc rfl rfl) (And.intro (kc rfl rfl) (?_))))))))))
  show Ev l d mi_X10_qCode 20 [some (.ref 65), some (.int p0)] [] (hp (uI (uI s 146 (s.1 65 111).toNatClampNeg p0) 65 111 (((uI s 146 (s.1 65 111).toNatClampNeg p0).1 65 111) + (Int32.ofInt 1)))) 0 0 _
  rw [← hs2]
  cases hf
  exact Ev.vret rfl (by decide +kernel) (Nat.le_refl _) (Nat.le_refl _)
def f_X10_qDrops (s : ST) : Option (ST) := gd (ib ((uI s 65 113 ((s.1 65 113) - (Int32.ofInt 1))).1 65 113) 1700) (lt (uI s 65 113 ((s.1 65 113) - (Int32.ofInt 1))) (fun s2 => (f_X10_qCode (s2.1 147 (s2.1 65 113).toNatClampNeg) s2).bind (fun q3 => some q3)))
set_option maxHeartbeats 2000000 in
set_option maxRecDepth 20000 in
theorem e_X10_qDrops {l : Launch} {d : Nat} (hd : 2 ≤ d) (s : ST) (r : ST) (hf : f_X10_qDrops s = some r) : Cl l d mi_X10_qDrops [.ref 65] (hp s) (none, hp r) := by
  refine Ev.entry (by decide +kernel) rfl rfl ?_
  show Ev l d mi_X10_qDrops 0 [some (.ref 65)] [] (hp s) 0 0 _
  unfold f_X10_qDrops at hf
  obtain ⟨c1, hf⟩ := gd_some hf
  obtain ⟨s2, hs2, hf⟩ := lt_some hf
  refine Ev.blk (pc' := 20) [(.aload_n 0, 0, 0, 0), (.dup, 0, 0, 0), (.getfield 382, 0, 10, 113), (.iconst 1, 0, 0, 0), (.isub, 0, 0, 0), (.putfield 382, 0, 10, 113), (.aload_n 0, 0, 0, 0), (.aload_n 0, 0, 0, 0), (.getfield 266, 0, 10, 112), (.aload_n 0, 0, 0, 0), (.getfield 382, 0, 10, 113), (.iaload, 0, 0, 0)] (by decide +kernel) ⟨kf_10_382, ⟨⟨kf_10_382, Or.inl rfl⟩, ⟨kf_10_266, ⟨kf_10_382, trivial⟩⟩⟩⟩ rfl (And.intro rfl (And.intro (kc rfl rfl) (And.intro (kc rfl rfl) (And.intro (kc rfl rfl) (Exists.intro 147 (And.intro rfl (And.intro (kc rfl rfl) (And.intro (kc rfl rfl) (And.intro (ib_ok c1) (?_))))))))))
  show Ev l d mi_X10_qDrops 20 [some (.ref 65)] [.int ((uI s 65 113 ((s.1 65 113) - (Int32.ofInt 1))).1 147 ((uI s 65 113 ((s.1 65 113) - (Int32.ofInt 1))).1 65 113).toNatClampNeg), .ref 65] (hp (uI s 65 113 ((s.1 65 113) - (Int32.ofInt 1)))) 0 0 _
  rw [← hs2]
  obtain ⟨q3, hq3, hf⟩ := bd_some hf
  refine Ev.callV (o := 65) (M' := mi_X10_qCode) (d' := d - 1) (As := [.int (s2.1 147 (s2.1 65 113).toNatClampNeg)]) (rest := []) (r' := (none, hp q3)) (e_X10_qCode (d := d - 1) (by omega) (s2.1 147 (s2.1 65 113).toNatClampNeg) s2 _ hq3) (by omega) wm_X10_qCode wi_X10_qCode wv_X10_qCode km_10_679 (kc rfl rfl) (Nat.le_of_ble_eq_true rfl) rfl rfl rfl (Nat.le_of_ble_eq_true rfl) ⟨Nat.le_of_ble_eq_true rfl, Nat.le_of_ble_eq_true rfl⟩ (by decide +kernel) ?_
  show Ev l d mi_X10_qDrops 23 [some (.ref 65)] [] (hp q3) 0 0 _
  cases hf
  exact Ev.vret rfl (by decide +kernel) (Nat.le_refl _) (Nat.le_refl _)
def f_X10_qIsBracket (p0 : Int32) (s : ST) : Option (Int32 × ST) := (if p0 < ((Int8.ofInt 20).toInt32) then some ((Int32.ofInt 0), s) else (if ((Int8.ofInt 24).toInt32) < p0 then some ((Int32.ofInt 0), s) else some ((Int32.ofInt 1), s)))
set_option maxHeartbeats 2000000 in
set_option maxRecDepth 20000 in
theorem e_X10_qIsBracket {l : Launch} {d : Nat} (hd : 1 ≤ d) (p0 : Int32) (s : ST) (r : Int32 × ST) (hf : f_X10_qIsBracket p0 s = some r) : Cl l d mi_X10_qIsBracket [.int p0] (hp s) (some (.int r.1), hp r.2) := by
  refine Ev.entry (by decide +kernel) rfl rfl ?_
  show Ev l d mi_X10_qIsBracket 0 [some (.int p0)] [] (hp s) 0 0 _
  unfold f_X10_qIsBracket at hf
  refine Ev.blk (pc' := 3) [(.iload_n 0, 0, 0, 0), (.bipush 20, 0, 0, 0)] (by decide +kernel) trivial rfl (?_)
  show Ev l d mi_X10_qIsBracket 3 [some (.int p0)] [.int ((Int8.ofInt 20).toInt32), .int p0] (hp s) 0 0 _
  refine Ev.icmp_lt (off := 13) (tgt := 16) (by decide +kernel) (by decide) (fun b1 => ?_) (fun b1 => ?_)
  · have hf := (if_pos b1).symm.trans hf
    refine Ev.blk (pc' := 17) [(.iconst 0, 0, 0, 0)] (by decide +kernel) trivial rfl (?_)
    show Ev l d mi_X10_qIsBracket 17 [some (.int p0)] [.int (Int32.ofInt 0)] (hp s) 0 0 _
    cases hf
    exact Ev.iret .boolean rfl rfl (by decide +kernel) (Nat.le_refl _) (Nat.le_refl _)
  · have hf := (if_neg b1).symm.trans hf
    refine Ev.blk (pc' := 9) [(.iload_n 0, 0, 0, 0), (.bipush 24, 0, 0, 0)] (by decide +kernel) trivial rfl (?_)
    show Ev l d mi_X10_qIsBracket 9 [some (.int p0)] [.int ((Int8.ofInt 24).toInt32), .int p0] (hp s) 0 0 _
    refine Ev.icmp_gt (off := 7) (tgt := 16) (by decide +kernel) (by decide) (fun b2 => ?_) (fun b2 => ?_)
    · have hf := (if_pos b2).symm.trans hf
      refine Ev.blk (pc' := 17) [(.iconst 0, 0, 0, 0)] (by decide +kernel) trivial rfl (?_)
      show Ev l d mi_X10_qIsBracket 17 [some (.int p0)] [.int (Int32.ofInt 0)] (hp s) 0 0 _
      cases hf
      exact Ev.iret .boolean rfl rfl (by decide +kernel) (Nat.le_refl _) (Nat.le_refl _)
    · have hf := (if_neg b2).symm.trans hf
      refine Ev.blk (pc' := 13) [(.iconst 1, 0, 0, 0)] (by decide +kernel) trivial rfl (?_)
      show Ev l d mi_X10_qIsBracket 13 [some (.int p0)] [.int (Int32.ofInt 1)] (hp s) 0 0 _
      refine Ev.goto (off := 4) (tgt := 17) (by decide +kernel) (by decide) ?_
      cases hf
      exact Ev.iret .boolean rfl rfl (by decide +kernel) (Nat.le_refl _) (Nat.le_refl _)
def f_X10_qBracket_L7 (k33 : Int32 → ST → Option (Int32 × ST)) : Nat → Int32 → ST → Option (Int32 × ST)
  | 0, _, _ => none
  | n + 1, x1, s => (if x1 < (s.1 65 115) then k33 x1 s else gd (ib x1 1700) ((f_X10_qIsBracket (s.1 147 x1.toNatClampNeg) s).bind (fun q3 => (if q3.1 = 0 then (f_X10_qBracket_L7 k33 n) (x1 + Int32.ofInt (-1)) q3.2 else k33 x1 q3.2))))
set_option maxHeartbeats 2000000 in
set_option maxRecDepth 20000 in
theorem e_X10_qBracket_L7 {l : Launch} {d : Nat} (hd : 2 ≤ d) (k33 : Int32 → ST → Option (Int32 × ST)) (hk33 : ∀ (x1 : Int32) (s : ST) (r : Int32 × ST), k33 x1 s = some r → Ev l d mi_X10_qBracket 33 [some (.ref 65), some (.int x1)] [] (hp s) 0 0 (some (.int r.1), hp r.2)) : ∀ (n : Nat) (x1 : Int32) (s : ST) (r : Int32 × ST), f_X10_qBracket_L7 k33 n x1 s = some r → Ev l d mi_X10_qBracket 7 [some (.ref 65), some (.int x1)] [] (hp s) 0 0 (some (.int r.1), hp r.2) := by
  intro n
  induction n with
  | zero =>
    intro x1 s r hf
    cases hf
  | succ n ih =>
    intro x1 s r hf
    unfold f_X10_qBracket_L7 at hf
    refine Ev.blk (pc' := 12) [(.iload_n 1, 0, 0, 0), (.aload_n 0, 0, 0, 0), (.getfield 388, 0, 10, 115)] (by decide +kernel) ⟨kf_10_388, trivial⟩ rfl (And.intro (kc rfl rfl) (?_))
    show Ev l d mi_X10_qBracket 12 [some (.ref 65), some (.int x1)] [.int (s.1 65 115), .int x1] (hp s) 0 0 _
    refine Ev.icmp_lt (off := 21) (tgt := 33) (by decide +kernel) (by decide) (fun b1 => ?_) (fun b1 => ?_)
    · have hf := (if_pos b1).symm.trans hf
      exact hk33 x1 s _ hf
    · have hf := (if_neg b1).symm.trans hf
      obtain ⟨c2, hf⟩ := gd_some hf
      refine Ev.blk (pc' := 21) [(.aload_n 0, 0, 0, 0), (.getfield 266, 0, 10, 112), (.iload_n 1, 0, 0, 0), (.iaload, 0, 0, 0)] (by decide +kernel) ⟨kf_10_266, trivial⟩ rfl (And.intro (kc rfl rfl) (Exists.intro 147 (And.intro rfl (And.intro (kc rfl rfl) (And.intro (ib_ok c2) (?_))))))
      show Ev l d mi_X10_qBracket 21 [some (.ref 65), some (.int x1)] [.int (s.1 147 x1.toNatClampNeg)] (hp s) 0 0 _
      obtain ⟨q3, hq3, hf⟩ := bd_some hf
      refine Ev.callS (M' := mi_X10_qIsBracket) (d' := d - 1) (As := [.int (s.1 147 x1.toNatClampNeg)]) (rest := []) (r' := (some (.int q3.1), hp q3.2)) (e_X10_qIsBracket (d := d - 1) (by omega) (s.1 147 x1.toNatClampNeg) s _ hq3) (by omega) wm_X10_qIsBracket wt_X10_qIsBracket km_10_682 rfl rfl rfl (Nat.le_of_ble_eq_true rfl) ⟨Nat.le_of_ble_eq_true rfl, Nat.le_of_ble_eq_true rfl⟩ (by decide +kernel) ?_
      show Ev l d mi_X10_qBracket 24 [some (.ref 65), some (.int x1)] [.int q3.1] (hp q3.2) 0 0 _
      refine Ev.if_ne (off := 9) (tgt := 33) (by decide +kernel) (by decide) (fun b4 => ?_) (fun b4 => ?_)
      · have hf := (if_neg b4).symm.trans hf
        exact hk33 x1 q3.2 _ hf
      · have hf := (if_pos b4).symm.trans hf
        refine Ev.blk (pc' := 30) [(.iinc 1 (-1), 0, 0, 0)] (by decide +kernel) trivial rfl (And.intro (Nat.le_of_ble_eq_true rfl) (?_))
        show Ev l d mi_X10_qBracket 30 [some (.ref 65), some (.int (x1 + Int32.ofInt (-1)))] [] (hp q3.2) 0 0 _
        refine Ev.goto (off := -23) (tgt := 7) (by decide +kernel) (by decide) ?_
        exact ih (x1 + Int32.ofInt (-1)) q3.2 _ hf
def f_X10_qBracket_j33 (x1 : Int32) (s : ST) : Option (Int32 × ST) := (if x1 < (s.1 65 115) then some ((Int32.ofInt (-1)), s) else gd (ib x1 1700) (some ((s.1 147 x1.toNatClampNeg), s)))
set_option maxHeartbeats 2000000 in
set_option maxRecDepth 20000 in
theorem e_X10_qBracket_j33 {l : Launch} {d : Nat} (hd : 2 ≤ d) (x1 : Int32) (s : ST) (r : Int32 × ST) (hf : f_X10_qBracket_j33 x1 s = some r) : Ev l d mi_X10_qBracket 33 [some (.ref 65), some (.int x1)] [] (hp s) 0 0 (some (.int r.1), hp r.2) := by
  unfold f_X10_qBracket_j33 at hf
  refine Ev.blk (pc' := 38) [(.iload_n 1, 0, 0, 0), (.aload_n 0, 0, 0, 0), (.getfield 388, 0, 10, 115)] (by decide +kernel) ⟨kf_10_388, trivial⟩ rfl (And.intro (kc rfl rfl) (?_))
  show Ev l d mi_X10_qBracket 38 [some (.ref 65), some (.int x1)] [.int (s.1 65 115), .int x1] (hp s) 0 0 _
  refine Ev.icmp_lt (off := 12) (tgt := 50) (by decide +kernel) (by decide) (fun b5 => ?_) (fun b5 => ?_)
  · have hf := (if_pos b5).symm.trans hf
    refine Ev.blk (pc' := 51) [(.iconst (-1), 0, 0, 0)] (by decide +kernel) trivial rfl (?_)
    show Ev l d mi_X10_qBracket 51 [some (.ref 65), some (.int x1)] [.int (Int32.ofInt (-1))] (hp s) 0 0 _
    cases hf
    exact Ev.iret .int rfl rfl (by decide +kernel) (Nat.le_refl _) (Nat.le_refl _)
  · have hf := (if_neg b5).symm.trans hf
    obtain ⟨c6, hf⟩ := gd_some hf
    refine Ev.blk (pc' := 47) [(.aload_n 0, 0, 0, 0), (.getfield 266, 0, 10, 112), (.iload_n 1, 0, 0, 0), (.iaload, 0, 0, 0)] (by decide +kernel) ⟨kf_10_266, trivial⟩ rfl (And.intro (kc rfl rfl) (Exists.intro 147 (And.intro rfl (And.intro (kc rfl rfl) (And.intro (ib_ok c6) (?_))))))
    show Ev l d mi_X10_qBracket 47 [some (.ref 65), some (.int x1)] [.int (s.1 147 x1.toNatClampNeg)] (hp s) 0 0 _
    refine Ev.goto (off := 4) (tgt := 51) (by decide +kernel) (by decide) ?_
    cases hf
    exact Ev.iret .int rfl rfl (by decide +kernel) (Nat.le_refl _) (Nat.le_refl _)
def f_X10_qBracket (s : ST) : Option (Int32 × ST) := (f_X10_qBracket_L7 f_X10_qBracket_j33 fuel) ((s.1 65 113) - (Int32.ofInt 1)) s
set_option maxHeartbeats 2000000 in
set_option maxRecDepth 20000 in
theorem e_X10_qBracket {l : Launch} {d : Nat} (hd : 2 ≤ d) (s : ST) (r : Int32 × ST) (hf : f_X10_qBracket s = some r) : Cl l d mi_X10_qBracket [.ref 65] (hp s) (some (.int r.1), hp r.2) := by
  refine Ev.entry (by decide +kernel) rfl rfl ?_
  show Ev l d mi_X10_qBracket 0 [some (.ref 65), none] [] (hp s) 0 0 _
  unfold f_X10_qBracket at hf
  refine Ev.blk (pc' := 7) [(.aload_n 0, 0, 0, 0), (.getfield 382, 0, 10, 113), (.iconst 1, 0, 0, 0), (.isub, 0, 0, 0), (.istore_n 1, 0, 0, 0)] (by decide +kernel) ⟨kf_10_382, trivial⟩ rfl (And.intro (kc rfl rfl) (And.intro (Nat.le_of_ble_eq_true rfl) (?_)))
  show Ev l d mi_X10_qBracket 7 [some (.ref 65), some (.int ((s.1 65 113) - (Int32.ofInt 1)))] [] (hp s) 0 0 _
  exact (e_X10_qBracket_L7 hd f_X10_qBracket_j33 (e_X10_qBracket_j33 hd) fuel) ((s.1 65 113) - (Int32.ofInt 1)) s _ hf
def f_X10_qDropsToBracket_L0 : Nat → ST → Option (ST)
  | 0, _ => none
  | n + 1, s => (if (s.1 65 113) ≤ (s.1 65 115) then some s else gd (ib ((s.1 65 113) - (Int32.ofInt 1)) 1700) ((f_X10_qIsBracket (s.1 147 ((s.1 65 113) - (Int32.ofInt 1)).toNatClampNeg) s).bind (fun q3 => (if q3.1 = 0 then (f_X10_qDrops q3.2).bind (fun q5 => (f_X10_qDropsToBracket_L0 n) q5) else some q3.2))))
set_option maxHeartbeats 2000000 in
set_option maxRecDepth 20000 in
theorem e_X10_qDropsToBracket_L0 {l : Launch} {d : Nat} (hd : 3 ≤ d) : ∀ (n : Nat) (s : ST) (r : ST), f_X10_qDropsToBracket_L0 n s = some r → Ev l d mi_X10_qDropsToBracket 0 [some (.ref 65)] [] (hp s) 0 0 (none, hp r) := by
  intro n
  induction n with
  | zero =>
    intro s r hf
    cases hf
  | succ n ih =>
    intro s r hf
    unfold f_X10_qDropsToBracket_L0 at hf
    refine Ev.blk (pc' := 8) [(.aload_n 0, 0, 0, 0), (.getfield 382, 0, 10, 113), (.aload_n 0, 0, 0, 0), (.getfield 388, 0, 10, 115)] (by decide +kernel) ⟨kf_10_382, ⟨kf_10_388, trivial⟩⟩ rfl (And.intro (kc rfl rfl) (And.intro (kc rfl rfl) (?_)))
    show Ev l d mi_X10_qDropsToBracket 8 [some (.ref 65)] [.int (s.1 65 115), .int (s.1 65 113)] (hp s) 0 0 _
    refine Ev.icmp_le (off := 27) (tgt := 35) (by decide +kernel) (by decide) (fun b1 => ?_) (fun b1 => ?_)
    · have hf := (if_pos b1).symm.trans hf
      cases hf
      exact Ev.vret rfl (by decide +kernel) (Nat.le_refl _) (Nat.le_refl _)
    · have hf := (if_neg b1).symm.trans hf
      obtain ⟨c2, hf⟩ := gd_some hf
      refine Ev.blk (pc' := 22) [(.aload_n 0, 0, 0, 0), (.getfield 266, 0, 10, 112), (.aload_n 0, 0, 0, 0), (.getfield 382, 0, 10, 113), (.iconst 1, 0, 0, 0), (.isub, 0, 0, 0), (.iaload, 0, 0, 0)] (by decide +kernel) ⟨kf_10_266, ⟨kf_10_382, trivial⟩⟩ rfl (And.intro (kc rfl rfl) (Exists.intro 147 (And.intro rfl (And.intro (kc rfl rfl) (And.intro (kc rfl rfl) (And.intro (ib_ok c2) (?_)))))))
      show Ev l d mi_X10_qDropsToBracket 22 [some (.ref 65)] [.int (s.1 147 ((s.1 65 113) - (Int32.ofInt 1)).toNatClampNeg)] (hp s) 0 0 _
      obtain ⟨q3, hq3, hf⟩ := bd_some hf
      refine Ev.callS (M' := mi_X10_qIsBracket) (d' := d - 1) (As := [.int (s.1 147 ((s.1 65 113) - (Int32.ofInt 1)).toNatClampNeg)]) (rest := []) (r' := (some (.int q3.1), hp q3.2)) (e_X10_qIsBracket (d := d - 1) (by omega) (s.1 147 ((s.1 65 113) - (Int32.ofInt 1)).toNatClampNeg) s _ hq3) (by omega) wm_X10_qIsBracket wt_X10_qIsBracket km_10_682 rfl rfl rfl (Nat.le_of_ble_eq_true rfl) ⟨Nat.le_of_ble_eq_true rfl, Nat.le_of_ble_eq_true rfl⟩ (by decide +kernel) ?_
      show Ev l d mi_X10_qDropsToBracket 25 [some (.ref 65)] [.int q3.1] (hp q3.2) 0 0 _
      refine Ev.if_ne (off := 10) (tgt := 35) (by decide +kernel) (by decide) (fun b4 => ?_) (fun b4 => ?_)
      · have hf := (if_neg b4).symm.trans hf
        cases hf
        exact Ev.vret rfl (by decide +kernel) (Nat.le_refl _) (Nat.le_refl _)
      · have hf := (if_pos b4).symm.trans hf
        refine Ev.blk (pc' := 29) [(.aload_n 0, 0, 0, 0)] (by decide +kernel) trivial rfl (?_)
        show Ev l d mi_X10_qDropsToBracket 29 [some (.ref 65)] [.ref 65] (hp q3.2) 0 0 _
        obtain ⟨q5, hq5, hf⟩ := bd_some hf
        refine Ev.callV (o := 65) (M' := mi_X10_qDrops) (d' := d - 1) (As := []) (rest := []) (r' := (none, hp q5)) (e_X10_qDrops (d := d - 1) (by omega) q3.2 _ hq5) (by omega) wm_X10_qDrops wi_X10_qDrops wv_X10_qDrops km_10_685 (kc rfl rfl) (Nat.le_of_ble_eq_true rfl) rfl rfl rfl (Nat.le_of_ble_eq_true rfl) ⟨Nat.le_of_ble_eq_true rfl, Nat.le_of_ble_eq_true rfl⟩ (by decide +kernel) ?_
        show Ev l d mi_X10_qDropsToBracket 32 [some (.ref 65)] [] (hp q5) 0 0 _
        refine Ev.goto (off := -32) (tgt := 0) (by decide +kernel) (by decide) ?_
        exact ih q5 _ hf
def f_X10_qDropsToBracket (s : ST) : Option (ST) := (f_X10_qDropsToBracket_L0 fuel)  s
set_option maxHeartbeats 2000000 in
set_option maxRecDepth 20000 in
theorem e_X10_qDropsToBracket {l : Launch} {d : Nat} (hd : 3 ≤ d) (s : ST) (r : ST) (hf : f_X10_qDropsToBracket s = some r) : Cl l d mi_X10_qDropsToBracket [.ref 65] (hp s) (none, hp r) := by
  refine Ev.entry (by decide +kernel) rfl rfl ?_
  show Ev l d mi_X10_qDropsToBracket 0 [some (.ref 65)] [] (hp s) 0 0 _
  unfold f_X10_qDropsToBracket at hf
  exact Ev.wk ((e_X10_qDropsToBracket_L0 hd fuel)  s _ hf) (And.intro (Or.inr rfl) (trivial))
def f_X10_qEndsPart_L0 : Nat → ST → Option (ST)
  | 0, _ => none
  | n + 1, s => (if (s.1 65 5) = 0 then (if (s.1 65 113) ≤ (s.1 65 115) then some s else gd (ib ((s.1 65 113) - (Int32.ofInt 1)) 1700) ((if (s.1 147 ((s.1 65 113) - (Int32.ofInt 1)).toNatClampNeg) < ((Int8.ofInt 60).toInt32) then some s else lt (uI s 65 114 ((s.1 65 114) - (Int32.ofInt 1))) (fun s5 => (f_X10_qDrops s5).bind (fun q6 => (f_X10_qEndsPart_L0 n) q6))))) else some s)
set_option maxHeartbeats 2000000 in
set_option maxRecDepth 20000 in
theorem e_X10_qEndsPart_L0 {l : Launch} {d : Nat} (hd : 3 ≤ d) : ∀ (n : Nat) (s : ST) (r : ST), f_X10_qEndsPart_L0 n s = some r → Ev l d mi_X10_qEndsPart 0 [some (.ref 65)] [] (hp s) 0 0 (none, hp r) := by
  intro n
  induction n with
  | zero =>
    intro s r hf
    cases hf
  | succ n ih =>
    intro s r hf
    unfold f_X10_qEndsPart_L0 at hf
    refine Ev.blk (pc' := 4) [(.aload_n 0, 0, 0, 0), (.getfield 278, 0, 10, 5)] (by decide +kernel) ⟨kf_10_278, trivial⟩ rfl (And.intro (kc rfl rfl) (?_))
    show Ev l d mi_X10_qEndsPart 4 [some (.ref 65)] [.int (s.1 65 5)] (hp s) 0 0 _
    refine Ev.if_ne (off := 47) (tgt := 51) (by decide +kernel) (by decide) (fun b1 => ?_) (fun b1 => ?_)
    · have hf := (if_neg b1).symm.trans hf
      cases hf
      exact Ev.vret rfl (by decide +kernel) (Nat.le_refl _) (Nat.le_refl _)
    · have hf := (if_pos b1).symm.trans hf
      refine Ev.blk (pc' := 15) [(.aload_n 0, 0, 0, 0), (.getfield 382, 0, 10, 113), (.aload_n 0, 0, 0, 0), (.getfield 388, 0, 10, 115)] (by decide +kernel) ⟨kf_10_382, ⟨kf_10_388, trivial⟩⟩ rfl (And.intro (kc rfl rfl) (And.intro (kc rfl rfl) (?_)))
      show Ev l d mi_X10_qEndsPart 15 [some (.ref 65)] [.int (s.1 65 115), .int (s.1 65 113)] (hp s) 0 0 _
      refine Ev.icmp_le (off := 36) (tgt := 51) (by decide +kernel) (by decide) (fun b2 => ?_) (fun b2 => ?_)
      · have hf := (if_pos b2).symm.trans hf
        cases hf
        exact Ev.vret rfl (by decide +kernel) (Nat.le_refl _) (Nat.le_refl _)
      · have hf := (if_neg b2).symm.trans hf
        obtain ⟨c3, hf⟩ := gd_some hf
        refine Ev.blk (pc' := 31) [(.aload_n 0, 0, 0, 0), (.getfield 266, 0, 10, 112), (.aload_n 0, 0, 0, 0), (.getfield 382, 0, 10, 113), (.iconst 1, 0, 0, 0), (.isub, 0, 0, 0), (.iaload, 0, 0, 0), (.bipush 60, 0, 0, 0)] (by decide +kernel) ⟨kf_10_266, ⟨kf_10_382, trivial⟩⟩ rfl (And.intro (kc rfl rfl) (Exists.intro 147 (And.intro rfl (And.intro (kc rfl rfl) (And.intro (kc rfl rfl) (And.intro (ib_ok c3) (?_)))))))
        show Ev l d mi_X10_qEndsPart 31 [some (.ref 65)] [.int ((Int8.ofInt 60).toInt32), .int (s.1 147 ((s.1 65 113) - (Int32.ofInt 1)).toNatClampNeg)] (hp s) 0 0 _
        refine Ev.icmp_lt (off := 20) (tgt := 51) (by decide +kernel) (by decide) (fun b4 => ?_) (fun b4 => ?_)
        · have hf := (if_pos b4).symm.trans hf
          cases hf
          exact Ev.vret rfl (by decide +kernel) (Nat.le_refl _) (Nat.le_refl _)
        · have hf := (if_neg b4).symm.trans hf
          obtain ⟨s5, hs5, hf⟩ := lt_some hf
          refine Ev.blk (pc' := 45) [(.aload_n 0, 0, 0, 0), (.dup, 0, 0, 0), (.getfield 385, 0, 10, 114), (.iconst 1, 0, 0, 0), (.isub, 0, 0, 0), (.putfield 385, 0, 10, 114), (.aload_n 0, 0, 0, 0)] (by decide +kernel) ⟨kf_10_385, ⟨⟨kf_10_385, Or.inl rfl⟩, trivial⟩⟩ rfl (And.intro rfl (And.intro (kc rfl rfl) (And.intro (kc rfl rfl) (?_))))
          show Ev l d mi_X10_qEndsPart 45 [some (.ref 65)] [.ref 65] (hp (uI s 65 114 ((s.1 65 114) - (Int32.ofInt 1)))) 0 0 _
          rw [← hs5]
          obtain ⟨q6, hq6, hf⟩ := bd_some hf
          refine Ev.callV (o := 65) (M' := mi_X10_qDrops) (d' := d - 1) (As := []) (rest := []) (r' := (none, hp q6)) (e_X10_qDrops (d := d - 1) (by omega) s5 _ hq6) (by omega) wm_X10_qDrops wi_X10_qDrops wv_X10_qDrops km_10_685 (kc rfl rfl) (Nat.le_of_ble_eq_true rfl) rfl rfl rfl (Nat.le_of_ble_eq_true rfl) ⟨Nat.le_of_ble_eq_true rfl, Nat.le_of_ble_eq_true rfl⟩ (by decide +kernel) ?_
          show Ev l d mi_X10_qEndsPart 48 [some (.ref 65)] [] (hp q6) 0 0 _
          refine Ev.goto (off := -48) (tgt := 0) (by decide +kernel) (by decide) ?_
          exact ih q6 _ hf
def f_X10_qEndsPart (s : ST) : Option (ST) := (f_X10_qEndsPart_L0 fuel)  s
set_option maxHeartbeats 2000000 in
set_option maxRecDepth 20000 in
theorem e_X10_qEndsPart {l : Launch} {d : Nat} (hd : 3 ≤ d) (s : ST) (r : ST) (hf : f_X10_qEndsPart s = some r) : Cl l d mi_X10_qEndsPart [.ref 65] (hp s) (none, hp r) := by
  refine Ev.entry (by decide +kernel) rfl rfl ?_
  show Ev l d mi_X10_qEndsPart 0 [some (.ref 65)] [] (hp s) 0 0 _
  unfold f_X10_qEndsPart at hf
  exact Ev.wk ((e_X10_qEndsPart_L0 hd fuel)  s _ hf) (And.intro (Or.inr rfl) (trivial))
