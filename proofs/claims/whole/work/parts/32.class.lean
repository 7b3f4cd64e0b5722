/-! THE LANDED CLASS: functions and proofs, by program (wip/gen_class.py): X3_unlike X3_waysTo X3_strike X3_turn X6_fact J9_floorDiv_7cf53 X6_joined X6_pop X6_push X6_reckon X9_farness X3_harmTo X3_wither X3_passDay X3_passDays X3_answerOf X4_empty X4_isPlace X4_isHeld X4_slotOf X5_open X5_takeWord X5_nameAtHand X7_add X7_pairAt X8_size X8_begins X8_newName X8_newField X8_newKind X8_takeKind X8_newMan -/
def f_X3_unlike_L4 : Nat → Nat → Nat → Int32 → Int32 → ST → Option (Int32 × ST)
  | 0, _, _, _, _, _ => none
  | n + 1, x0, x1, x2, x3, s => gd (kk x0 3) ((RR s.2.2 x0 0).bind (fun a2 => gd (kk a2 4) ((if (s.1 a2 8) ≤ x3 then some (x2, s) else gd (kr x1) ((if (Int32.ofNat (K0 x1).2) ≤ x3 then some (x2, s) else (RR s.2.2 x0 4).bind (fun a7 => gd (kk a7 13) (gd (ib x3 (K0 a7).2) (gd (kk x1 13) (gd (ib x3 (K0 x1).2) ((if (s.1 a7 x3.toNatClampNeg) = (s.1 x1 x3.toNatClampNeg) then (f_X3_unlike_L4 n) x0 x1 x2 (x3 + Int32.ofInt 1) s else (f_X3_unlike_L4 n) x0 x1 (x2 + Int32.ofInt 1) (x3 + Int32.ofInt 1) s))))))))))))
set_option maxHeartbeats 2000000 in
set_option maxRecDepth 20000 in
theorem e_X3_unlike_L4 {l : Launch} {d : Nat} (hd : 1 ≤ d) : ∀ (n : Nat) (x0 : Nat) (x1 : Nat) (x2 : Int32) (x3 : Int32) (s : ST) (r : Int32 × ST), f_X3_unlike_L4 n x0 x1 x2 x3 s = some r → Ev l d mi_X3_unlike 4 [some (.ref x0), some (.ref x1), some (.int x2), some (.int x3)] [] (hp s) 0 0 (some (.int r.1), hp r.2) := by
  intro n
  induction n with
  | zero =>
    intro x0 x1 x2 x3 s r hf
    cases hf
  | succ n ih =>
    intro x0 x1 x2 x3 s r hf
    unfold f_X3_unlike_L4 at hf
    obtain ⟨c1, hf⟩ := gd_some hf
    obtain ⟨a2, ha2, hf⟩ := bd_some hf
    obtain ⟨c3, hf⟩ := gd_some hf
    refine Ev.blk (pc' := 12) [(.iload_n 3, 0, 0, 0), (.aload_n 0, 0, 0, 0), (.getfield 56, 0, 3, 0), (.getfield 66, 0, 4, 8)] (by decide +kernel) ⟨kf_3_56, ⟨kf_3_66, trivial⟩⟩ rfl (And.intro (kk_ok c1) (Exists.intro a2 (And.intro ha2 (And.intro (kk_ok c3) (?_)))))
    show Ev l d mi_X3_unlike 12 [some (.ref x0), some (.ref x1), some (.int x2), some (.int x3)] [.int (s.1 a2 8), .int x3] (hp s) 0 0 _
    refine Ev.icmp_ge (off := 30) (tgt := 42) (by decide +kernel) (by decide) (fun b4 => ?_) (fun b4 => ?_)
    · have hf := (if_pos b4).symm.trans hf
      refine Ev.blk (pc' := 43) [(.iload_n 2, 0, 0, 0)] (by decide +kernel) trivial rfl (?_)
      show Ev l d mi_X3_unlike 43 [some (.ref x0), some (.ref x1), some (.int x2), some (.int x3)] [.int x2] (hp s) 0 0 _
      cases hf
      exact Ev.iret .int rfl rfl (by decide +kernel) (Nat.le_refl _) (Nat.le_refl _)
    · have hf := (if_neg b4).symm.trans hf
      obtain ⟨c5, hf⟩ := gd_some hf
      refine Ev.blk (pc' := 18) [(.iload_n 3, 0, 0, 0), (.aload_n 1, 0, 0, 0), (.arraylength, 0, 0, 0)] (by decide +kernel) trivial rfl (And.intro (kr_ok c5) (?_))
      show Ev l d mi_X3_unlike 18 [some (.ref x0), some (.ref x1), some (.int x2), some (.int x3)] [.int (Int32.ofNat (K0 x1).2), .int x3] (hp s) 0 0 _
      refine Ev.icmp_ge (off := 24) (tgt := 42) (by decide +kernel) (by decide) (fun b6 => ?_) (fun b6 => ?_)
      · have hf := (if_pos b6).symm.trans hf
        refine Ev.blk (pc' := 43) [(.iload_n 2, 0, 0, 0)] (by decide +kernel) trivial rfl (?_)
        show Ev l d mi_X3_unlike 43 [some (.ref x0), some (.ref x1), some (.int x2), some (.int x3)] [.int x2] (hp s) 0 0 _
        cases hf
        exact Ev.iret .int rfl rfl (by decide +kernel) (Nat.le_refl _) (Nat.le_refl _)
      · have hf := (if_neg b6).symm.trans hf
        obtain ⟨a7, ha7, hf⟩ := bd_some hf
        obtain ⟨c8, hf⟩ := gd_some hf
        obtain ⟨c9, hf⟩ := gd_some hf
        obtain ⟨c10, hf⟩ := gd_some hf
        obtain ⟨c11, hf⟩ := gd_some hf
        refine Ev.blk (pc' := 30) [(.aload_n 0, 0, 0, 0), (.getfield 22, 0, 3, 4), (.iload_n 3, 0, 0, 0), (.iaload, 0, 0, 0), (.aload_n 1, 0, 0, 0), (.iload_n 3, 0, 0, 0), (.iaload, 0, 0, 0)] (by decide +kernel) ⟨kf_3_22, trivial⟩ rfl (And.intro (kk_ok c1) (Exists.intro a7 (And.intro ha7 (And.intro (kk_ok c8) (And.intro (ib_ok c9) (And.intro (kk_ok c10) (And.intro (ib_ok c11) (?_))))))))
        show Ev l d mi_X3_unlike 30 [some (.ref x0), some (.ref x1), some (.int x2), some (.int x3)] [.int (s.1 x1 x3.toNatClampNeg), .int (s.1 a7 x3.toNatClampNeg)] (hp s) 0 0 _
        refine Ev.icmp_eq (off := 6) (tgt := 36) (by decide +kernel) (by decide) (fun b12 => ?_) (fun b12 => ?_)
        · have hf := (if_pos b12).symm.trans hf
          refine Ev.blk (pc' := 39) [(.iinc 3 1, 0, 0, 0)] (by decide +kernel) trivial rfl (And.intro (Nat.le_of_ble_eq_true rfl) (?_))
          show Ev l d mi_X3_unlike 39 [some (.ref x0), some (.ref x1), some (.int x2), some (.int (x3 + Int32.ofInt 1))] [] (hp s) 0 0 _
          refine Ev.goto (off := -35) (tgt := 4) (by decide +kernel) (by decide) ?_
          exact ih x0 x1 x2 (x3 + Int32.ofInt 1) s _ hf
        · have hf := (if_neg b12).symm.trans hf
          refine Ev.blk (pc' := 39) [(.iinc 2 1, 0, 0, 0), (.iinc 3 1, 0, 0, 0)] (by decide +kernel) trivial rfl (And.intro (Nat.le_of_ble_eq_true rfl) (And.intro (Nat.le_of_ble_eq_true rfl) (?_)))
          show Ev l d mi_X3_unlike 39 [some (.ref x0), some (.ref x1), some (.int (x2 + Int32.ofInt 1)), some (.int (x3 + Int32.ofInt 1))] [] (hp s) 0 0 _
          refine Ev.goto (off := -35) (tgt := 4) (by decide +kernel) (by decide) ?_
          exact ih x0 x1 (x2 + Int32.ofInt 1) (x3 + Int32.ofInt 1) s _ hf
def f_X3_unlike (o : Nat) (p0 : Nat) (s : ST) : Option (Int32 × ST) := (f_X3_unlike_L4 fuel) o p0 (Int32.ofInt 0) (Int32.ofInt 0) s
set_option maxHeartbeats 2000000 in
set_option maxRecDepth 20000 in
theorem e_X3_unlike {l : Launch} {d : Nat} (hd : 1 ≤ d) (o : Nat) (p0 : Nat) (s : ST) (r : Int32 × ST) (hf : f_X3_unlike o p0 s = some r) : Cl l d mi_X3_unlike [.ref o, .ref p0] (hp s) (some (.int r.1), hp r.2) := by
  refine Ev.entry (by decide +kernel) rfl rfl ?_
  show Ev l d mi_X3_unlike 0 [some (.ref o), some (.ref p0), none, none] [] (hp s) 0 0 _
  unfold f_X3_unlike at hf
  refine Ev.blk (pc' := 4) [(.iconst 0, 0, 0, 0), (.istore_n 2, 0, 0, 0), (.iconst 0, 0, 0, 0), (.istore_n 3, 0, 0, 0)] (by decide +kernel) trivial rfl (And.intro (Nat.le_of_ble_eq_true rfl) (And.intro (Nat.le_of_ble_eq_true rfl) (?_)))
  show Ev l d mi_X3_unlike 4 [some (.ref o), some (.ref p0), some (.int (Int32.ofInt 0)), some (.int (Int32.ofInt 0))] [] (hp s) 0 0 _
  exact (e_X3_unlike_L4 hd fuel) o p0 (Int32.ofInt 0) (Int32.ofInt 0) s _ hf
def f_X3_waysTo_L73 (rc_X3_waysTo : Nat → Nat → Int32 → Int32 → ST → Option (Int32 × ST)) (k29 : Nat → Nat → Int32 → Int32 → Int32 → Int32 → ST → Option (Int32 × ST)) : Nat → Nat → Nat → Int32 → Int32 → Int32 → Int32 → Int32 → Int32 → ST → Option (Int32 × ST)
  | 0, _, _, _, _, _, _, _, _, _ => none
  | n + 1, x0, x1, x2, x3, x5, x6, x7, x8, s => (if x7 = 0 then k29 x0 x1 x2 x3 x5 (x6 + Int32.ofInt 1) s else (if ((Int8.ofInt 25).toInt32) ≤ x8 then k29 x0 x1 x2 x3 x5 (x6 + Int32.ofInt 1) s else (if ((x7 >>> (x8 &&& 31)) &&& (Int32.ofInt 1)) = 0 then (f_X3_waysTo_L73 rc_X3_waysTo k29 n) x0 x1 x2 x3 x5 x6 x7 (x8 + Int32.ofInt 1) s else gd (kk x0 3) ((RR s.2.2 x0 4).bind (fun a17 => gd (kk a17 13) (gd (ib x6 (K0 a17).2) ((f_X3_carry x0 x6 x8 s).bind (fun q20 => (rc_X3_waysTo x0 x1 ((Int32.ofInt 1) - x2) (x3 - (Int32.ofInt 1)) q20.2).bind (fun q21 => (f_X3_carryBack x0 x6 (s.1 a17 x6.toNatClampNeg) q20.1 q21.2).bind (fun q22 => (f_X3_waysTo_L73 rc_X3_waysTo k29 n) x0 x1 x2 x3 (x5 + q21.1) x6 x7 (x8 + Int32.ofInt 1) q22))))))))))
set_option maxHeartbeats 2000000 in
set_option maxRecDepth 20000 in
theorem e_X3_waysTo_L73 {l : Launch} {d : Nat} (hd : 3 ≤ d) (rc_X3_waysTo : Nat → Nat → Int32 → Int32 → ST → Option (Int32 × ST)) (h_X3_waysTo : ∀ (o : Nat) (p0 : Nat) (p1 : Int32) (p2 : Int32) (s : ST) (r : Int32 × ST), rc_X3_waysTo o p0 p1 p2 s = some r → Cl l (d - 1) mi_X3_waysTo [.ref o, .ref p0, .int p1, .int p2] (hp s) (some (.int r.1), hp r.2)) (k29 : Nat → Nat → Int32 → Int32 → Int32 → Int32 → ST → Option (Int32 × ST)) (hk29 : ∀ (x0 : Nat) (x1 : Nat) (x2 : Int32) (x3 : Int32) (x5 : Int32) (x6 : Int32) (s : ST) (r : Int32 × ST), k29 x0 x1 x2 x3 x5 x6 s = some r → Ev l d mi_X3_waysTo 29 [some (.ref x0), some (.ref x1), some (.int x2), some (.int x3), none, some (.int x5), some (.int x6), none, none, none, none] [] (hp s) 0 0 (some (.int r.1), hp r.2)) : ∀ (n : Nat) (x0 : Nat) (x1 : Nat) (x2 : Int32) (x3 : Int32) (x5 : Int32) (x6 : Int32) (x7 : Int32) (x8 : Int32) (s : ST) (r : Int32 × ST), f_X3_waysTo_L73 rc_X3_waysTo k29 n x0 x1 x2 x3 x5 x6 x7 x8 s = some r → Ev l d mi_X3_waysTo 73 [some (.ref x0), some (.ref x1), some (.int x2), some (.int x3), none, some (.int x5), some (.int x6), some (.int x7), some (.int x8), none, none] [] (hp s) 0 0 (some (.int r.1), hp r.2) := by
  intro n
  induction n with
  | zero =>
    intro x0 x1 x2 x3 x5 x6 x7 x8 s r hf
    cases hf
  | succ n ih =>
    intro x0 x1 x2 x3 x5 x6 x7 x8 s r hf
    unfold f_X3_waysTo_L73 at hf
    refine Ev.blk (pc' := 75) [(.iload 7, 0, 0, 0)] (by decide +kernel) trivial rfl (?_)
    show Ev l d mi_X3_waysTo 75 [some (.ref x0), some (.ref x1), some (.int x2), some (.int x3), none, some (.int x5), some (.int x6), some (.int x7), some (.int x8), none, none] [.int x7] (hp s) 0 0 _
    refine Ev.if_eq (off := 71) (tgt := 146) (by decide +kernel) (by decide) (fun b13 => ?_) (fun b13 => ?_)
    · have hf := (if_pos b13).symm.trans hf
      refine Ev.blk (pc' := 149) [(.iinc 6 1, 0, 0, 0)] (by decide +kernel) trivial rfl (And.intro (Nat.le_of_ble_eq_true rfl) (?_))
      show Ev l d mi_X3_waysTo 149 [some (.ref x0), some (.ref x1), some (.int x2), some (.int x3), none, some (.int x5), some (.int (x6 + Int32.ofInt 1)), some (.int x7), some (.int x8), none, none] [] (hp s) 0 0 _
      refine Ev.goto (off := -120) (tgt := 29) (by decide +kernel) (by decide) ?_
      exact Ev.wk (hk29 x0 x1 x2 x3 x5 (x6 + Int32.ofInt 1) s _ hf) (And.intro (Or.inr rfl) (And.intro (Or.inr rfl) (And.intro (Or.inr rfl) (And.intro (Or.inr rfl) (And.intro (Or.inr rfl) (And.intro (Or.inr rfl) (And.intro (Or.inr rfl) (And.intro (Or.inl rfl) (And.intro (Or.inl rfl) (And.intro (Or.inr rfl) (And.intro (Or.inr rfl) (trivial))))))))))))
    · have hf := (if_neg b13).symm.trans hf
      refine Ev.blk (pc' := 82) [(.iload 8, 0, 0, 0), (.bipush 25, 0, 0, 0)] (by decide +kernel) trivial rfl (?_)
      show Ev l d mi_X3_waysTo 82 [some (.ref x0), some (.ref x1), some (.int x2), some (.int x3), none, some (.int x5), some (.int x6), some (.int x7), some (.int x8), none, none] [.int ((Int8.ofInt 25).toInt32), .int x8] (hp s) 0 0 _
      refine Ev.icmp_ge (off := 64) (tgt := 146) (by decide +kernel) (by decide) (fun b14 => ?_) (fun b14 => ?_)
      · have hf := (if_pos b14).symm.trans hf
        refine Ev.blk (pc' := 149) [(.iinc 6 1, 0, 0, 0)] (by decide +kernel) trivial rfl (And.intro (Nat.le_of_ble_eq_true rfl) (?_))
        show Ev l d mi_X3_waysTo 149 [some (.ref x0), some (.ref x1), some (.int x2), some (.int x3), none, some (.int x5), some (.int (x6 + Int32.ofInt 1)), some (.int x7), some (.int x8), none, none] [] (hp s) 0 0 _
        refine Ev.goto (off := -120) (tgt := 29) (by decide +kernel) (by decide) ?_
        exact Ev.wk (hk29 x0 x1 x2 x3 x5 (x6 + Int32.ofInt 1) s _ hf) (And.intro (Or.inr rfl) (And.intro (Or.inr rfl) (And.intro (Or.inr rfl) (And.intro (Or.inr rfl) (And.intro (Or.inr rfl) (And.intro (Or.inr rfl) (And.intro (Or.inr rfl) (And.intro (Or.inl rfl) (And.intro (Or.inl rfl) (And.intro (Or.inr rfl) (And.intro (Or.inr rfl) (trivial))))))))))))
      · have hf := (if_neg b14).symm.trans hf
        refine Ev.blk (pc' := 92) [(.iload 7, 0, 0, 0), (.iload 8, 0, 0, 0), (.ishr, 0, 0, 0), (.iconst 1, 0, 0, 0), (.iand, 0, 0, 0)] (by decide +kernel) trivial rfl (?_)
        show Ev l d mi_X3_waysTo 92 [some (.ref x0), some (.ref x1), some (.int x2), some (.int x3), none, some (.int x5), some (.int x6), some (.int x7), some (.int x8), none, none] [.int ((x7 >>> (x8 &&& 31)) &&& (Int32.ofInt 1))] (hp s) 0 0 _
        refine Ev.if_eq (off := 48) (tgt := 140) (by decide +kernel) (by decide) (fun b15 => ?_) (fun b15 => ?_)
        · have hf := (if_pos b15).symm.trans hf
          refine Ev.blk (pc' := 143) [(.iinc 8 1, 0, 0, 0)] (by decide +kernel) trivial rfl (And.intro (Nat.le_of_ble_eq_true rfl) (?_))
          show Ev l d mi_X3_waysTo 143 [some (.ref x0), some (.ref x1), some (.int x2), some (.int x3), none, some (.int x5), some (.int x6), some (.int x7), some (.int (x8 + Int32.ofInt 1)), none, none] [] (hp s) 0 0 _
          refine Ev.goto (off := -70) (tgt := 73) (by decide +kernel) (by decide) ?_
          exact ih x0 x1 x2 x3 x5 x6 x7 (x8 + Int32.ofInt 1) s _ hf
        · have hf := (if_neg b15).symm.trans hf
          obtain ⟨c16, hf⟩ := gd_some hf
          obtain ⟨a17, ha17, hf⟩ := bd_some hf
          obtain ⟨c18, hf⟩ := gd_some hf
          obtain ⟨c19, hf⟩ := gd_some hf
          refine Ev.blk (pc' := 109) [(.aload_n 0, 0, 0, 0), (.getfield 22, 0, 3, 4), (.iload 6, 0, 0, 0), (.iaload, 0, 0, 0), (.istore 9, 0, 0, 0), (.aload_n 0, 0, 0, 0), (.iload 6, 0, 0, 0), (.iload 8, 0, 0, 0)] (by decide +kernel) ⟨kf_3_22, trivial⟩ rfl (And.intro (kk_ok c16) (Exists.intro a17 (And.intro ha17 (And.intro (kk_ok c18) (And.intro (ib_ok c19) (And.intro (Nat.le_of_ble_eq_true rfl) (?_)))))))
          show Ev l d mi_X3_waysTo 109 [some (.ref x0), some (.ref x1), some (.int x2), some (.int x3), none, some (.int x5), some (.int x6), some (.int x7), some (.int x8), some (.int (s.1 a17 x6.toNatClampNeg)), none] [.int x8, .int x6, .ref x0] (hp s) 0 0 _
          obtain ⟨q20, hq20, hf⟩ := bd_some hf
          refine Ev.callV (o := x0) (M' := mi_X3_carry) (d' := d - 1) (As := [.int x6, .int x8]) (rest := []) (r' := (some (.int q20.1), hp q20.2)) (e_X3_carry (d := d - 1) (by omega) x0 x6 x8 s _ hq20) (by omega) wm_X3_carry wi_X3_carry wv_X3_carry km_3_186 (kk_ok c16) (Nat.le_of_ble_eq_true rfl) rfl rfl rfl (Nat.le_of_ble_eq_true rfl) ⟨Nat.le_of_ble_eq_true rfl, Nat.le_of_ble_eq_true rfl⟩ (by decide +kernel) ?_
          show Ev l d mi_X3_waysTo 112 [some (.ref x0), some (.ref x1), some (.int x2), some (.int x3), none, some (.int x5), some (.int x6), some (.int x7), some (.int x8), some (.int (s.1 a17 x6.toNatClampNeg)), none] [.int q20.1] (hp q20.2) 0 0 _
          refine Ev.blk (pc' := 124) [(.istore 10, 0, 0, 0), (.iload 5, 0, 0, 0), (.aload_n 0, 0, 0, 0), (.aload_n 1, 0, 0, 0), (.iconst 1, 0, 0, 0), (.iload_n 2, 0, 0, 0), (.isub, 0, 0, 0), (.iload_n 3, 0, 0, 0), (.iconst 1, 0, 0, 0), (.isub, 0, 0, 0)] (by decide +kernel) trivial rfl (And.intro (Nat.le_of_ble_eq_true rfl) (?_))
          show Ev l d mi_X3_waysTo 124 [some (.ref x0), some (.ref x1), some (.int x2), some (.int x3), none, some (.int x5), some (.int x6), some (.int x7), some (.int x8), some (.int (s.1 a17 x6.toNatClampNeg)), some (.int q20.1)] [.int (x3 - (Int32.ofInt 1)), .int ((Int32.ofInt 1) - x2), .ref x1, .ref x0, .int x5] (hp q20.2) 0 0 _
          obtain ⟨q21, hq21, hf⟩ := bd_some hf
          refine Ev.callV (o := x0) (M' := mi_X3_waysTo) (d' := d - 1) (As := [.ref x1, .int ((Int32.ofInt 1) - x2), .int (x3 - (Int32.ofInt 1))]) (rest := [.int x5]) (r' := (some (.int q21.1), hp q21.2)) (h_X3_waysTo x0 x1 ((Int32.ofInt 1) - x2) (x3 - (Int32.ofInt 1)) q20.2 _ hq21) (by omega) wm_X3_waysTo wi_X3_waysTo wv_X3_waysTo km_3_212 (kk_ok c16) (Nat.le_of_ble_eq_true rfl) rfl rfl rfl (Nat.le_of_ble_eq_true rfl) ⟨Nat.le_of_ble_eq_true rfl, Nat.le_of_ble_eq_true rfl⟩ (by decide +kernel) ?_
          show Ev l d mi_X3_waysTo 127 [some (.ref x0), some (.ref x1), some (.int x2), some (.int x3), none, some (.int x5), some (.int x6), some (.int x7), some (.int x8), some (.int (s.1 a17 x6.toNatClampNeg)), some (.int q20.1)] [.int q21.1, .int x5] (hp q21.2) 0 0 _
          refine Ev.blk (pc' := 137) [(.iadd, 0, 0, 0), (.istore 5, 0, 0, 0), (.aload_n 0, 0, 0, 0), (.iload 6, 0, 0, 0), (.iload 9, 0, 0, 0), (.iload 10, 0, 0, 0)] (by decide +kernel) trivial rfl (And.intro (Nat.le_of_ble_eq_true rfl) (?_))
          show Ev l d mi_X3_waysTo 137 [some (.ref x0), some (.ref x1), some (.int x2), some (.int x3), none, some (.int (x5 + q21.1)), some (.int x6), some (.int x7), some (.int x8), some (.int (s.1 a17 x6.toNatClampNeg)), some (.int q20.1)] [.int q20.1, .int (s.1 a17 x6.toNatClampNeg), .int x6, .ref x0] (hp q21.2) 0 0 _
          obtain ⟨q22, hq22, hf⟩ := bd_some hf
          refine Ev.callV (o := x0) (M' := mi_X3_carryBack) (d' := d - 1) (As := [.int x6, .int (s.1 a17 x6.toNatClampNeg), .int q20.1]) (rest := []) (r' := (none, hp q22)) (e_X3_carryBack (d := d - 1) (by omega) x0 x6 (s.1 a17 x6.toNatClampNeg) q20.1 q21.2 _ hq22) (by omega) wm_X3_carryBack wi_X3_carryBack wv_X3_carryBack km_3_192 (kk_ok c16) (Nat.le_of_ble_eq_true rfl) rfl rfl rfl (Nat.le_of_ble_eq_true rfl) ⟨Nat.le_of_ble_eq_true rfl, Nat.le_of_ble_eq_true rfl⟩ (by decide +kernel) ?_
          show Ev l d mi_X3_waysTo 140 [some (.ref x0), some (.ref x1), some (.int x2), some (.int x3), none, some (.int (x5 + q21.1)), some (.int x6), some (.int x7), some (.int x8), some (.int (s.1 a17 x6.toNatClampNeg)), some (.int q20.1)] [] (hp q22) 0 0 _
          refine Ev.blk (pc' := 143) [(.iinc 8 1, 0, 0, 0)] (by decide +kernel) trivial rfl (And.intro (Nat.le_of_ble_eq_true rfl) (?_))
          show Ev l d mi_X3_waysTo 143 [some (.ref x0), some (.ref x1), some (.int x2), some (.int x3), none, some (.int (x5 + q21.1)), some (.int x6), some (.int x7), some (.int (x8 + Int32.ofInt 1)), some (.int (s.1 a17 x6.toNatClampNeg)), some (.int q20.1)] [] (hp q22) 0 0 _
          refine Ev.goto (off := -70) (tgt := 73) (by decide +kernel) (by decide) ?_
          exact Ev.wk (ih x0 x1 x2 x3 (x5 + q21.1) x6 x7 (x8 + Int32.ofInt 1) q22 _ hf) (And.intro (Or.inr rfl) (And.intro (Or.inr rfl) (And.intro (Or.inr rfl) (And.intro (Or.inr rfl) (And.intro (Or.inr rfl) (And.intro (Or.inr rfl) (And.intro (Or.inr rfl) (And.intro (Or.inr rfl) (And.intro (Or.inr rfl) (And.intro (Or.inl rfl) (And.intro (Or.inl rfl) (trivial))))))))))))
def f_X3_waysTo_j68 (rc_X3_waysTo : Nat → Nat → Int32 → Int32 → ST → Option (Int32 × ST)) (k29 : Nat → Nat → Int32 → Int32 → Int32 → Int32 → ST → Option (Int32 × ST)) (x0 : Nat) (x1 : Nat) (x2 : Int32) (x3 : Int32) (x5 : Int32) (x6 : Int32) (y0 : Int32) (s : ST) : Option (Int32 × ST) := (f_X3_waysTo_L73 rc_X3_waysTo k29 fuel) x0 x1 x2 x3 x5 x6 y0 (Int32.ofInt 0) s
set_option maxHeartbeats 2000000 in
set_option maxRecDepth 20000 in
theorem e_X3_waysTo_j68 {l : Launch} {d : Nat} (hd : 3 ≤ d) (rc_X3_waysTo : Nat → Nat → Int32 → Int32 → ST → Option (Int32 × ST)) (h_X3_waysTo : ∀ (o : Nat) (p0 : Nat) (p1 : Int32) (p2 : Int32) (s : ST) (r : Int32 × ST), rc_X3_waysTo o p0 p1 p2 s = some r → Cl l (d - 1) mi_X3_waysTo [.ref o, .ref p0, .int p1, .int p2] (hp s) (some (.int r.1), hp r.2)) (k29 : Nat → Nat → Int32 → Int32 → Int32 → Int32 → ST → Option (Int32 × ST)) (hk29 : ∀ (x0 : Nat) (x1 : Nat) (x2 : Int32) (x3 : Int32) (x5 : Int32) (x6 : Int32) (s : ST) (r : Int32 × ST), k29 x0 x1 x2 x3 x5 x6 s = some r → Ev l d mi_X3_waysTo 29 [some (.ref x0), some (.ref x1), some (.int x2), some (.int x3), none, some (.int x5), some (.int x6), none, none, none, none] [] (hp s) 0 0 (some (.int r.1), hp r.2)) (x0 : Nat) (x1 : Nat) (x2 : Int32) (x3 : Int32) (x5 : Int32) (x6 : Int32) (y0 : Int32) (s : ST) (r : Int32 × ST) (hf : f_X3_waysTo_j68 rc_X3_waysTo k29 x0 x1 x2 x3 x5 x6 y0 s = some r) : Ev l d mi_X3_waysTo 68 [some (.ref x0), some (.ref x1), some (.int x2), some (.int x3), none, some (.int x5), some (.int x6), none, none, none, none] [.int y0] (hp s) 0 0 (some (.int r.1), hp r.2) := by
  unfold f_X3_waysTo_j68 at hf
  refine Ev.blk (pc' := 73) [(.istore 7, 0, 0, 0), (.iconst 0, 0, 0, 0), (.istore 8, 0, 0, 0)] (by decide +kernel) trivial rfl (And.intro (Nat.le_of_ble_eq_true rfl) (And.intro (Nat.le_of_ble_eq_true rfl) (?_)))
  show Ev l d mi_X3_waysTo 73 [some (.ref x0), some (.ref x1), some (.int x2), some (.int x3), none, some (.int x5), some (.int x6), some (.int y0), some (.int (Int32.ofInt 0)), none, none] [] (hp s) 0 0 _
  exact (e_X3_waysTo_L73 hd rc_X3_waysTo h_X3_waysTo k29 hk29 fuel) x0 x1 x2 x3 x5 x6 y0 (Int32.ofInt 0) s _ hf
def f_X3_waysTo_L29 (rc_X3_waysTo : Nat → Nat → Int32 → Int32 → ST → Option (Int32 × ST)) : Nat → Nat → Nat → Int32 → Int32 → Int32 → Int32 → ST → Option (Int32 × ST)
  | 0, _, _, _, _, _, _, _ => none
  | n + 1, x0, x1, x2, x3, x5, x6, s => gd (kk x0 3) ((if (s.1 x0 9) = 0 then (RR s.2.2 x0 0).bind (fun a7 => gd (kk a7 4) ((if (s.1 a7 8) ≤ x6 then some (x5, s) else (f_X3_isOut x0 x6 x2 s).bind (fun q10 => (if q10.1 = 0 then (f_X3_waysTo_j68 rc_X3_waysTo (f_X3_waysTo_L29 rc_X3_waysTo n)) x0 x1 x2 x3 x5 x6 (Int32.ofInt 0) q10.2 else (f_X3_goals x0 x6 q10.2).bind (fun q12 => (f_X3_waysTo_j68 rc_X3_waysTo (f_X3_waysTo_L29 rc_X3_waysTo n)) x0 x1 x2 x3 x5 x6 q12.1 q12.2)))))) else some (x5, s)))
set_option maxHeartbeats 2000000 in
set_option maxRecDepth 20000 in
theorem e_X3_waysTo_L29 {l : Launch} {d : Nat} (hd : 3 ≤ d) (rc_X3_waysTo : Nat → Nat → Int32 → Int32 → ST → Option (Int32 × ST)) (h_X3_waysTo : ∀ (o : Nat) (p0 : Nat) (p1 : Int32) (p2 : Int32) (s : ST) (r : Int32 × ST), rc_X3_waysTo o p0 p1 p2 s = some r → Cl l (d - 1) mi_X3_waysTo [.ref o, .ref p0, .int p1, .int p2] (hp s) (some (.int r.1), hp r.2)) : ∀ (n : Nat) (x0 : Nat) (x1 : Nat) (x2 : Int32) (x3 : Int32) (x5 : Int32) (x6 : Int32) (s : ST) (r : Int32 × ST), f_X3_waysTo_L29 rc_X3_waysTo n x0 x1 x2 x3 x5 x6 s = some r → Ev l d mi_X3_waysTo 29 [some (.ref x0), some (.ref x1), some (.int x2), some (.int x3), none, some (.int x5), some (.int x6), none, none, none, none] [] (hp s) 0 0 (some (.int r.1), hp r.2) := by
  intro n
  induction n with
  | zero =>
    intro x0 x1 x2 x3 x5 x6 s r hf
    cases hf
  | succ n ih =>
    intro x0 x1 x2 x3 x5 x6 s r hf
    unfold f_X3_waysTo_L29 at hf
    obtain ⟨c5, hf⟩ := gd_some hf
    refine Ev.blk (pc' := 33) [(.aload_n 0, 0, 0, 0), (.getfield 37, 0, 3, 9)] (by decide +kernel) ⟨kf_3_37, trivial⟩ rfl (And.intro (kk_ok c5) (?_))
    show Ev l d mi_X3_waysTo 33 [some (.ref x0), some (.ref x1), some (.int x2), some (.int x3), none, some (.int x5), some (.int x6), none, none, none, none] [.int (s.1 x0 9)] (hp s) 0 0 _
    refine Ev.if_ne (off := 119) (tgt := 152) (by decide +kernel) (by decide) (fun b6 => ?_) (fun b6 => ?_)
    · have hf := (if_neg b6).symm.trans hf
      refine Ev.blk (pc' := 154) [(.iload 5, 0, 0, 0)] (by decide +kernel) trivial rfl (?_)
      show Ev l d mi_X3_waysTo 154 [some (.ref x0), some (.ref x1), some (.int x2), some (.int x3), none, some (.int x5), some (.int x6), none, none, none, none] [.int x5] (hp s) 0 0 _
      cases hf
      exact Ev.iret .int rfl rfl (by decide +kernel) (Nat.le_refl _) (Nat.le_refl _)
    · have hf := (if_pos b6).symm.trans hf
      obtain ⟨a7, ha7, hf⟩ := bd_some hf
      obtain ⟨c8, hf⟩ := gd_some hf
      refine Ev.blk (pc' := 45) [(.iload 6, 0, 0, 0), (.aload_n 0, 0, 0, 0), (.getfield 56, 0, 3, 0), (.getfield 66, 0, 4, 8)] (by decide +kernel) ⟨kf_3_56, ⟨kf_3_66, trivial⟩⟩ rfl (And.intro (kk_ok c5) (Exists.intro a7 (And.intro ha7 (And.intro (kk_ok c8) (?_)))))
      show Ev l d mi_X3_waysTo 45 [some (.ref x0), some (.ref x1), some (.int x2), some (.int x3), none, some (.int x5), some (.int x6), none, none, none, none] [.int (s.1 a7 8), .int x6] (hp s) 0 0 _
      refine Ev.icmp_ge (off := 107) (tgt := 152) (by decide +kernel) (by decide) (fun b9 => ?_) (fun b9 => ?_)
      · have hf := (if_pos b9).symm.trans hf
        refine Ev.blk (pc' := 154) [(.iload 5, 0, 0, 0)] (by decide +kernel) trivial rfl (?_)
        show Ev l d mi_X3_waysTo 154 [some (.ref x0), some (.ref x1), some (.int x2), some (.int x3), none, some (.int x5), some (.int x6), none, none, none, none] [.int x5] (hp s) 0 0 _
        cases hf
        exact Ev.iret .int rfl rfl (by decide +kernel) (Nat.le_refl _) (Nat.le_refl _)
      · have hf := (if_neg b9).symm.trans hf
        refine Ev.blk (pc' := 52) [(.aload_n 0, 0, 0, 0), (.iload 6, 0, 0, 0), (.iload_n 2, 0, 0, 0)] (by decide +kernel) trivial rfl (?_)
        show Ev l d mi_X3_waysTo 52 [some (.ref x0), some (.ref x1), some (.int x2), some (.int x3), none, some (.int x5), some (.int x6), none, none, none, none] [.int x2, .int x6, .ref x0] (hp s) 0 0 _
        obtain ⟨q10, hq10, hf⟩ := bd_some hf
        refine Ev.callV (o := x0) (M' := mi_X3_isOut) (d' := d - 1) (As := [.int x6, .int x2]) (rest := []) (r' := (some (.int q10.1), hp q10.2)) (e_X3_isOut (d := d - 1) (by omega) x0 x6 x2 s _ hq10) (by omega) wm_X3_isOut wi_X3_isOut wv_X3_isOut km_3_102 (kk_ok c5) (Nat.le_of_ble_eq_true rfl) rfl rfl rfl (Nat.le_of_ble_eq_true rfl) ⟨Nat.le_of_ble_eq_true rfl, Nat.le_of_ble_eq_true rfl⟩ (by decide +kernel) ?_
        show Ev l d mi_X3_waysTo 55 [some (.ref x0), some (.ref x1), some (.int x2), some (.int x3), none, some (.int x5), some (.int x6), none, none, none, none] [.int q10.1] (hp q10.2) 0 0 _
        refine Ev.if_eq (off := 12) (tgt := 67) (by decide +kernel) (by decide) (fun b11 => ?_) (fun b11 => ?_)
        · have hf := (if_pos b11).symm.trans hf
          refine Ev.blk (pc' := 68) [(.iconst 0, 0, 0, 0)] (by decide +kernel) trivial rfl (?_)
          show Ev l d mi_X3_waysTo 68 [some (.ref x0), some (.ref x1), some (.int x2), some (.int x3), none, some (.int x5), some (.int x6), none, none, none, none] [.int (Int32.ofInt 0)] (hp q10.2) 0 0 _
          exact (e_X3_waysTo_j68 hd rc_X3_waysTo h_X3_waysTo (f_X3_waysTo_L29 rc_X3_waysTo n) ih) x0 x1 x2 x3 x5 x6 (Int32.ofInt 0) q10.2 _ hf
        · have hf := (if_neg b11).symm.trans hf
          refine Ev.blk (pc' := 61) [(.aload_n 0, 0, 0, 0), (.iload 6, 0, 0, 0)] (by decide +kernel) trivial rfl (?_)
          show Ev l d mi_X3_waysTo 61 [some (.ref x0), some (.ref x1), some (.int x2), some (.int x3), none, some (.int x5), some (.int x6), none, none, none, none] [.int x6, .ref x0] (hp q10.2) 0 0 _
          obtain ⟨q12, hq12, hf⟩ := bd_some hf
          refine Ev.callV (o := x0) (M' := mi_X3_goals) (d' := d - 1) (As := [.int x6]) (rest := []) (r' := (some (.int q12.1), hp q12.2)) (e_X3_goals (d := d - 1) (by omega) x0 x6 q10.2 _ hq12) (by omega) wm_X3_goals wi_X3_goals wv_X3_goals km_3_143 (kk_ok c5) (Nat.le_of_ble_eq_true rfl) rfl rfl rfl (Nat.le_of_ble_eq_true rfl) ⟨Nat.le_of_ble_eq_true rfl, Nat.le_of_ble_eq_true rfl⟩ (by decide +kernel) ?_
          show Ev l d mi_X3_waysTo 64 [some (.ref x0), some (.ref x1), some (.int x2), some (.int x3), none, some (.int x5), some (.int x6), none, none, none, none] [.int q12.1] (hp q12.2) 0 0 _
          refine Ev.goto (off := 4) (tgt := 68) (by decide +kernel) (by decide) ?_
          exact (e_X3_waysTo_j68 hd rc_X3_waysTo h_X3_waysTo (f_X3_waysTo_L29 rc_X3_waysTo n) ih) x0 x1 x2 x3 x5 x6 q12.1 q12.2 _ hf
def f_X3_waysTo (rc_X3_waysTo : Nat → Nat → Int32 → Int32 → ST → Option (Int32 × ST)) (o : Nat) (p0 : Nat) (p1 : Int32) (p2 : Int32) (s : ST) : Option (Int32 × ST) := (f_X3_unlike o p0 s).bind (fun q1 => gd (kk o 3) ((if q1.1 ≤ ((Int32.ofInt 2) * p2) then (if 0 < p2 then (f_X3_waysTo_L29 rc_X3_waysTo fuel) o p0 p1 p2 (Int32.ofInt 0) (Int32.ofInt 0) q1.2 else some ((Int32.ofInt 1), q1.2)) else some ((Int32.ofInt 0), q1.2))))
set_option maxHeartbeats 2000000 in
set_option maxRecDepth 20000 in
theorem e_X3_waysTo {l : Launch} {d : Nat} (hd : 3 ≤ d) (rc_X3_waysTo : Nat → Nat → Int32 → Int32 → ST → Option (Int32 × ST)) (h_X3_waysTo : ∀ (o : Nat) (p0 : Nat) (p1 : Int32) (p2 : Int32) (s : ST) (r : Int32 × ST), rc_X3_waysTo o p0 p1 p2 s = some r → Cl l (d - 1) mi_X3_waysTo [.ref o, .ref p0, .int p1, .int p2] (hp s) (some (.int r.1), hp r.2)) (o : Nat) (p0 : Nat) (p1 : Int32) (p2 : Int32) (s : ST) (r : Int32 × ST) (hf : f_X3_waysTo rc_X3_waysTo o p0 p1 p2 s = some r) : Cl l d mi_X3_waysTo [.ref o, .ref p0, .int p1, .int p2] (hp s) (some (.int r.1), hp r.2) := by
  refine Ev.entry (by decide +kernel) rfl rfl ?_
  show Ev l d mi_X3_waysTo 0 [some (.ref o), some (.ref p0), some (.int p1), some (.int p2), none, none, none, none, none, none, none] [] (hp s) 0 0 _
  unfold f_X3_waysTo at hf
  refine Ev.blk (pc' := 2) [(.aload_n 0, 0, 0, 0), (.aload_n 1, 0, 0, 0)] (by decide +kernel) trivial rfl (?_)
  show Ev l d mi_X3_waysTo 2 [some (.ref o), some (.ref p0), some (.int p1), some (.int p2), none, none, none, none, none, none, none] [.ref p0, .ref o] (hp s) 0 0 _
  obtain ⟨q1, hq1, hf⟩ := bd_some hf
  obtain ⟨c2, hf⟩ := gd_some hf
  refine Ev.callV (o := o) (M' := mi_X3_unlike) (d' := d - 1) (As := [.ref p0]) (rest := []) (r' := (some (.int q1.1), hp q1.2)) (e_X3_unlike (d := d - 1) (by omega) o p0 s _ hq1) (by omega) wm_X3_unlike wi_X3_unlike wv_X3_unlike km_3_208 (kk_ok c2) (Nat.le_of_ble_eq_true rfl) rfl rfl rfl (Nat.le_of_ble_eq_true rfl) ⟨Nat.le_of_ble_eq_true rfl, Nat.le_of_ble_eq_true rfl⟩ (by decide +kernel) ?_
  show Ev l d mi_X3_waysTo 5 [some (.ref o), some (.ref p0), some (.int p1), some (.int p2), none, none, none, none, none, none, none] [.int q1.1] (hp q1.2) 0 0 _
  refine Ev.blk (pc' := 12) [(.istore 4, 0, 0, 0), (.iload 4, 0, 0, 0), (.iconst 2, 0, 0, 0), (.iload_n 3, 0, 0, 0), (.imul, 0, 0, 0)] (by decide +kernel) trivial rfl (And.intro (Nat.le_of_ble_eq_true rfl) (?_))
  show Ev l d mi_X3_waysTo 12 [some (.ref o), some (.ref p0), some (.int p1), some (.int p2), some (.int q1.1), none, none, none, none, none, none] [.int ((Int32.ofInt 2) * p2), .int q1.1] (hp q1.2) 0 0 _
  refine Ev.icmp_le (off := 5) (tgt := 17) (by decide +kernel) (by decide) (fun b3 => ?_) (fun b3 => ?_)
  · have hf := (if_pos b3).symm.trans hf
    refine Ev.blk (pc' := 18) [(.iload_n 3, 0, 0, 0)] (by decide +kernel) trivial rfl (?_)
    show Ev l d mi_X3_waysTo 18 [some (.ref o), some (.ref p0), some (.int p1), some (.int p2), some (.int q1.1), none, none, none, none, none, none] [.int p2] (hp q1.2) 0 0 _
    refine Ev.if_gt (off := 5) (tgt := 23) (by decide +kernel) (by decide) (fun b4 => ?_) (fun b4 => ?_)
    · have hf := (if_pos b4).symm.trans hf
      refine Ev.blk (pc' := 29) [(.iconst 0, 0, 0, 0), (.istore 5, 0, 0, 0), (.iconst 0, 0, 0, 0), (.istore 6, 0, 0, 0)] (by decide +kernel) trivial rfl (And.intro (Nat.le_of_ble_eq_true rfl) (And.intro (Nat.le_of_ble_eq_true rfl) (?_)))
      show Ev l d mi_X3_waysTo 29 [some (.ref o), some (.ref p0), some (.int p1), some (.int p2), some (.int q1.1), some (.int (Int32.ofInt 0)), some (.int (Int32.ofInt 0)), none, none, none, none] [] (hp q1.2) 0 0 _
      exact Ev.wk ((e_X3_waysTo_L29 hd rc_X3_waysTo h_X3_waysTo fuel) o p0 p1 p2 (Int32.ofInt 0) (Int32.ofInt 0) q1.2 _ hf) (And.intro (Or.inr rfl) (And.intro (Or.inr rfl) (And.intro (Or.inr rfl) (And.intro (Or.inr rfl) (And.intro (Or.inl rfl) (And.intro (Or.inr rfl) (And.intro (Or.inr rfl) (And.intro (Or.inr rfl) (And.intro (Or.inr rfl) (And.intro (Or.inr rfl) (And.intro (Or.inr rfl) (trivial))))))))))))
    · have hf := (if_neg b4).symm.trans hf
      refine Ev.blk (pc' := 22) [(.iconst 1, 0, 0, 0)] (by decide +kernel) trivial rfl (?_)
      show Ev l d mi_X3_waysTo 22 [some (.ref o), some (.ref p0), some (.int p1), some (.int p2), some (.int q1.1), none, none, none, none, none, none] [.int (Int32.ofInt 1)] (hp q1.2) 0 0 _
      cases hf
      exact Ev.iret .int rfl rfl (by decide +kernel) (Nat.le_refl _) (Nat.le_refl _)
  · have hf := (if_neg b3).symm.trans hf
    refine Ev.blk (pc' := 16) [(.iconst 0, 0, 0, 0)] (by decide +kernel) trivial rfl (?_)
    show Ev l d mi_X3_waysTo 16 [some (.ref o), some (.ref p0), some (.int p1), some (.int p2), some (.int q1.1), none, none, none, none, none, none] [.int (Int32.ofInt 0)] (hp q1.2) 0 0 _
    cases hf
    exact Ev.iret .int rfl rfl (by decide +kernel) (Nat.le_refl _) (Nat.le_refl _)
def t2_waysTo : Nat → Nat → Nat → Int32 → Int32 → ST → Option (Int32 × ST)
  | 0, _, _, _, _, _ => none
  | n + 1, o, w, a, b, s => f_X3_waysTo (t2_waysTo n) o w a b s
theorem te2_waysTo {l : Launch} : ∀ (n d : Nat), 3 + n ≤ d → ∀ (o w : Nat) (a b : Int32) (s : ST) (r : Int32 × ST), t2_waysTo n o w a b s = some r → Cl l d mi_X3_waysTo [.ref o, .ref w, .int a, .int b] (hp s) (some (.int r.1), hp r.2) := by
  intro n
  induction n with
  | zero =>
    intro d hd o w a b s r hf
    cases hf
  | succ n ih =>
    intro d hd o w a b s r hf
    exact e_X3_waysTo (by omega) (t2_waysTo n) (fun o p0 p1 p2 s r h => ih (d - 1) (by omega) o p0 p1 p2 s r h) o w a b s r hf
def t_X3_waysTo (o w : Nat) (a b : Int32) (s : ST) : Option (Int32 × ST) := t2_waysTo 6 o w a b s
theorem te_X3_waysTo {l : Launch} {d : Nat} (hd : 15 ≤ d) (o w : Nat) (a b : Int32) (s : ST) (r : Int32 × ST) (hf : t_X3_waysTo o w a b s = some r) : Cl l d mi_X3_waysTo [.ref o, .ref w, .int a, .int b] (hp s) (some (.int r.1), hp r.2) := te2_waysTo 6 d (by omega) o w a b s r hf
def f_X3_strike_j83 (x3 : Int32) (y0 : Nat) (y1 : Int32) (s : ST) : Option (Int32 × ST) := gd (kk y0 3) (lt (uI s y0 13 y1) (fun s26 => some (x3, s26)))
set_option maxHeartbeats 2000000 in
set_option maxRecDepth 20000 in
theorem e_X3_strike_j83 {l : Launch} {d : Nat} (hd : 4 ≤ d) (x3 : Int32) (y0 : Nat) (y1 : Int32) (s : ST) (r : Int32 × ST) (hf : f_X3_strike_j83 x3 y0 y1 s = some r) : Ev l d mi_X3_strike 83 [none, none, none, some (.int x3)] [.int y1, .ref y0] (hp s) 0 0 (some (.int r.1), hp r.2) := by
  unfold f_X3_strike_j83 at hf
  obtain ⟨c25, hf⟩ := gd_some hf
  obtain ⟨s26, hs26, hf⟩ := lt_some hf
  refine Ev.blk (pc' := 87) [(.putfield 53, 0, 3, 13), (.iload_n 3, 0, 0, 0)] (by decide +kernel) ⟨⟨kf_3_53, Or.inl rfl⟩, trivial⟩ rfl (And.intro (kk_ok c25) (?_))
  show Ev l d mi_X3_strike 87 [none, none, none, some (.int x3)] [.int x3] (hp (uI s y0 13 y1)) 0 0 _
  rw [← hs26]
  cases hf
  exact Ev.iret .int rfl rfl (by decide +kernel) (Nat.le_refl _) (Nat.le_refl _)
def f_X3_strike (o : Nat) (p0 : Int32) (s : ST) : Option (Int32 × ST) := (f_X9_manOfMove p0 s).bind (fun q1 => (if p0 < 0 then some ((Int32.ofInt (-1)), q1.2) else gd (kk o 3) ((RR q1.2.2.2 o 0).bind (fun a4 => gd (kk a4 4) ((if (q1.2.1 a4 8) ≤ q1.1 then some ((Int32.ofInt (-1)), q1.2) else (RR q1.2.2.2 o 4).bind (fun a7 => gd (kk a7 13) (gd (ib q1.1 (K0 a7).2) ((if 0 ≤ (q1.2.1 a7 q1.1.toNatClampNeg) then (f_X9_placeOfMove p0 q1.2).bind (fun q11 => lt (uI q11.2 o 12 q11.1) (fun s12 => (f_X3_carry o q1.1 (s12.1 o 12) s12).bind (fun q13 => (RR q13.2.2.2 o 0).bind (fun a14 => (f_X4_worthOf a14 q13.1 q13.2).bind (fun q15 => gd (kk a14 4) ((RR (uI q15.2 o 11 q15.1).2.2 o 0).bind (fun a17 => gd (kk a17 4) ((RR (uI q15.2 o 11 q15.1).2.2 a17 10).bind (fun a19 => gd (kk a19 13) (gd (ib q1.1 (K0 a19).2) (lt (uI q15.2 o 11 q15.1) (fun s22 => (f_X3_threatens o (s22.1 a19 q1.1.toNatClampNeg) s22).bind (fun q23 => (if q23.1 = 0 then f_X3_strike_j83 q13.1 o (Int32.ofInt 0) q23.2 else f_X3_strike_j83 q13.1 o (Int32.ofInt 1) q23.2)))))))))))))) else some ((Int32.ofInt (-1)), q1.2)))))))))))
set_option maxHeartbeats 2000000 in
set_option maxRecDepth 20000 in
theorem e_X3_strike {l : Launch} {d : Nat} (hd : 4 ≤ d) (o : Nat) (p0 : Int32) (s : ST) (r : Int32 × ST) (hf : f_X3_strike o p0 s = some r) : Cl l d mi_X3_strike [.ref o, .int p0] (hp s) (some (.int r.1), hp r.2) := by
  refine Ev.entry (by decide +kernel) rfl rfl ?_
  show Ev l d mi_X3_strike 0 [some (.ref o), some (.int p0), none, none] [] (hp s) 0 0 _
  unfold f_X3_strike at hf
  refine Ev.blk (pc' := 1) [(.iload_n 1, 0, 0, 0)] (by decide +kernel) trivial rfl (?_)
  show Ev l d mi_X3_strike 1 [some (.ref o), some (.int p0), none, none] [.int p0] (hp s) 0 0 _
  obtain ⟨q1, hq1, hf⟩ := bd_some hf
  refine Ev.callSN (M' := mi_X9_manOfMove) (d' := d - 1) (As := [.int p0]) (rest := []) (r' := (some (.int q1.1), hp q1.2)) (e_X9_manOfMove (d := d - 1) (by omega) p0 s _ hq1) (by omega) wm_X9_manOfMove wt_X9_manOfMove kn_3_162 rfl rfl rfl (Nat.le_of_ble_eq_true rfl) ⟨Nat.le_of_ble_eq_true rfl, Nat.le_of_ble_eq_true rfl⟩ (by decide +kernel) ?_
  show Ev l d mi_X3_strike 4 [some (.ref o), some (.int p0), none, none] [.int q1.1] (hp q1.2) 0 0 _
  refine Ev.blk (pc' := 6) [(.istore_n 2, 0, 0, 0), (.iload_n 1, 0, 0, 0)] (by decide +kernel) trivial rfl (And.intro (Nat.le_of_ble_eq_true rfl) (?_))
  show Ev l d mi_X3_strike 6 [some (.ref o), some (.int p0), some (.int q1.1), none] [.int p0] (hp q1.2) 0 0 _
  refine Ev.if_lt (off := 23) (tgt := 29) (by decide +kernel) (by decide) (fun b2 => ?_) (fun b2 => ?_)
  · have hf := (if_pos b2).symm.trans hf
    refine Ev.blk (pc' := 30) [(.iconst (-1), 0, 0, 0)] (by decide +kernel) trivial rfl (?_)
    show Ev l d mi_X3_strike 30 [some (.ref o), some (.int p0), some (.int q1.1), none] [.int (Int32.ofInt (-1))] (hp q1.2) 0 0 _
    cases hf
    exact Ev.iret .int rfl rfl (by decide +kernel) (Nat.le_refl _) (Nat.le_refl _)
  · have hf := (if_neg b2).symm.trans hf
    obtain ⟨c3, hf⟩ := gd_some hf
    obtain ⟨a4, ha4, hf⟩ := bd_some hf
    obtain ⟨c5, hf⟩ := gd_some hf
    refine Ev.blk (pc' := 17) [(.iload_n 2, 0, 0, 0), (.aload_n 0, 0, 0, 0), (.getfield 56, 0, 3, 0), (.getfield 66, 0, 4, 8)] (by decide +kernel) ⟨kf_3_56, ⟨kf_3_66, trivial⟩⟩ rfl (And.intro (kk_ok c3) (Exists.intro a4 (And.intro ha4 (And.intro (kk_ok c5) (?_)))))
    show Ev l d mi_X3_strike 17 [some (.ref o), some (.int p0), some (.int q1.1), none] [.int (q1.2.1 a4 8), .int q1.1] (hp q1.2) 0 0 _
    refine Ev.icmp_ge (off := 12) (tgt := 29) (by decide +kernel) (by decide) (fun b6 => ?_) (fun b6 => ?_)
    · have hf := (if_pos b6).symm.trans hf
      refine Ev.blk (pc' := 30) [(.iconst (-1), 0, 0, 0)] (by decide +kernel) trivial rfl (?_)
      show Ev l d mi_X3_strike 30 [some (.ref o), some (.int p0), some (.int q1.1), none] [.int (Int32.ofInt (-1))] (hp q1.2) 0 0 _
      cases hf
      exact Ev.iret .int rfl rfl (by decide +kernel) (Nat.le_refl _) (Nat.le_refl _)
    · have hf := (if_neg b6).symm.trans hf
      obtain ⟨a7, ha7, hf⟩ := bd_some hf
      obtain ⟨c8, hf⟩ := gd_some hf
      obtain ⟨c9, hf⟩ := gd_some hf
      refine Ev.blk (pc' := 26) [(.aload_n 0, 0, 0, 0), (.getfield 22, 0, 3, 4), (.iload_n 2, 0, 0, 0), (.iaload, 0, 0, 0)] (by decide +kernel) ⟨kf_3_22, trivial⟩ rfl (And.intro (kk_ok c3) (Exists.intro a7 (And.intro ha7 (And.intro (kk_ok c8) (And.intro (ib_ok c9) (?_))))))
      show Ev l d mi_X3_strike 26 [some (.ref o), some (.int p0), some (.int q1.1), none] [.int (q1.2.1 a7 q1.1.toNatClampNeg)] (hp q1.2) 0 0 _
      refine Ev.if_ge (off := 5) (tgt := 31) (by decide +kernel) (by decide) (fun b10 => ?_) (fun b10 => ?_)
      · have hf := (if_pos b10).symm.trans hf
        refine Ev.blk (pc' := 33) [(.aload_n 0, 0, 0, 0), (.iload_n 1, 0, 0, 0)] (by decide +kernel) trivial rfl (?_)
        show Ev l d mi_X3_strike 33 [some (.ref o), some (.int p0), some (.int q1.1), none] [.int p0, .ref o] (hp q1.2) 0 0 _
        obtain ⟨q11, hq11, hf⟩ := bd_some hf
        refine Ev.callSN (M' := mi_X9_placeOfMove) (d' := d - 1) (As := [.int p0]) (rest := [.ref o]) (r' := (some (.int q11.1), hp q11.2)) (e_X9_placeOfMove (d := d - 1) (by omega) p0 q1.2 _ hq11) (by omega) wm_X9_placeOfMove wt_X9_placeOfMove kn_3_165 rfl rfl rfl (Nat.le_of_ble_eq_true rfl) ⟨Nat.le_of_ble_eq_true rfl, Nat.le_of_ble_eq_true rfl⟩ (by decide +kernel) ?_
        show Ev l d mi_X3_strike 36 [some (.ref o), some (.int p0), some (.int q1.1), none] [.int q11.1, .ref o] (hp q11.2) 0 0 _
        obtain ⟨s12, hs12, hf⟩ := lt_some hf
        refine Ev.blk (pc' := 45) [(.putfield 50, 0, 3, 12), (.aload_n 0, 0, 0, 0), (.iload_n 2, 0, 0, 0), (.aload_n 0, 0, 0, 0), (.getfield 50, 0, 3, 12)] (by decide +kernel) ⟨⟨kf_3_50, Or.inl rfl⟩, ⟨kf_3_50, trivial⟩⟩ rfl (And.intro (kk_ok c3) (And.intro (kk_ok c3) (?_)))
        show Ev l d mi_X3_strike 45 [some (.ref o), some (.int p0), some (.int q1.1), none] [.int ((uI q11.2 o 12 q11.1).1 o 12), .int q1.1, .ref o] (hp (uI q11.2 o 12 q11.1)) 0 0 _
        rw [← hs12]
        obtain ⟨q13, hq13, hf⟩ := bd_some hf
        refine Ev.callV (o := o) (M' := mi_X3_carry) (d' := d - 1) (As := [.int q1.1, .int (s12.1 o 12)]) (rest := []) (r' := (some (.int q13.1), hp q13.2)) (e_X3_carry (d := d - 1) (by omega) o q1.1 (s12.1 o 12) s12 _ hq13) (by omega) wm_X3_carry wi_X3_carry wv_X3_carry km_3_186 (kk_ok c3) (Nat.le_of_ble_eq_true rfl) rfl rfl rfl (Nat.le_of_ble_eq_true rfl) ⟨Nat.le_of_ble_eq_true rfl, Nat.le_of_ble_eq_true rfl⟩ (by decide +kernel) ?_
        show Ev l d mi_X3_strike 48 [some (.ref o), some (.int p0), some (.int q1.1), none] [.int q13.1] (hp q13.2) 0 0 _
        obtain ⟨a14, ha14, hf⟩ := bd_some hf
        refine Ev.blk (pc' := 55) [(.istore_n 3, 0, 0, 0), (.aload_n 0, 0, 0, 0), (.aload_n 0, 0, 0, 0), (.getfield 56, 0, 3, 0), (.iload_n 3, 0, 0, 0)] (by decide +kernel) ⟨kf_3_56, trivial⟩ rfl (And.intro (Nat.le_of_ble_eq_true rfl) (And.intro (kk_ok c3) (Exists.intro a14 (And.intro ha14 (?_)))))
        show Ev l d mi_X3_strike 55 [some (.ref o), some (.int p0), some (.int q1.1), some (.int q13.1)] [.int q13.1, .ref a14, .ref o] (hp q13.2) 0 0 _
        obtain ⟨q15, hq15, hf⟩ := bd_some hf
        obtain ⟨c16, hf⟩ := gd_some hf
        refine Ev.callV (o := a14) (M' := mi_X4_worthOf) (d' := d - 1) (As := [.int q13.1]) (rest := [.ref o]) (r' := (some (.int q15.1), hp q15.2)) (e_X4_worthOf (d := d - 1) (by omega) a14 q13.1 q13.2 _ hq15) (by omega) wm_X4_worthOf wi_X4_worthOf wv_X4_worthOf km_3_196 (kk_ok c16) (Nat.le_of_ble_eq_true rfl) rfl rfl rfl (Nat.le_of_ble_eq_true rfl) ⟨Nat.le_of_ble_eq_true rfl, Nat.le_of_ble_eq_true rfl⟩ (by decide +kernel) ?_
        show Ev l d mi_X3_strike 58 [some (.ref o), some (.int p0), some (.int q1.1), some (.int q13.1)] [.int q15.1, .ref o] (hp q15.2) 0 0 _
        obtain ⟨a17, ha17, hf⟩ := bd_some hf
        obtain ⟨c18, hf⟩ := gd_some hf
        obtain ⟨a19, ha19, hf⟩ := bd_some hf
        obtain ⟨c20, hf⟩ := gd_some hf
        obtain ⟨c21, hf⟩ := gd_some hf
        obtain ⟨s22, hs22, hf⟩ := lt_some hf
        refine Ev.blk (pc' := 72) [(.putfield 47, 0, 3, 11), (.aload_n 0, 0, 0, 0), (.aload_n 0, 0, 0, 0), (.aload_n 0, 0, 0, 0), (.getfield 56, 0, 3, 0), (.getfield 106, 0, 4, 10), (.iload_n 2, 0, 0, 0), (.iaload, 0, 0, 0)] (by decide +kernel) ⟨⟨kf_3_47, Or.inl rfl⟩, ⟨kf_3_56, ⟨kf_3_106, trivial⟩⟩⟩ rfl (And.intro (kk_ok c3) (And.intro (kk_ok c3) (Exists.intro a17 (And.intro ha17 (And.intro (kk_ok c18) (Exists.intro a19 (And.intro ha19 (And.intro (kk_ok c20) (And.intro (ib_ok c21) (?_))))))))))
        show Ev l d mi_X3_strike 72 [some (.ref o), some (.int p0), some (.int q1.1), some (.int q13.1)] [.int ((uI q15.2 o 11 q15.1).1 a19 q1.1.toNatClampNeg), .ref o, .ref o] (hp (uI q15.2 o 11 q15.1)) 0 0 _
        rw [← hs22]
        obtain ⟨q23, hq23, hf⟩ := bd_some hf
        refine Ev.callV (o := o) (M' := mi_X3_threatens) (d' := d - 1) (As := [.int (s22.1 a19 q1.1.toNatClampNeg)]) (rest := [.ref o]) (r' := (some (.int q23.1), hp q23.2)) (e_X3_threatens (d := d - 1) (by omega) o (s22.1 a19 q1.1.toNatClampNeg) s22 _ hq23) (by omega) wm_X3_threatens wi_X3_threatens wv_X3_threatens km_3_199 (kk_ok c3) (Nat.le_of_ble_eq_true rfl) rfl rfl rfl (Nat.le_of_ble_eq_true rfl) ⟨Nat.le_of_ble_eq_true rfl, Nat.le_of_ble_eq_true rfl⟩ (by decide +kernel) ?_
        show Ev l d mi_X3_strike 75 [some (.ref o), some (.int p0), some (.int q1.1), some (.int q13.1)] [.int q23.1, .ref o] (hp q23.2) 0 0 _
        refine Ev.if_eq (off := 7) (tgt := 82) (by decide +kernel) (by decide) (fun b24 => ?_) (fun b24 => ?_)
        · have hf := (if_pos b24).symm.trans hf
          refine Ev.blk (pc' := 83) [(.iconst 0, 0, 0, 0)] (by decide +kernel) trivial rfl (?_)
          show Ev l d mi_X3_strike 83 [some (.ref o), some (.int p0), some (.int q1.1), some (.int q13.1)] [.int (Int32.ofInt 0), .ref o] (hp q23.2) 0 0 _
          exact Ev.wk ((e_X3_strike_j83 hd) q13.1 o (Int32.ofInt 0) q23.2 _ hf) (And.intro (Or.inl rfl) (And.intro (Or.inl rfl) (And.intro (Or.inl rfl) (And.intro (Or.inr rfl) (trivial)))))
        · have hf := (if_neg b24).symm.trans hf
          refine Ev.blk (pc' := 79) [(.iconst 1, 0, 0, 0)] (by decide +kernel) trivial rfl (?_)
          show Ev l d mi_X3_strike 79 [some (.ref o), some (.int p0), some (.int q1.1), some (.int q13.1)] [.int (Int32.ofInt 1), .ref o] (hp q23.2) 0 0 _
          refine Ev.goto (off := 4) (tgt := 83) (by decide +kernel) (by decide) ?_
          exact Ev.wk ((e_X3_strike_j83 hd) q13.1 o (Int32.ofInt 1) q23.2 _ hf) (And.intro (Or.inl rfl) (And.intro (Or.inl rfl) (And.intro (Or.inl rfl) (And.intro (Or.inr rfl) (trivial)))))
      · have hf := (if_neg b10).symm.trans hf
        refine Ev.blk (pc' := 30) [(.iconst (-1), 0, 0, 0)] (by decide +kernel) trivial rfl (?_)
        show Ev l d mi_X3_strike 30 [some (.ref o), some (.int p0), some (.int q1.1), none] [.int (Int32.ofInt (-1))] (hp q1.2) 0 0 _
        cases hf
        exact Ev.iret .int rfl rfl (by decide +kernel) (Nat.le_refl _) (Nat.le_refl _)
def f_X3_turn_L2 (k45 : Nat → ST → Option (ST)) : Nat → Nat → Int32 → ST → Option (ST)
  | 0, _, _, _ => none
  | n + 1, x0, x1, s => gd (kk x0 3) ((RR s.2.2 x0 0).bind (fun a2 => gd (kk a2 4) ((if (s.1 a2 12) ≤ x1 then k45 x0 s else (RR s.2.2 x0 5).bind (fun a5 => (RR s.2.2 x0 5).bind (fun a6 => gd (kk a6 13) (gd (ib x1 (K0 a6).2) ((RR s.2.2 x0 0).bind (fun a9 => gd (kk a9 4) (gd (kk a5 13) (gd (ib x1 (K0 a5).2) (lt (uI s a5 x1.toNatClampNeg (if ((s.1 a6 x1.toNatClampNeg) + (s.1 a9 18)) < ((Int16.ofInt 999).toInt32) then ((s.1 a6 x1.toNatClampNeg) + (s.1 a9 18)) else ((Int16.ofInt 999).toInt32))) (fun s13 => (f_X3_turn_L2 k45 n) x0 (x1 + Int32.ofInt 1) s13)))))))))))))
set_option maxHeartbeats 2000000 in
set_option maxRecDepth 20000 in
theorem e_X3_turn_L2 {l : Launch} {d : Nat} (hd : 2 ≤ d) (k45 : Nat → ST → Option (ST)) (hk45 : ∀ (x0 : Nat) (s : ST) (r : ST), k45 x0 s = some r → Ev l d mi_X3_turn 45 [some (.ref x0), none] [] (hp s) 0 0 (none, hp r)) : ∀ (n : Nat) (x0 : Nat) (x1 : Int32) (s : ST) (r : ST), f_X3_turn_L2 k45 n x0 x1 s = some r → Ev l d mi_X3_turn 2 [some (.ref x0), some (.int x1)] [] (hp s) 0 0 (none, hp r) := by
  intro n
  induction n with
  | zero =>
    intro x0 x1 s r hf
    cases hf
  | succ n ih =>
    intro x0 x1 s r hf
    unfold f_X3_turn_L2 at hf
    obtain ⟨c1, hf⟩ := gd_some hf
    obtain ⟨a2, ha2, hf⟩ := bd_some hf
    obtain ⟨c3, hf⟩ := gd_some hf
    refine Ev.blk (pc' := 10) [(.iload_n 1, 0, 0, 0), (.aload_n 0, 0, 0, 0), (.getfield 56, 0, 3, 0), (.getfield 72, 0, 4, 12)] (by decide +kernel) ⟨kf_3_56, ⟨kf_3_72, trivial⟩⟩ rfl (And.intro (kk_ok c1) (Exists.intro a2 (And.intro ha2 (And.intro (kk_ok c3) (?_)))))
    show Ev l d mi_X3_turn 10 [some (.ref x0), some (.int x1)] [.int (s.1 a2 12), .int x1] (hp s) 0 0 _
    refine Ev.icmp_ge (off := 35) (tgt := 45) (by decide +kernel) (by decide) (fun b4 => ?_) (fun b4 => ?_)
    · have hf := (if_pos b4).symm.trans hf
      exact Ev.wk (hk45 x0 s _ hf) (And.intro (Or.inr rfl) (And.intro (Or.inl rfl) (trivial)))
    · have hf := (if_neg b4).symm.trans hf
      obtain ⟨a5, ha5, hf⟩ := bd_some hf
      obtain ⟨a6, ha6, hf⟩ := bd_some hf
      obtain ⟨c7, hf⟩ := gd_some hf
      obtain ⟨c8, hf⟩ := gd_some hf
      obtain ⟨a9, ha9, hf⟩ := bd_some hf
      obtain ⟨c10, hf⟩ := gd_some hf
      refine Ev.blk (pc' := 35) [(.aload_n 0, 0, 0, 0), (.getfield 25, 0, 3, 5), (.iload_n 1, 0, 0, 0), (.sipush 999, 0, 0, 0), (.aload_n 0, 0, 0, 0), (.getfield 25, 0, 3, 5), (.iload_n 1, 0, 0, 0), (.iaload, 0, 0, 0), (.aload_n 0, 0, 0, 0), (.getfield 56, 0, 3, 0), (.getfield 257, 0, 4, 18), (.iadd, 0, 0, 0)] (by decide +kernel) ⟨kf_3_25, ⟨kf_3_25, ⟨kf_3_56, ⟨kf_3_257, trivial⟩⟩⟩⟩ rfl (And.intro (kk_ok c1) (Exists.intro a5 (And.intro ha5 (And.intro (kk_ok c1) (Exists.intro a6 (And.intro ha6 (And.intro (kk_ok c7) (And.intro (ib_ok c8) (And.intro (kk_ok c1) (Exists.intro a9 (And.intro ha9 (And.intro (kk_ok c10) (?_)))))))))))))
      show Ev l d mi_X3_turn 35 [some (.ref x0), some (.int x1)] [.int ((s.1 a6 x1.toNatClampNeg) + (s.1 a9 18)), .int ((Int16.ofInt 999).toInt32), .int x1, .ref a5] (hp s) 0 0 _
      refine Ev.mmin km_3_260 wt_J9_min_7cf53 wini_12 wm_J9_min_7cf53.1 (by omega) (Nat.le_of_ble_eq_true rfl) ⟨Nat.le_refl _, Nat.le_refl _⟩ (by decide +kernel) ?_
      show Ev l d mi_X3_turn 38 [some (.ref x0), some (.int x1)] [.int (if ((s.1 a6 x1.toNatClampNeg) + (s.1 a9 18)) < ((Int16.ofInt 999).toInt32) then ((s.1 a6 x1.toNatClampNeg) + (s.1 a9 18)) else ((Int16.ofInt 999).toInt32)), .int x1, .ref a5] (hp s) 0 0 _
      obtain ⟨c11, hf⟩ := gd_some hf
      obtain ⟨c12, hf⟩ := gd_some hf
      obtain ⟨s13, hs13, hf⟩ := lt_some hf
      refine Ev.blk (pc' := 42) [(.iastore, 0, 0, 0), (.iinc 1 1, 0, 0, 0)] (by decide +kernel) trivial rfl (And.intro (kk_ok c11) (And.intro (ib_ok c12) (And.intro (Nat.le_of_ble_eq_true rfl) (?_))))
      show Ev l d mi_X3_turn 42 [some (.ref x0), some (.int (x1 + Int32.ofInt 1))] [] (hp (uI s a5 x1.toNatClampNeg (if ((s.1 a6 x1.toNatClampNeg) + (s.1 a9 18)) < ((Int16.ofInt 999).toInt32) then ((s.1 a6 x1.toNatClampNeg) + (s.1 a9 18)) else ((Int16.ofInt 999).toInt32)))) 0 0 _
      rw [← hs13]
      refine Ev.goto (off := -40) (tgt := 2) (by decide +kernel) (by decide) ?_
      exact ih x0 (x1 + Int32.ofInt 1) s13 _ hf
def f_X3_turn_j45 (x0 : Nat) (s : ST) : Option (ST) := gd (kk x0 3) (lt (uI s x0 2 ((Int32.ofInt 1) - (s.1 x0 2))) (fun s15 => lt (uI s15 x0 1 (if ((s15.1 x0 1) + (Int32.ofInt 1)) < ((Int16.ofInt 999).toInt32) then ((s15.1 x0 1) + (Int32.ofInt 1)) else ((Int16.ofInt 999).toInt32))) (fun s16 => some s16)))
set_option maxHeartbeats 2000000 in
set_option maxRecDepth 20000 in
theorem e_X3_turn_j45 {l : Launch} {d : Nat} (hd : 2 ≤ d) (x0 : Nat) (s : ST) (r : ST) (hf : f_X3_turn_j45 x0 s = some r) : Ev l d mi_X3_turn 45 [some (.ref x0), none] [] (hp s) 0 0 (none, hp r) := by
  unfold f_X3_turn_j45 at hf
  obtain ⟨c14, hf⟩ := gd_some hf
  obtain ⟨s15, hs15, hf⟩ := lt_some hf
  refine Ev.blk (pc' := 65) [(.aload_n 0, 0, 0, 0), (.iconst 1, 0, 0, 0), (.aload_n 0, 0, 0, 0), (.getfield 15, 0, 3, 2), (.isub, 0, 0, 0), (.putfield 15, 0, 3, 2), (.aload_n 0, 0, 0, 0), (.sipush 999, 0, 0, 0), (.aload_n 0, 0, 0, 0), (.getfield 9, 0, 3, 1), (.iconst 1, 0, 0, 0), (.iadd, 0, 0, 0)] (by decide +kernel) ⟨kf_3_15, ⟨⟨kf_3_15, Or.inl rfl⟩, ⟨kf_3_9, trivial⟩⟩⟩ rfl (And.intro (kk_ok c14) (And.intro (kk_ok c14) (And.intro (kk_ok c14) (?_))))
  show Ev l d mi_X3_turn 65 [some (.ref x0), none] [.int (((uI s x0 2 ((Int32.ofInt 1) - (s.1 x0 2))).1 x0 1) + (Int32.ofInt 1)), .int ((Int16.ofInt 999).toInt32), .ref x0] (hp (uI s x0 2 ((Int32.ofInt 1) - (s.1 x0 2)))) 0 0 _
  rw [← hs15]
  refine Ev.mmin km_3_260 wt_J9_min_7cf53 wini_12 wm_J9_min_7cf53.1 (by omega) (Nat.le_of_ble_eq_true rfl) ⟨Nat.le_refl _, Nat.le_refl _⟩ (by decide +kernel) ?_
  show Ev l d mi_X3_turn 68 [some (.ref x0), none] [.int (if ((s15.1 x0 1) + (Int32.ofInt 1)) < ((Int16.ofInt 999).toInt32) then ((s15.1 x0 1) + (Int32.ofInt 1)) else ((Int16.ofInt 999).toInt32)), .ref x0] (hp s15) 0 0 _
  obtain ⟨s16, hs16, hf⟩ := lt_some hf
  refine Ev.blk (pc' := 71) [(.putfield 9, 0, 3, 1)] (by decide +kernel) ⟨⟨kf_3_9, Or.inl rfl⟩, trivial⟩ rfl (And.intro (kk_ok c14) (?_))
  show Ev l d mi_X3_turn 71 [some (.ref x0), none] [] (hp (uI s15 x0 1 (if ((s15.1 x0 1) + (Int32.ofInt 1)) < ((Int16.ofInt 999).toInt32) then ((s15.1 x0 1) + (Int32.ofInt 1)) else ((Int16.ofInt 999).toInt32)))) 0 0 _
  rw [← hs16]
  cases hf
  exact Ev.vret rfl (by decide +kernel) (Nat.le_refl _) (Nat.le_refl _)
def f_X3_turn (o : Nat) (s : ST) : Option (ST) := (f_X3_turn_L2 f_X3_turn_j45 fuel) o (Int32.ofInt 0) s
set_option maxHeartbeats 2000000 in
set_option maxRecDepth 20000 in
theorem e_X3_turn {l : Launch} {d : Nat} (hd : 2 ≤ d) (o : Nat) (s : ST) (r : ST) (hf : f_X3_turn o s = some r) : Cl l d mi_X3_turn [.ref o] (hp s) (none, hp r) := by
  refine Ev.entry (by decide +kernel) rfl rfl ?_
  show Ev l d mi_X3_turn 0 [some (.ref o), none] [] (hp s) 0 0 _
  unfold f_X3_turn at hf
  refine Ev.blk (pc' := 2) [(.iconst 0, 0, 0, 0), (.istore_n 1, 0, 0, 0)] (by decide +kernel) trivial rfl (And.intro (Nat.le_of_ble_eq_true rfl) (?_))
  show Ev l d mi_X3_turn 2 [some (.ref o), some (.int (Int32.ofInt 0))] [] (hp s) 0 0 _
  exact (e_X3_turn_L2 hd f_X3_turn_j45 (e_X3_turn_j45 hd) fuel) o (Int32.ofInt 0) s _ hf
def f_X6_fact (o : Nat) (p0 : Int32) (s : ST) : Option (Int32 × ST) := (if p0 < 0 then some ((Int32.ofInt 0), s) else gd (kk o 6) ((RR s.2.2 o 0).bind (fun a3 => gd (kr a3) ((if (Int32.ofNat (K0 a3).2) ≤ p0 then some ((Int32.ofInt 0), s) else (RR s.2.2 o 0).bind (fun a6 => gd (kk a6 13) (gd (ib p0 (K0 a6).2) (some ((s.1 a6 p0.toNatClampNeg), s)))))))))
set_option maxHeartbeats 2000000 in
set_option maxRecDepth 20000 in
theorem e_X6_fact {l : Launch} {d : Nat} (hd : 1 ≤ d) (o : Nat) (p0 : Int32) (s : ST) (r : Int32 × ST) (hf : f_X6_fact o p0 s = some r) : Cl l d mi_X6_fact [.ref o, .int p0] (hp s) (some (.int r.1), hp r.2) := by
  refine Ev.entry (by decide +kernel) rfl rfl ?_
  show Ev l d mi_X6_fact 0 [some (.ref o), some (.int p0)] [] (hp s) 0 0 _
  unfold f_X6_fact at hf
  refine Ev.blk (pc' := 1) [(.iload_n 1, 0, 0, 0)] (by decide +kernel) trivial rfl (?_)
  show Ev l d mi_X6_fact 1 [some (.ref o), some (.int p0)] [.int p0] (hp s) 0 0 _
  refine Ev.if_lt (off := 21) (tgt := 22) (by decide +kernel) (by decide) (fun b1 => ?_) (fun b1 => ?_)
  · have hf := (if_pos b1).symm.trans hf
    refine Ev.blk (pc' := 23) [(.iconst 0, 0, 0, 0)] (by decide +kernel) trivial rfl (?_)
    show Ev l d mi_X6_fact 23 [some (.ref o), some (.int p0)] [.int (Int32.ofInt 0)] (hp s) 0 0 _
    cases hf
    exact Ev.iret .int rfl rfl (by decide +kernel) (Nat.le_refl _) (Nat.le_refl _)
  · have hf := (if_neg b1).symm.trans hf
    obtain ⟨c2, hf⟩ := gd_some hf
    obtain ⟨a3, ha3, hf⟩ := bd_some hf
    obtain ⟨c4, hf⟩ := gd_some hf
    refine Ev.blk (pc' := 10) [(.iload_n 1, 0, 0, 0), (.aload_n 0, 0, 0, 0), (.getfield 9, 0, 6, 0), (.arraylength, 0, 0, 0)] (by decide +kernel) ⟨kf_6_9, trivial⟩ rfl (And.intro (kk_ok c2) (Exists.intro a3 (And.intro ha3 (And.intro (kr_ok c4) (?_)))))
    show Ev l d mi_X6_fact 10 [some (.ref o), some (.int p0)] [.int (Int32.ofNat (K0 a3).2), .int p0] (hp s) 0 0 _
    refine Ev.icmp_ge (off := 12) (tgt := 22) (by decide +kernel) (by decide) (fun b5 => ?_) (fun b5 => ?_)
    · have hf := (if_pos b5).symm.trans hf
      refine Ev.blk (pc' := 23) [(.iconst 0, 0, 0, 0)] (by decide +kernel) trivial rfl (?_)
      show Ev l d mi_X6_fact 23 [some (.ref o), some (.int p0)] [.int (Int32.ofInt 0)] (hp s) 0 0 _
      cases hf
      exact Ev.iret .int rfl rfl (by decide +kernel) (Nat.le_refl _) (Nat.le_refl _)
    · have hf := (if_neg b5).symm.trans hf
      obtain ⟨a6, ha6, hf⟩ := bd_some hf
      obtain ⟨c7, hf⟩ := gd_some hf
      obtain ⟨c8, hf⟩ := gd_some hf
      refine Ev.blk (pc' := 19) [(.aload_n 0, 0, 0, 0), (.getfield 9, 0, 6, 0), (.iload_n 1, 0, 0, 0), (.iaload, 0, 0, 0)] (by decide +kernel) ⟨kf_6_9, trivial⟩ rfl (And.intro (kk_ok c2) (Exists.intro a6 (And.intro ha6 (And.intro (kk_ok c7) (And.intro (ib_ok c8) (?_))))))
      show Ev l d mi_X6_fact 19 [some (.ref o), some (.int p0)] [.int (s.1 a6 p0.toNatClampNeg)] (hp s) 0 0 _
      refine Ev.goto (off := 4) (tgt := 23) (by decide +kernel) (by decide) ?_
      cases hf
      exact Ev.iret .int rfl rfl (by decide +kernel) (Nat.le_refl _) (Nat.le_refl _)
def f_J9_floorDiv_7cf53 (p0 : Int32) (p1 : Int32) (s : ST) : Option (Int32 × ST) := gd (nz p1) ((if 0 ≤ (p0 ^^^ p1) then some ((p0 / p1), s) else (if ((p0 / p1) * p1) = p0 then some ((p0 / p1), s) else some (((p0 / p1) - (Int32.ofInt 1)), s))))
set_option maxHeartbeats 2000000 in
set_option maxRecDepth 20000 in
theorem e_J9_floorDiv_7cf53 {l : Launch} {d : Nat} (hd : 1 ≤ d) (p0 : Int32) (p1 : Int32) (s : ST) (r : Int32 × ST) (hf : f_J9_floorDiv_7cf53 p0 p1 s = some r) : Cl l d mi_J9_floorDiv_7cf53 [.int p0, .int p1] (hp s) (some (.int r.1), hp r.2) := by
  refine Ev.entryF (by decide +kernel) rfl rfl ?_
  show Ev l d mi_J9_floorDiv_7cf53 0 [some (.int p0), some (.int p1), none] [] (hp s) 0 0 _
  unfold f_J9_floorDiv_7cf53 at hf
  obtain ⟨c1, hf⟩ := gd_some hf
  refine Ev.blk (pc' := 7) [(.iload_n 0, 0, 0, 0), (.iload_n 1, 0, 0, 0), (.idiv, 0, 0, 0), (.istore_n 2, 0, 0, 0), (.iload_n 0, 0, 0, 0), (.iload_n 1, 0, 0, 0), (.ixor, 0, 0, 0)] (by decide +kernel) trivial rfl (And.intro (nz_ok c1) (And.intro (Nat.le_of_ble_eq_true rfl) (?_)))
  show Ev l d mi_J9_floorDiv_7cf53 7 [some (.int p0), some (.int p1), some (.int (p0 / p1))] [.int (p0 ^^^ p1)] (hp s) 0 0 _
  refine Ev.if_ge (off := 14) (tgt := 21) (by decide +kernel) (by decide) (fun b2 => ?_) (fun b2 => ?_)
  · have hf := (if_pos b2).symm.trans hf
    refine Ev.blk (pc' := 22) [(.iload_n 2, 0, 0, 0)] (by decide +kernel) trivial rfl (?_)
    show Ev l d mi_J9_floorDiv_7cf53 22 [some (.int p0), some (.int p1), some (.int (p0 / p1))] [.int (p0 / p1)] (hp s) 0 0 _
    cases hf
    exact Ev.iret .int rfl rfl (by decide +kernel) (Nat.le_refl _) (Nat.le_refl _)
  · have hf := (if_neg b2).symm.trans hf
    refine Ev.blk (pc' := 14) [(.iload_n 2, 0, 0, 0), (.iload_n 1, 0, 0, 0), (.imul, 0, 0, 0), (.iload_n 0, 0, 0, 0)] (by decide +kernel) trivial rfl (?_)
    show Ev l d mi_J9_floorDiv_7cf53 14 [some (.int p0), some (.int p1), some (.int (p0 / p1))] [.int p0, .int ((p0 / p1) * p1)] (hp s) 0 0 _
    refine Ev.icmp_eq (off := 7) (tgt := 21) (by decide +kernel) (by decide) (fun b3 => ?_) (fun b3 => ?_)
    · have hf := (if_pos b3).symm.trans hf
      refine Ev.blk (pc' := 22) [(.iload_n 2, 0, 0, 0)] (by decide +kernel) trivial rfl (?_)
      show Ev l d mi_J9_floorDiv_7cf53 22 [some (.int p0), some (.int p1), some (.int (p0 / p1))] [.int (p0 / p1)] (hp s) 0 0 _
      cases hf
      exact Ev.iret .int rfl rfl (by decide +kernel) (Nat.le_refl _) (Nat.le_refl _)
    · have hf := (if_neg b3).symm.trans hf
      refine Ev.blk (pc' := 20) [(.iload_n 2, 0, 0, 0), (.iconst 1, 0, 0, 0), (.isub, 0, 0, 0)] (by decide +kernel) trivial rfl (?_)
      show Ev l d mi_J9_floorDiv_7cf53 20 [some (.int p0), some (.int p1), some (.int (p0 / p1))] [.int ((p0 / p1) - (Int32.ofInt 1))] (hp s) 0 0 _
      cases hf
      exact Ev.iret .int rfl rfl (by decide +kernel) (Nat.le_refl _) (Nat.le_refl _)
def f_X6_joined (p0 : Int32) (p1 : Int32) (p2 : Int32) (s : ST) : Option (Int32 × ST) := (if p0 = (-10) then some ((p1 &&& p2), s) else (if p0 = (-9) then (if p1 = p2 then some ((Int32.ofInt 1), s) else some ((Int32.ofInt 0), s)) else (if p0 = (-8) then (if p1 ≤ p2 then some ((Int32.ofInt 0), s) else some ((Int32.ofInt 1), s)) else (if p0 = (-7) then (if p2 ≤ p1 then some ((Int32.ofInt 0), s) else some ((Int32.ofInt 1), s)) else (if p0 = (-6) then some ((if p1 < p2 then p2 else p1), s) else (if p0 = (-5) then some ((if p2 < p1 then p2 else p1), s) else (if p0 = (-4) then (if p2 = 0 then some ((Int32.ofInt 0), s) else (f_J9_floorDiv_7cf53 p1 p2 s).bind (fun q12 => some (q12.1, q12.2))) else (if p0 = (-3) then lt ((if (if ((p1).toInt64 * (p2).toInt64) < (Int64.ofInt 1000000) then ((p1).toInt64 * (p2).toInt64) else (Int64.ofInt 1000000)) < (Int64.ofInt (-1000000)) then (Int64.ofInt (-1000000)) else (if ((p1).toInt64 * (p2).toInt64) < (Int64.ofInt 1000000) then ((p1).toInt64 * (p2).toInt64) else (Int64.ofInt 1000000))).toInt32) (fun v14 => some (v14, s)) else (if p0 = (-2) then some ((if (Int32.ofInt (-1000000)) < (if (p1 - p2) < (Int32.ofInt 1000000) then (p1 - p2) else (Int32.ofInt 1000000)) then (if (p1 - p2) < (Int32.ofInt 1000000) then (p1 - p2) else (Int32.ofInt 1000000)) else (Int32.ofInt (-1000000))), s) else (if p0 = (-1) then some ((if (Int32.ofInt (-1000000)) < (if (p1 + p2) < (Int32.ofInt 1000000) then (p1 + p2) else (Int32.ofInt 1000000)) then (if (p1 + p2) < (Int32.ofInt 1000000) then (p1 + p2) else (Int32.ofInt 1000000)) else (Int32.ofInt (-1000000))), s) else (some ((p1 ||| p2), s))))))))))))
set_option maxHeartbeats 2000000 in
set_option maxRecDepth 20000 in
theorem e_X6_joined {l : Launch} {d : Nat} (hd : 2 ≤ d) (p0 : Int32) (p1 : Int32) (p2 : Int32) (s : ST) (r : Int32 × ST) (hf : f_X6_joined p0 p1 p2 s = some r) : Cl l d mi_X6_joined [.int p0, .int p1, .int p2] (hp s) (some (.int r.1), hp r.2) := by
  refine Ev.entry (by decide +kernel) rfl rfl ?_
  show Ev l d mi_X6_joined 0 [some (.int p0), some (.int p1), some (.int p2)] [] (hp s) 0 0 _
  unfold f_X6_joined at hf
  refine Ev.blk (pc' := 1) [(.iload_n 0, 0, 0, 0)] (by decide +kernel) trivial rfl (?_)
  show Ev l d mi_X6_joined 1 [some (.int p0), some (.int p1), some (.int p2)] [.int p0] (hp s) 0 0 _
  by_cases b1 : p0 = (-10)
  · have hf := (if_pos b1).symm.trans hf
    refine Ev.tswitch (dflt := 165) (lo := (-10)) (hi := (-1)) (offs := #[161, 150, 139, 128, 122, 116, 102, 83, 69, 55]) (len := 55) (tgt := 162) (by decide +kernel) (by rw [b1]; decide) (by decide) ?_
    refine Ev.blk (pc' := 165) [(.iload_n 1, 0, 0, 0), (.iload_n 2, 0, 0, 0), (.iand, 0, 0, 0)] (by decide +kernel) trivial rfl (?_)
    show Ev l d mi_X6_joined 165 [some (.int p0), some (.int p1), some (.int p2)] [.int (p1 &&& p2)] (hp s) 0 0 _
    cases hf
    exact Ev.iret .int rfl rfl (by decide +kernel) (Nat.le_refl _) (Nat.le_refl _)
  · have hf := (if_neg b1).symm.trans hf
    by_cases b2 : p0 = (-9)
    · have hf := (if_pos b2).symm.trans hf
      refine Ev.tswitch (dflt := 165) (lo := (-10)) (hi := (-1)) (offs := #[161, 150, 139, 128, 122, 116, 102, 83, 69, 55]) (len := 55) (tgt := 151) (by decide +kernel) (by rw [b2]; decide) (by decide) ?_
      refine Ev.blk (pc' := 153) [(.iload_n 1, 0, 0, 0), (.iload_n 2, 0, 0, 0)] (by decide +kernel) trivial rfl (?_)
      show Ev l d mi_X6_joined 153 [some (.int p0), some (.int p1), some (.int p2)] [.int p2, .int p1] (hp s) 0 0 _
      refine Ev.icmp_ne (off := 7) (tgt := 160) (by decide +kernel) (by decide) (fun b3 => ?_) (fun b3 => ?_)
      · have hf := (if_neg b3).symm.trans hf
        refine Ev.blk (pc' := 161) [(.iconst 0, 0, 0, 0)] (by decide +kernel) trivial rfl (?_)
        show Ev l d mi_X6_joined 161 [some (.int p0), some (.int p1), some (.int p2)] [.int (Int32.ofInt 0)] (hp s) 0 0 _
        cases hf
        exact Ev.iret .int rfl rfl (by decide +kernel) (Nat.le_refl _) (Nat.le_refl _)
      · have hf := (if_pos b3).symm.trans hf
        refine Ev.blk (pc' := 157) [(.iconst 1, 0, 0, 0)] (by decide +kernel) trivial rfl (?_)
        show Ev l d mi_X6_joined 157 [some (.int p0), some (.int p1), some (.int p2)] [.int (Int32.ofInt 1)] (hp s) 0 0 _
        refine Ev.goto (off := 4) (tgt := 161) (by decide +kernel) (by decide) ?_
        cases hf
        exact Ev.iret .int rfl rfl (by decide +kernel) (Nat.le_refl _) (Nat.le_refl _)
    · have hf := (if_neg b2).symm.trans hf
      by_cases b4 : p0 = (-8)
      · have hf := (if_pos b4).symm.trans hf
        refine Ev.tswitch (dflt := 165) (lo := (-10)) (hi := (-1)) (offs := #[161, 150, 139, 128, 122, 116, 102, 83, 69, 55]) (len := 55) (tgt := 140) (by decide +kernel) (by rw [b4]; decide) (by decide) ?_
        refine Ev.blk (pc' := 142) [(.iload_n 1, 0, 0, 0), (.iload_n 2, 0, 0, 0)] (by decide +kernel) trivial rfl (?_)
        show Ev l d mi_X6_joined 142 [some (.int p0), some (.int p1), some (.int p2)] [.int p2, .int p1] (hp s) 0 0 _
        refine Ev.icmp_le (off := 7) (tgt := 149) (by decide +kernel) (by decide) (fun b5 => ?_) (fun b5 => ?_)
        · have hf := (if_pos b5).symm.trans hf
          refine Ev.blk (pc' := 150) [(.iconst 0, 0, 0, 0)] (by decide +kernel) trivial rfl (?_)
          show Ev l d mi_X6_joined 150 [some (.int p0), some (.int p1), some (.int p2)] [.int (Int32.ofInt 0)] (hp s) 0 0 _
          cases hf
          exact Ev.iret .int rfl rfl (by decide +kernel) (Nat.le_refl _) (Nat.le_refl _)
        · have hf := (if_neg b5).symm.trans hf
          refine Ev.blk (pc' := 146) [(.iconst 1, 0, 0, 0)] (by decide +kernel) trivial rfl (?_)
          show Ev l d mi_X6_joined 146 [some (.int p0), some (.int p1), some (.int p2)] [.int (Int32.ofInt 1)] (hp s) 0 0 _
          refine Ev.goto (off := 4) (tgt := 150) (by decide +kernel) (by decide) ?_
          cases hf
          exact Ev.iret .int rfl rfl (by decide +kernel) (Nat.le_refl _) (Nat.le_refl _)
      · have hf := (if_neg b4).symm.trans hf
        by_cases b6 : p0 = (-7)
        · have hf := (if_pos b6).symm.trans hf
          refine Ev.tswitch (dflt := 165) (lo := (-10)) (hi := (-1)) (offs := #[161, 150, 139, 128, 122, 116, 102, 83, 69, 55]) (len := 55) (tgt := 129) (by decide +kernel) (by rw [b6]; decide) (by decide) ?_
          refine Ev.blk (pc' := 131) [(.iload_n 1, 0, 0, 0), (.iload_n 2, 0, 0, 0)] (by decide +kernel) trivial rfl (?_)
          show Ev l d mi_X6_joined 131 [some (.int p0), some (.int p1), some (.int p2)] [.int p2, .int p1] (hp s) 0 0 _
          refine Ev.icmp_ge (off := 7) (tgt := 138) (by decide +kernel) (by decide) (fun b7 => ?_) (fun b7 => ?_)
          · have hf := (if_pos b7).symm.trans hf
            refine Ev.blk (pc' := 139) [(.iconst 0, 0, 0, 0)] (by decide +kernel) trivial rfl (?_)
            show Ev l d mi_X6_joined 139 [some (.int p0), some (.int p1), some (.int p2)] [.int (Int32.ofInt 0)] (hp s) 0 0 _
            cases hf
            exact Ev.iret .int rfl rfl (by decide +kernel) (Nat.le_refl _) (Nat.le_refl _)
          · have hf := (if_neg b7).symm.trans hf
            refine Ev.blk (pc' := 135) [(.iconst 1, 0, 0, 0)] (by decide +kernel) trivial rfl (?_)
            show Ev l d mi_X6_joined 135 [some (.int p0), some (.int p1), some (.int p2)] [.int (Int32.ofInt 1)] (hp s) 0 0 _
            refine Ev.goto (off := 4) (tgt := 139) (by decide +kernel) (by decide) ?_
            cases hf
            exact Ev.iret .int rfl rfl (by decide +kernel) (Nat.le_refl _) (Nat.le_refl _)
        · have hf := (if_neg b6).symm.trans hf
          by_cases b8 : p0 = (-6)
          · have hf := (if_pos b8).symm.trans hf
            refine Ev.tswitch (dflt := 165) (lo := (-10)) (hi := (-1)) (offs := #[161, 150, 139, 128, 122, 116, 102, 83, 69, 55]) (len := 55) (tgt := 123) (by decide +kernel) (by rw [b8]; decide) (by decide) ?_
            refine Ev.blk (pc' := 125) [(.iload_n 1, 0, 0, 0), (.iload_n 2, 0, 0, 0)] (by decide +kernel) trivial rfl (?_)
            show Ev l d mi_X6_joined 125 [some (.int p0), some (.int p1), some (.int p2)] [.int p2, .int p1] (hp s) 0 0 _
            refine Ev.mmax km_6_57 wt_J9_max_7cf53 wini_12 wm_J9_max_7cf53.1 (by omega) (Nat.le_of_ble_eq_true rfl) ⟨Nat.le_refl _, Nat.le_refl _⟩ (by decide +kernel) ?_
            show Ev l d mi_X6_joined 128 [some (.int p0), some (.int p1), some (.int p2)] [.int (if p1 < p2 then p2 else p1)] (hp s) 0 0 _
            cases hf
            exact Ev.iret .int rfl rfl (by decide +kernel) (Nat.le_refl _) (Nat.le_refl _)
          · have hf := (if_neg b8).symm.trans hf
            by_cases b9 : p0 = (-5)
            · have hf := (if_pos b9).symm.trans hf
              refine Ev.tswitch (dflt := 165) (lo := (-10)) (hi := (-1)) (offs := #[161, 150, 139, 128, 122, 116, 102, 83, 69, 55]) (len := 55) (tgt := 117) (by decide +kernel) (by rw [b9]; decide) (by decide) ?_
              refine Ev.blk (pc' := 119) [(.iload_n 1, 0, 0, 0), (.iload_n 2, 0, 0, 0)] (by decide +kernel) trivial rfl (?_)
              show Ev l d mi_X6_joined 119 [some (.int p0), some (.int p1), some (.int p2)] [.int p2, .int p1] (hp s) 0 0 _
              refine Ev.mmin km_6_51 wt_J9_min_7cf53 wini_12 wm_J9_min_7cf53.1 (by omega) (Nat.le_of_ble_eq_true rfl) ⟨Nat.le_refl _, Nat.le_refl _⟩ (by decide +kernel) ?_
              show Ev l d mi_X6_joined 122 [some (.int p0), some (.int p1), some (.int p2)] [.int (if p2 < p1 then p2 else p1)] (hp s) 0 0 _
              cases hf
              exact Ev.iret .int rfl rfl (by decide +kernel) (Nat.le_refl _) (Nat.le_refl _)
            · have hf := (if_neg b9).symm.trans hf
              by_cases b10 : p0 = (-4)
              · have hf := (if_pos b10).symm.trans hf
                refine Ev.tswitch (dflt := 165) (lo := (-10)) (hi := (-1)) (offs := #[161, 150, 139, 128, 122, 116, 102, 83, 69, 55]) (len := 55) (tgt := 103) (by decide +kernel) (by rw [b10]; decide) (by decide) ?_
                refine Ev.blk (pc' := 104) [(.iload_n 2, 0, 0, 0)] (by decide +kernel) trivial rfl (?_)
                show Ev l d mi_X6_joined 104 [some (.int p0), some (.int p1), some (.int p2)] [.int p2] (hp s) 0 0 _
                refine Ev.if_ne (off := 7) (tgt := 111) (by decide +kernel) (by decide) (fun b11 => ?_) (fun b11 => ?_)
                · have hf := (if_neg b11).symm.trans hf
                  refine Ev.blk (pc' := 113) [(.iload_n 1, 0, 0, 0), (.iload_n 2, 0, 0, 0)] (by decide +kernel) trivial rfl (?_)
                  show Ev l d mi_X6_joined 113 [some (.int p0), some (.int p1), some (.int p2)] [.int p2, .int p1] (hp s) 0 0 _
                  obtain ⟨q12, hq12, hf⟩ := bd_some hf
                  refine Ev.callS (M' := mi_J9_floorDiv_7cf53) (d' := d - 1) (As := [.int p1, .int p2]) (rest := []) (r' := (some (.int q12.1), hp q12.2)) (e_J9_floorDiv_7cf53 (d := d - 1) (by omega) p1 p2 s _ hq12) (by omega) wm_J9_floorDiv_7cf53 wt_J9_floorDiv_7cf53 km_6_69 rfl rfl rfl (Nat.le_of_ble_eq_true rfl) ⟨Nat.le_of_ble_eq_true rfl, Nat.le_of_ble_eq_true rfl⟩ (by decide +kernel) ?_
                  show Ev l d mi_X6_joined 116 [some (.int p0), some (.int p1), some (.int p2)] [.int q12.1] (hp q12.2) 0 0 _
                  cases hf
                  exact Ev.iret .int rfl rfl (by decide +kernel) (Nat.le_refl _) (Nat.le_refl _)
                · have hf := (if_pos b11).symm.trans hf
                  refine Ev.blk (pc' := 108) [(.iconst 0, 0, 0, 0)] (by decide +kernel) trivial rfl (?_)
                  show Ev l d mi_X6_joined 108 [some (.int p0), some (.int p1), some (.int p2)] [.int (Int32.ofInt 0)] (hp s) 0 0 _
                  refine Ev.goto (off := 8) (tgt := 116) (by decide +kernel) (by decide) ?_
                  cases hf
                  exact Ev.iret .int rfl rfl (by decide +kernel) (Nat.le_refl _) (Nat.le_refl _)
              · have hf := (if_neg b10).symm.trans hf
                by_cases b13 : p0 = (-3)
                · have hf := (if_pos b13).symm.trans hf
                  refine Ev.tswitch (dflt := 165) (lo := (-10)) (hi := (-1)) (offs := #[161, 150, 139, 128, 122, 116, 102, 83, 69, 55]) (len := 55) (tgt := 84) (by decide +kernel) (by rw [b13]; decide) (by decide) ?_
                  refine Ev.blk (pc' := 95) [(.ldc2_w 60, (-1000000), 0, 0), (.ldc2_w 62, 1000000, 0, 0), (.iload_n 1, 0, 0, 0), (.i2l, 0, 0, 0), (.iload_n 2, 0, 0, 0), (.i2l, 0, 0, 0), (.lmul, 0, 0, 0)] (by decide +kernel) ⟨kl_6_60, ⟨kl_6_62, trivial⟩⟩ rfl (?_)
                  show Ev l d mi_X6_joined 95 [some (.int p0), some (.int p1), some (.int p2)] [.long ((p1).toInt64 * (p2).toInt64), .long (Int64.ofInt 1000000), .long (Int64.ofInt (-1000000))] (hp s) 0 0 _
                  refine Ev.mminl km_6_64 wt_J9_min_f86c9 wini_12 wm_J9_min_f86c9.1 (by omega) (Nat.le_of_ble_eq_true rfl) ⟨Nat.le_refl _, Nat.le_refl _⟩ (by decide +kernel) ?_
                  show Ev l d mi_X6_joined 98 [some (.int p0), some (.int p1), some (.int p2)] [.long (if ((p1).toInt64 * (p2).toInt64) < (Int64.ofInt 1000000) then ((p1).toInt64 * (p2).toInt64) else (Int64.ofInt 1000000)), .long (Int64.ofInt (-1000000))] (hp s) 0 0 _
                  refine Ev.mmaxl km_6_67 wt_J9_max_f86c9 wini_12 wm_J9_max_f86c9.1 (by omega) (Nat.le_of_ble_eq_true rfl) ⟨Nat.le_refl _, Nat.le_refl _⟩ (by decide +kernel) ?_
                  show Ev l d mi_X6_joined 101 [some (.int p0), some (.int p1), some (.int p2)] [.long (if (if ((p1).toInt64 * (p2).toInt64) < (Int64.ofInt 1000000) then ((p1).toInt64 * (p2).toInt64) else (Int64.ofInt 1000000)) < (Int64.ofInt (-1000000)) then (Int64.ofInt (-1000000)) else (if ((p1).toInt64 * (p2).toInt64) < (Int64.ofInt 1000000) then ((p1).toInt64 * (p2).toInt64) else (Int64.ofInt 1000000)))] (hp s) 0 0 _
                  obtain ⟨v14, hv14, hf⟩ := lt_some hf
                  refine Ev.blk (pc' := 102) [(.l2i, 0, 0, 0)] (by decide +kernel) trivial rfl (?_)
                  show Ev l d mi_X6_joined 102 [some (.int p0), some (.int p1), some (.int p2)] [.int (if (if ((p1).toInt64 * (p2).toInt64) < (Int64.ofInt 1000000) then ((p1).toInt64 * (p2).toInt64) else (Int64.ofInt 1000000)) < (Int64.ofInt (-1000000)) then (Int64.ofInt (-1000000)) else (if ((p1).toInt64 * (p2).toInt64) < (Int64.ofInt 1000000) then ((p1).toInt64 * (p2).toInt64) else (Int64.ofInt 1000000))).toInt32] (hp s) 0 0 _
                  rw [← hv14]
                  cases hf
                  exact Ev.iret .int rfl rfl (by decide +kernel) (Nat.le_refl _) (Nat.le_refl _)
                · have hf := (if_neg b13).symm.trans hf
                  by_cases b15 : p0 = (-2)
                  · have hf := (if_pos b15).symm.trans hf
                    refine Ev.tswitch (dflt := 165) (lo := (-10)) (hi := (-1)) (offs := #[161, 150, 139, 128, 122, 116, 102, 83, 69, 55]) (len := 55) (tgt := 70) (by decide +kernel) (by rw [b15]; decide) (by decide) ?_
                    refine Ev.blk (pc' := 77) [(.ldc 49, (-1000000), 0, 0), (.ldc 50, 1000000, 0, 0), (.iload_n 1, 0, 0, 0), (.iload_n 2, 0, 0, 0), (.isub, 0, 0, 0)] (by decide +kernel) ⟨kc_6_49, ⟨kc_6_50, trivial⟩⟩ rfl (?_)
                    show Ev l d mi_X6_joined 77 [some (.int p0), some (.int p1), some (.int p2)] [.int (p1 - p2), .int (Int32.ofInt 1000000), .int (Int32.ofInt (-1000000))] (hp s) 0 0 _
                    refine Ev.mmin km_6_51 wt_J9_min_7cf53 wini_12 wm_J9_min_7cf53.1 (by omega) (Nat.le_of_ble_eq_true rfl) ⟨Nat.le_refl _, Nat.le_refl _⟩ (by decide +kernel) ?_
                    show Ev l d mi_X6_joined 80 [some (.int p0), some (.int p1), some (.int p2)] [.int (if (p1 - p2) < (Int32.ofInt 1000000) then (p1 - p2) else (Int32.ofInt 1000000)), .int (Int32.ofInt (-1000000))] (hp s) 0 0 _
                    refine Ev.mmax km_6_57 wt_J9_max_7cf53 wini_12 wm_J9_max_7cf53.1 (by omega) (Nat.le_of_ble_eq_true rfl) ⟨Nat.le_refl _, Nat.le_refl _⟩ (by decide +kernel) ?_
                    show Ev l d mi_X6_joined 83 [some (.int p0), some (.int p1), some (.int p2)] [.int (if (Int32.ofInt (-1000000)) < (if (p1 - p2) < (Int32.ofInt 1000000) then (p1 - p2) else (Int32.ofInt 1000000)) then (if (p1 - p2) < (Int32.ofInt 1000000) then (p1 - p2) else (Int32.ofInt 1000000)) else (Int32.ofInt (-1000000)))] (hp s) 0 0 _
                    cases hf
                    exact Ev.iret .int rfl rfl (by decide +kernel) (Nat.le_refl _) (Nat.le_refl _)
                  · have hf := (if_neg b15).symm.trans hf
                    by_cases b16 : p0 = (-1)
                    · have hf := (if_pos b16).symm.trans hf
                      refine Ev.tswitch (dflt := 165) (lo := (-10)) (hi := (-1)) (offs := #[161, 150, 139, 128, 122, 116, 102, 83, 69, 55]) (len := 55) (tgt := 56) (by decide +kernel) (by rw [b16]; decide) (by decide) ?_
                      refine Ev.blk (pc' := 63) [(.ldc 49, (-1000000), 0, 0), (.ldc 50, 1000000, 0, 0), (.iload_n 1, 0, 0, 0), (.iload_n 2, 0, 0, 0), (.iadd, 0, 0, 0)] (by decide +kernel) ⟨kc_6_49, ⟨kc_6_50, trivial⟩⟩ rfl (?_)
                      show Ev l d mi_X6_joined 63 [some (.int p0), some (.int p1), some (.int p2)] [.int (p1 + p2), .int (Int32.ofInt 1000000), .int (Int32.ofInt (-1000000))] (hp s) 0 0 _
                      refine Ev.mmin km_6_51 wt_J9_min_7cf53 wini_12 wm_J9_min_7cf53.1 (by omega) (Nat.le_of_ble_eq_true rfl) ⟨Nat.le_refl _, Nat.le_refl _⟩ (by decide +kernel) ?_
                      show Ev l d mi_X6_joined 66 [some (.int p0), some (.int p1), some (.int p2)] [.int (if (p1 + p2) < (Int32.ofInt 1000000) then (p1 + p2) else (Int32.ofInt 1000000)), .int (Int32.ofInt (-1000000))] (hp s) 0 0 _
                      refine Ev.mmax km_6_57 wt_J9_max_7cf53 wini_12 wm_J9_max_7cf53.1 (by omega) (Nat.le_of_ble_eq_true rfl) ⟨Nat.le_refl _, Nat.le_refl _⟩ (by decide +kernel) ?_
                      show Ev l d mi_X6_joined 69 [some (.int p0), some (.int p1), some (.int p2)] [.int (if (Int32.ofInt (-1000000)) < (if (p1 + p2) < (Int32.ofInt 1000000) then (p1 + p2) else (Int32.ofInt 1000000)) then (if (p1 + p2) < (Int32.ofInt 1000000) then (p1 + p2) else (Int32.ofInt 1000000)) else (Int32.ofInt (-1000000)))] (hp s) 0 0 _
                      cases hf
                      exact Ev.iret .int rfl rfl (by decide +kernel) (Nat.le_refl _) (Nat.le_refl _)
                    · have hf := (if_neg b16).symm.trans hf
                      refine Ev.tswitch (dflt := 165) (lo := (-10)) (hi := (-1)) (offs := #[161, 150, 139, 128, 122, 116, 102, 83, 69, 55]) (len := 55) (tgt := 166) (by decide +kernel) (by have e0 := sw_ne b1 (c := (-10)) (by decide); have e1 := sw_ne b2 (c := (-9)) (by decide); have e2 := sw_ne b4 (c := (-8)) (by decide); have e3 := sw_ne b6 (c := (-7)) (by decide); have e4 := sw_ne b8 (c := (-6)) (by decide); have e5 := sw_ne b9 (c := (-5)) (by decide); have e6 := sw_ne b10 (c := (-4)) (by decide); have e7 := sw_ne b13 (c := (-3)) (by decide); have e8 := sw_ne b15 (c := (-2)) (by decide); have e9 := sw_ne b16 (c := (-1)) (by decide); rw [if_pos (by omega)]; decide) (by decide) ?_
                      refine Ev.blk (pc' := 169) [(.iload_n 1, 0, 0, 0), (.iload_n 2, 0, 0, 0), (.ior, 0, 0, 0)] (by decide +kernel) trivial rfl (?_)
                      show Ev l d mi_X6_joined 169 [some (.int p0), some (.int p1), some (.int p2)] [.int (p1 ||| p2)] (hp s) 0 0 _
                      cases hf
                      exact Ev.iret .int rfl rfl (by decide +kernel) (Nat.le_refl _) (Nat.le_refl _)
def f_X6_pop (o : Nat) (s : ST) : Option (Int32 × ST) := gd (kk o 6) ((if (s.1 o 3) ≤ 0 then some ((Int32.ofInt 0), s) else (RR s.2.2 o 2).bind (fun a3 => gd (kr a3) ((if (s.1 o 3) ≤ (Int32.ofNat (K0 a3).2) then (RR (uI s o 3 ((s.1 o 3) - (Int32.ofInt 1))).2.2 o 2).bind (fun a6 => gd (kk a6 13) (gd (ib ((uI s o 3 ((s.1 o 3) - (Int32.ofInt 1))).1 o 3) (K0 a6).2) (lt (uI s o 3 ((s.1 o 3) - (Int32.ofInt 1))) (fun s9 => some ((s9.1 a6 (s9.1 o 3).toNatClampNeg), s9))))) else some ((Int32.ofInt 0), s))))))
set_option maxHeartbeats 2000000 in
set_option maxRecDepth 20000 in
theorem e_X6_pop {l : Launch} {d : Nat} (hd : 1 ≤ d) (o : Nat) (s : ST) (r : Int32 × ST) (hf : f_X6_pop o s = some r) : Cl l d mi_X6_pop [.ref o] (hp s) (some (.int r.1), hp r.2) := by
  refine Ev.entry (by decide +kernel) rfl rfl ?_
  show Ev l d mi_X6_pop 0 [some (.ref o)] [] (hp s) 0 0 _
  unfold f_X6_pop at hf
  obtain ⟨c1, hf⟩ := gd_some hf
  refine Ev.blk (pc' := 4) [(.aload_n 0, 0, 0, 0), (.getfield 21, 0, 6, 3)] (by decide +kernel) ⟨kf_6_21, trivial⟩ rfl (And.intro (kk_ok c1) (?_))
  show Ev l d mi_X6_pop 4 [some (.ref o)] [.int (s.1 o 3)] (hp s) 0 0 _
  refine Ev.if_le (off := 15) (tgt := 19) (by decide +kernel) (by decide) (fun b2 => ?_) (fun b2 => ?_)
  · have hf := (if_pos b2).symm.trans hf
    refine Ev.blk (pc' := 20) [(.iconst 0, 0, 0, 0)] (by decide +kernel) trivial rfl (?_)
    show Ev l d mi_X6_pop 20 [some (.ref o)] [.int (Int32.ofInt 0)] (hp s) 0 0 _
    cases hf
    exact Ev.iret .int rfl rfl (by decide +kernel) (Nat.le_refl _) (Nat.le_refl _)
  · have hf := (if_neg b2).symm.trans hf
    obtain ⟨a3, ha3, hf⟩ := bd_some hf
    obtain ⟨c4, hf⟩ := gd_some hf
    refine Ev.blk (pc' := 16) [(.aload_n 0, 0, 0, 0), (.getfield 21, 0, 6, 3), (.aload_n 0, 0, 0, 0), (.getfield 18, 0, 6, 2), (.arraylength, 0, 0, 0)] (by decide +kernel) ⟨kf_6_21, ⟨kf_6_18, trivial⟩⟩ rfl (And.intro (kk_ok c1) (And.intro (kk_ok c1) (Exists.intro a3 (And.intro ha3 (And.intro (kr_ok c4) (?_))))))
    show Ev l d mi_X6_pop 16 [some (.ref o)] [.int (Int32.ofNat (K0 a3).2), .int (s.1 o 3)] (hp s) 0 0 _
    refine Ev.icmp_le (off := 5) (tgt := 21) (by decide +kernel) (by decide) (fun b5 => ?_) (fun b5 => ?_)
    · have hf := (if_pos b5).symm.trans hf
      obtain ⟨a6, ha6, hf⟩ := bd_some hf
      obtain ⟨c7, hf⟩ := gd_some hf
      obtain ⟨c8, hf⟩ := gd_some hf
      obtain ⟨s9, hs9, hf⟩ := lt_some hf
      refine Ev.blk (pc' := 40) [(.aload_n 0, 0, 0, 0), (.dup, 0, 0, 0), (.getfield 21, 0, 6, 3), (.iconst 1, 0, 0, 0), (.isub, 0, 0, 0), (.putfield 21, 0, 6, 3), (.aload_n 0, 0, 0, 0), (.getfield 18, 0, 6, 2), (.aload_n 0, 0, 0, 0), (.getfield 21, 0, 6, 3), (.iaload, 0, 0, 0)] (by decide +kernel) ⟨kf_6_21, ⟨⟨kf_6_21, Or.inl rfl⟩, ⟨kf_6_18, ⟨kf_6_21, trivial⟩⟩⟩⟩ rfl (And.intro rfl (And.intro (kk_ok c1) (And.intro (kk_ok c1) (And.intro (kk_ok c1) (Exists.intro a6 (And.intro ha6 (And.intro (kk_ok c1) (And.intro (kk_ok c7) (And.intro (ib_ok c8) (?_))))))))))
      show Ev l d mi_X6_pop 40 [some (.ref o)] [.int ((uI s o 3 ((s.1 o 3) - (Int32.ofInt 1))).1 a6 ((uI s o 3 ((s.1 o 3) - (Int32.ofInt 1))).1 o 3).toNatClampNeg)] (hp (uI s o 3 ((s.1 o 3) - (Int32.ofInt 1)))) 0 0 _
      rw [← hs9]
      cases hf
      exact Ev.iret .int rfl rfl (by decide +kernel) (Nat.le_refl _) (Nat.le_refl _)
    · have hf := (if_neg b5).symm.trans hf
      refine Ev.blk (pc' := 20) [(.iconst 0, 0, 0, 0)] (by decide +kernel) trivial rfl (?_)
      show Ev l d mi_X6_pop 20 [some (.ref o)] [.int (Int32.ofInt 0)] (hp s) 0 0 _
      cases hf
      exact Ev.iret .int rfl rfl (by decide +kernel) (Nat.le_refl _) (Nat.le_refl _)
def f_X6_push (o : Nat) (p0 : Int32) (s : ST) : Option (ST) := gd (kk o 6) ((RR s.2.2 o 2).bind (fun a2 => gd (kr a2) ((if (Int32.ofNat (K0 a2).2) ≤ (s.1 o 3) then some s else (RR s.2.2 o 2).bind (fun a5 => gd (kk a5 13) (gd (ib (s.1 o 3) (K0 a5).2) (lt (uI (uI s a5 (s.1 o 3).toNatClampNeg p0) o 3 (((uI s a5 (s.1 o 3).toNatClampNeg p0).1 o 3) + (Int32.ofInt 1))) (fun s8 => some s8))))))))
set_option maxHeartbeats 2000000 in
set_option maxRecDepth 20000 in
theorem e_X6_push {l : Launch} {d : Nat} (hd : 1 ≤ d) (o : Nat) (p0 : Int32) (s : ST) (r : ST) (hf : f_X6_push o p0 s = some r) : Cl l d mi_X6_push [.ref o, .int p0] (hp s) (none, hp r) := by
  refine Ev.entry (by decide +kernel) rfl rfl ?_
  show Ev l d mi_X6_push 0 [some (.ref o), some (.int p0)] [] (hp s) 0 0 _
  unfold f_X6_push at hf
  obtain ⟨c1, hf⟩ := gd_some hf
  obtain ⟨a2, ha2, hf⟩ := bd_some hf
  obtain ⟨c3, hf⟩ := gd_some hf
  refine Ev.blk (pc' := 9) [(.aload_n 0, 0, 0, 0), (.getfield 21, 0, 6, 3), (.aload_n 0, 0, 0, 0), (.getfield 18, 0, 6, 2), (.arraylength, 0, 0, 0)] (by decide +kernel) ⟨kf_6_21, ⟨kf_6_18, trivial⟩⟩ rfl (And.intro (kk_ok c1) (And.intro (kk_ok c1) (Exists.intro a2 (And.intro ha2 (And.intro (kr_ok c3) (?_))))))
  show Ev l d mi_X6_push 9 [some (.ref o), some (.int p0)] [.int (Int32.ofNat (K0 a2).2), .int (s.1 o 3)] (hp s) 0 0 _
  refine Ev.icmp_ge (off := 23) (tgt := 32) (by decide +kernel) (by decide) (fun b4 => ?_) (fun b4 => ?_)
  · have hf := (if_pos b4).symm.trans hf
    cases hf
    exact Ev.vret rfl (by decide +kernel) (Nat.le_refl _) (Nat.le_refl _)
  · have hf := (if_neg b4).symm.trans hf
    obtain ⟨a5, ha5, hf⟩ := bd_some hf
    obtain ⟨c6, hf⟩ := gd_some hf
    obtain ⟨c7, hf⟩ := gd_some hf
    obtain ⟨s8, hs8, hf⟩ := lt_some hf
    refine Ev.blk (pc' := 32) [(.aload_n 0, 0, 0, 0), (.getfield 18, 0, 6, 2), (.aload_n 0, 0, 0, 0), (.getfield 21, 0, 6, 3), (.iload_n 1, 0, 0, 0), (.iastore, 0, 0, 0), (.aload_n 0, 0, 0, 0), (.dup, 0, 0, 0), (.getfield 21, 0, 6, 3), (.iconst 1, 0, 0, 0), (.iadd, 0, 0, 0), (.putfield 21, 0, 6, 3)] (by decide +kernel) ⟨kf_6_18, ⟨kf_6_21, ⟨kf_6_21, ⟨⟨kf_6_21, Or.inl rfl⟩, trivial⟩⟩⟩⟩ rfl (And.intro (kk_ok c1) (Exists.intro a5 (And.intro ha5 (And.intro (kk_ok c1) (And.intro (kk_ok c6) (And.intro (ib_ok c7) (And.intro rfl (And.intro (kk_ok c1) (And.intro (kk_ok c1) (?_))))))))))
    show Ev l d mi_X6_push 32 [some (.ref o), some (.int p0)] [] (hp (uI (uI s a5 (s.1 o 3).toNatClampNeg p0) o 3 (((uI s a5 (s.1 o 3).toNatClampNeg p0).1 o 3) + (Int32.ofInt 1)))) 0 0 _
    rw [← hs8]
    cases hf
    exact Ev.vret rfl (by decide +kernel) (Nat.le_refl _) (Nat.le_refl _)
def f_X6_reckon_j119 (k7 : Nat → Nat → Int32 → ST → Option (Int32 × ST)) (x0 : Nat) (x1 : Nat) (x2 : Int32) (y0 : Nat) (y1 : Int32) (s : ST) : Option (Int32 × ST) := (f_X6_push y0 y1 s).bind (fun q35 => gd (kk y0 6) (k7 x0 x1 (x2 + Int32.ofInt 1) q35))
set_option maxHeartbeats 2000000 in
set_option maxRecDepth 20000 in
theorem e_X6_reckon_j119 {l : Launch} {d : Nat} (hd : 3 ≤ d) (k7 : Nat → Nat → Int32 → ST → Option (Int32 × ST)) (hk7 : ∀ (x0 : Nat) (x1 : Nat) (x2 : Int32) (s : ST) (r : Int32 × ST), k7 x0 x1 x2 s = some r → Ev l d mi_X6_reckon 7 [some (.ref x0), some (.ref x1), some (.int x2), none, none, none] [] (hp s) 0 0 (some (.int r.1), hp r.2)) (x0 : Nat) (x1 : Nat) (x2 : Int32) (y0 : Nat) (y1 : Int32) (s : ST) (r : Int32 × ST) (hf : f_X6_reckon_j119 k7 x0 x1 x2 y0 y1 s = some r) : Ev l d mi_X6_reckon 119 [some (.ref x0), some (.ref x1), some (.int x2), none, none, none] [.int y1, .ref y0] (hp s) 0 0 (some (.int r.1), hp r.2) := by
  unfold f_X6_reckon_j119 at hf
  obtain ⟨q35, hq35, hf⟩ := bd_some hf
  obtain ⟨c36, hf⟩ := gd_some hf
  refine Ev.callV (o := y0) (M' := mi_X6_push) (d' := d - 1) (As := [.int y1]) (rest := []) (r' := (none, hp q35)) (e_X6_push (d := d - 1) (by omega) y0 y1 s _ hq35) (by omega) wm_X6_push wi_X6_push wv_X6_push km_6_33 (kk_ok c36) (Nat.le_of_ble_eq_true rfl) rfl rfl rfl (Nat.le_of_ble_eq_true rfl) ⟨Nat.le_of_ble_eq_true rfl, Nat.le_of_ble_eq_true rfl⟩ (by decide +kernel) ?_
  show Ev l d mi_X6_reckon 122 [some (.ref x0), some (.ref x1), some (.int x2), none, none, none] [] (hp q35) 0 0 _
  refine Ev.goto (off := 27) (tgt := 149) (by decide +kernel) (by decide) ?_
  refine Ev.blk (pc' := 152) [(.iinc 2 1, 0, 0, 0)] (by decide +kernel) trivial rfl (And.intro (Nat.le_of_ble_eq_true rfl) (?_))
  show Ev l d mi_X6_reckon 152 [some (.ref x0), some (.ref x1), some (.int (x2 + Int32.ofInt 1)), none, none, none] [] (hp q35) 0 0 _
  refine Ev.goto (off := -145) (tgt := 7) (by decide +kernel) (by decide) ?_
  exact hk7 x0 x1 (x2 + Int32.ofInt 1) q35 _ hf
def f_X6_reckon_j118 (k7 : Nat → Nat → Int32 → ST → Option (Int32 × ST)) (x0 : Nat) (x1 : Nat) (x2 : Int32) (y0 : Nat) (s : ST) : Option (Int32 × ST) := (f_X6_reckon_j119 k7) x0 x1 x2 y0 (Int32.ofInt 0) s
set_option maxHeartbeats 2000000 in
set_option maxRecDepth 20000 in
theorem e_X6_reckon_j118 {l : Launch} {d : Nat} (hd : 3 ≤ d) (k7 : Nat → Nat → Int32 → ST → Option (Int32 × ST)) (hk7 : ∀ (x0 : Nat) (x1 : Nat) (x2 : Int32) (s : ST) (r : Int32 × ST), k7 x0 x1 x2 s = some r → Ev l d mi_X6_reckon 7 [some (.ref x0), some (.ref x1), some (.int x2), none, none, none] [] (hp s) 0 0 (some (.int r.1), hp r.2)) (x0 : Nat) (x1 : Nat) (x2 : Int32) (y0 : Nat) (s : ST) (r : Int32 × ST) (hf : f_X6_reckon_j118 k7 x0 x1 x2 y0 s = some r) : Ev l d mi_X6_reckon 118 [some (.ref x0), some (.ref x1), some (.int x2), none, none, none] [.ref y0] (hp s) 0 0 (some (.int r.1), hp r.2) := by
  unfold f_X6_reckon_j118 at hf
  refine Ev.blk (pc' := 119) [(.iconst 0, 0, 0, 0)] (by decide +kernel) trivial rfl (?_)
  show Ev l d mi_X6_reckon 119 [some (.ref x0), some (.ref x1), some (.int x2), none, none, none] [.int (Int32.ofInt 0), .ref y0] (hp s) 0 0 _
  exact (e_X6_reckon_j119 hd k7 hk7) x0 x1 x2 y0 (Int32.ofInt 0) s _ hf
def f_X6_reckon_L7 (k155 : Nat → ST → Option (Int32 × ST)) : Nat → Nat → Nat → Int32 → ST → Option (Int32 × ST)
  | 0, _, _, _, _ => none
  | n + 1, x0, x1, x2, s => gd (kk x1 2) ((if (s.1 x1 1) ≤ x2 then k155 x0 s else (RR s.2.2 x1 0).bind (fun a5 => gd (kr a5) ((if (Int32.ofNat (K0 a5).2) ≤ x2 then k155 x0 s else (RR s.2.2 x1 0).bind (fun a8 => gd (kk a8 13) (gd (ib x2 (K0 a8).2) ((if (s.1 a8 x2.toNatClampNeg) < 0 then (if ((Int8.ofInt (-100)).toInt32) < (s.1 a8 x2.toNatClampNeg) then (if (s.1 a8 x2.toNatClampNeg) = ((Int8.ofInt (-12)).toInt32) then (f_X6_pop x0 s).bind (fun q27 => gd (kk x0 6) ((f_X6_push x0 ((Int32.ofInt 1) - q27.1) q27.2).bind (fun q29 => (f_X6_reckon_L7 k155 n) x0 x1 (x2 + Int32.ofInt 1) q29))) else (if (s.1 a8 x2.toNatClampNeg) = ((Int8.ofInt (-13)).toInt32) then (f_X6_pop x0 s).bind (fun q20 => gd (kk x0 6) ((if q20.1 < 0 then (f_X6_reckon_j118 (f_X6_reckon_L7 k155 n)) x0 x1 x2 x0 q20.2 else (if ((Int8.ofInt 6).toInt32) ≤ q20.1 then (f_X6_reckon_j118 (f_X6_reckon_L7 k155 n)) x0 x1 x2 x0 q20.2 else (RR q20.2.2.2 x0 1).bind (fun a24 => gd (kk a24 13) (gd (ib q20.1 (K0 a24).2) ((f_X6_reckon_j119 (f_X6_reckon_L7 k155 n)) x0 x1 x2 x0 (q20.2.1 a24 q20.1.toNatClampNeg) q20.2))))))) else (f_X6_pop x0 s).bind (fun q15 => gd (kk x0 6) ((f_X6_pop x0 q15.2).bind (fun q17 => (f_X6_joined (s.1 a8 x2.toNatClampNeg) q17.1 q15.1 q17.2).bind (fun q18 => (f_X6_push x0 q18.1 q18.2).bind (fun q19 => (f_X6_reckon_L7 k155 n) x0 x1 (x2 + Int32.ofInt 1) q19))))))) else (f_X6_fact x0 (((Int8.ofInt (-100)).toInt32) - (s.1 a8 x2.toNatClampNeg)) s).bind (fun q30 => gd (kk x0 6) ((f_X6_push x0 q30.1 q30.2).bind (fun q32 => (f_X6_reckon_L7 k155 n) x0 x1 (x2 + Int32.ofInt 1) q32)))) else (f_X6_push x0 (s.1 a8 x2.toNatClampNeg) s).bind (fun q33 => gd (kk x0 6) ((f_X6_reckon_L7 k155 n) x0 x1 (x2 + Int32.ofInt 1) q33)))))))))))
set_option maxHeartbeats 2000000 in
set_option maxRecDepth 20000 in
theorem e_X6_reckon_L7 {l : Launch} {d : Nat} (hd : 3 ≤ d) (k155 : Nat → ST → Option (Int32 × ST)) (hk155 : ∀ (x0 : Nat) (s : ST) (r : Int32 × ST), k155 x0 s = some r → Ev l d mi_X6_reckon 155 [some (.ref x0), none, none, none, none, none] [] (hp s) 0 0 (some (.int r.1), hp r.2)) : ∀ (n : Nat) (x0 : Nat) (x1 : Nat) (x2 : Int32) (s : ST) (r : Int32 × ST), f_X6_reckon_L7 k155 n x0 x1 x2 s = some r → Ev l d mi_X6_reckon 7 [some (.ref x0), some (.ref x1), some (.int x2), none, none, none] [] (hp s) 0 0 (some (.int r.1), hp r.2) := by
  intro n
  induction n with
  | zero =>
    intro x0 x1 x2 s r hf
    cases hf
  | succ n ih =>
    intro x0 x1 x2 s r hf
    unfold f_X6_reckon_L7 at hf
    obtain ⟨c3, hf⟩ := gd_some hf
    refine Ev.blk (pc' := 12) [(.iload_n 2, 0, 0, 0), (.aload_n 1, 0, 0, 0), (.getfield 25, 0, 2, 1)] (by decide +kernel) ⟨kf_6_25, trivial⟩ rfl (And.intro (kk_ok c3) (?_))
    show Ev l d mi_X6_reckon 12 [some (.ref x0), some (.ref x1), some (.int x2), none, none, none] [.int (s.1 x1 1), .int x2] (hp s) 0 0 _
    refine Ev.icmp_ge (off := 143) (tgt := 155) (by decide +kernel) (by decide) (fun b4 => ?_) (fun b4 => ?_)
    · have hf := (if_pos b4).symm.trans hf
      exact Ev.wk (hk155 x0 s _ hf) (And.intro (Or.inr rfl) (And.intro (Or.inl rfl) (And.intro (Or.inl rfl) (And.intro (Or.inr rfl) (And.intro (Or.inr rfl) (And.intro (Or.inr rfl) (trivial)))))))
    · have hf := (if_neg b4).symm.trans hf
      obtain ⟨a5, ha5, hf⟩ := bd_some hf
      obtain ⟨c6, hf⟩ := gd_some hf
      refine Ev.blk (pc' := 21) [(.iload_n 2, 0, 0, 0), (.aload_n 1, 0, 0, 0), (.getfield 30, 0, 2, 0), (.arraylength, 0, 0, 0)] (by decide +kernel) ⟨kf_6_30, trivial⟩ rfl (And.intro (kk_ok c3) (Exists.intro a5 (And.intro ha5 (And.intro (kr_ok c6) (?_)))))
      show Ev l d mi_X6_reckon 21 [some (.ref x0), some (.ref x1), some (.int x2), none, none, none] [.int (Int32.ofNat (K0 a5).2), .int x2] (hp s) 0 0 _
      refine Ev.icmp_ge (off := 134) (tgt := 155) (by decide +kernel) (by decide) (fun b7 => ?_) (fun b7 => ?_)
      · have hf := (if_pos b7).symm.trans hf
        exact Ev.wk (hk155 x0 s _ hf) (And.intro (Or.inr rfl) (And.intro (Or.inl rfl) (And.intro (Or.inl rfl) (And.intro (Or.inr rfl) (And.intro (Or.inr rfl) (And.intro (Or.inr rfl) (trivial)))))))
      · have hf := (if_neg b7).symm.trans hf
        obtain ⟨a8, ha8, hf⟩ := bd_some hf
        obtain ⟨c9, hf⟩ := gd_some hf
        obtain ⟨c10, hf⟩ := gd_some hf
        refine Ev.blk (pc' := 32) [(.aload_n 1, 0, 0, 0), (.getfield 30, 0, 2, 0), (.iload_n 2, 0, 0, 0), (.iaload, 0, 0, 0), (.istore_n 3, 0, 0, 0), (.iload_n 3, 0, 0, 0)] (by decide +kernel) ⟨kf_6_30, trivial⟩ rfl (And.intro (kk_ok c3) (Exists.intro a8 (And.intro ha8 (And.intro (kk_ok c9) (And.intro (ib_ok c10) (And.intro (Nat.le_of_ble_eq_true rfl) (?_)))))))
        show Ev l d mi_X6_reckon 32 [some (.ref x0), some (.ref x1), some (.int x2), some (.int (s.1 a8 x2.toNatClampNeg)), none, none] [.int (s.1 a8 x2.toNatClampNeg)] (hp s) 0 0 _
        refine Ev.if_lt (off := 11) (tgt := 43) (by decide +kernel) (by decide) (fun b11 => ?_) (fun b11 => ?_)
        · have hf := (if_pos b11).symm.trans hf
          refine Ev.blk (pc' := 46) [(.iload_n 3, 0, 0, 0), (.bipush (-100), 0, 0, 0)] (by decide +kernel) trivial rfl (?_)
          show Ev l d mi_X6_reckon 46 [some (.ref x0), some (.ref x1), some (.int x2), some (.int (s.1 a8 x2.toNatClampNeg)), none, none] [.int ((Int8.ofInt (-100)).toInt32), .int (s.1 a8 x2.toNatClampNeg)] (hp s) 0 0 _
          refine Ev.icmp_gt (off := 18) (tgt := 64) (by decide +kernel) (by decide) (fun b12 => ?_) (fun b12 => ?_)
          · have hf := (if_pos b12).symm.trans hf
            refine Ev.blk (pc' := 67) [(.iload_n 3, 0, 0, 0), (.bipush (-12), 0, 0, 0)] (by decide +kernel) trivial rfl (?_)
            show Ev l d mi_X6_reckon 67 [some (.ref x0), some (.ref x1), some (.int x2), some (.int (s.1 a8 x2.toNatClampNeg)), none, none] [.int ((Int8.ofInt (-12)).toInt32), .int (s.1 a8 x2.toNatClampNeg)] (hp s) 0 0 _
            refine Ev.icmp_ne (off := 16) (tgt := 83) (by decide +kernel) (by decide) (fun b13 => ?_) (fun b13 => ?_)
            · have hf := (if_neg b13).symm.trans hf
              refine Ev.blk (pc' := 86) [(.iload_n 3, 0, 0, 0), (.bipush (-13), 0, 0, 0)] (by decide +kernel) trivial rfl (?_)
              show Ev l d mi_X6_reckon 86 [some (.ref x0), some (.ref x1), some (.int x2), some (.int (s.1 a8 x2.toNatClampNeg)), none, none] [.int ((Int8.ofInt (-13)).toInt32), .int (s.1 a8 x2.toNatClampNeg)] (hp s) 0 0 _
              refine Ev.icmp_ne (off := 39) (tgt := 125) (by decide +kernel) (by decide) (fun b14 => ?_) (fun b14 => ?_)
              · have hf := (if_neg b14).symm.trans hf
                refine Ev.blk (pc' := 126) [(.aload_n 0, 0, 0, 0)] (by decide +kernel) trivial rfl (?_)
                show Ev l d mi_X6_reckon 126 [some (.ref x0), some (.ref x1), some (.int x2), some (.int (s.1 a8 x2.toNatClampNeg)), none, none] [.ref x0] (hp s) 0 0 _
                obtain ⟨q15, hq15, hf⟩ := bd_some hf
                obtain ⟨c16, hf⟩ := gd_some hf
                refine Ev.callV (o := x0) (M' := mi_X6_pop) (d' := d - 1) (As := []) (rest := []) (r' := (some (.int q15.1), hp q15.2)) (e_X6_pop (d := d - 1) (by omega) x0 s _ hq15) (by omega) wm_X6_pop wi_X6_pop wv_X6_pop km_6_41 (kk_ok c16) (Nat.le_of_ble_eq_true rfl) rfl rfl rfl (Nat.le_of_ble_eq_true rfl) ⟨Nat.le_of_ble_eq_true rfl, Nat.le_of_ble_eq_true rfl⟩ (by decide +kernel) ?_
                show Ev l d mi_X6_reckon 129 [some (.ref x0), some (.ref x1), some (.int x2), some (.int (s.1 a8 x2.toNatClampNeg)), none, none] [.int q15.1] (hp q15.2) 0 0 _
                refine Ev.blk (pc' := 132) [(.istore 4, 0, 0, 0), (.aload_n 0, 0, 0, 0)] (by decide +kernel) trivial rfl (And.intro (Nat.le_of_ble_eq_true rfl) (?_))
                show Ev l d mi_X6_reckon 132 [some (.ref x0), some (.ref x1), some (.int x2), some (.int (s.1 a8 x2.toNatClampNeg)), some (.int q15.1), none] [.ref x0] (hp q15.2) 0 0 _
                obtain ⟨q17, hq17, hf⟩ := bd_some hf
                refine Ev.callV (o := x0) (M' := mi_X6_pop) (d' := d - 1) (As := []) (rest := []) (r' := (some (.int q17.1), hp q17.2)) (e_X6_pop (d := d - 1) (by omega) x0 q15.2 _ hq17) (by omega) wm_X6_pop wi_X6_pop wv_X6_pop km_6_41 (kk_ok c16) (Nat.le_of_ble_eq_true rfl) rfl rfl rfl (Nat.le_of_ble_eq_true rfl) ⟨Nat.le_of_ble_eq_true rfl, Nat.le_of_ble_eq_true rfl⟩ (by decide +kernel) ?_
                show Ev l d mi_X6_reckon 135 [some (.ref x0), some (.ref x1), some (.int x2), some (.int (s.1 a8 x2.toNatClampNeg)), some (.int q15.1), none] [.int q17.1] (hp q17.2) 0 0 _
                refine Ev.blk (pc' := 143) [(.istore 5, 0, 0, 0), (.aload_n 0, 0, 0, 0), (.iload_n 3, 0, 0, 0), (.iload 5, 0, 0, 0), (.iload 4, 0, 0, 0)] (by decide +kernel) trivial rfl (And.intro (Nat.le_of_ble_eq_true rfl) (?_))
                show Ev l d mi_X6_reckon 143 [some (.ref x0), some (.ref x1), some (.int x2), some (.int (s.1 a8 x2.toNatClampNeg)), some (.int q15.1), some (.int q17.1)] [.int q15.1, .int q17.1, .int (s.1 a8 x2.toNatClampNeg), .ref x0] (hp q17.2) 0 0 _
                obtain ⟨q18, hq18, hf⟩ := bd_some hf
                refine Ev.callS (M' := mi_X6_joined) (d' := d - 1) (As := [.int (s.1 a8 x2.toNatClampNeg), .int q17.1, .int q15.1]) (rest := [.ref x0]) (r' := (some (.int q18.1), hp q18.2)) (e_X6_joined (d := d - 1) (by omega) (s.1 a8 x2.toNatClampNeg) q17.1 q15.1 q17.2 _ hq18) (by omega) wm_X6_joined wt_X6_joined km_6_45 rfl rfl rfl (Nat.le_of_ble_eq_true rfl) ⟨Nat.le_of_ble_eq_true rfl, Nat.le_of_ble_eq_true rfl⟩ (by decide +kernel) ?_
                show Ev l d mi_X6_reckon 146 [some (.ref x0), some (.ref x1), some (.int x2), some (.int (s.1 a8 x2.toNatClampNeg)), some (.int q15.1), some (.int q17.1)] [.int q18.1, .ref x0] (hp q18.2) 0 0 _
                obtain ⟨q19, hq19, hf⟩ := bd_some hf
                refine Ev.callV (o := x0) (M' := mi_X6_push) (d' := d - 1) (As := [.int q18.1]) (rest := []) (r' := (none, hp q19)) (e_X6_push (d := d - 1) (by omega) x0 q18.1 q18.2 _ hq19) (by omega) wm_X6_push wi_X6_push wv_X6_push km_6_33 (kk_ok c16) (Nat.le_of_ble_eq_true rfl) rfl rfl rfl (Nat.le_of_ble_eq_true rfl) ⟨Nat.le_of_ble_eq_true rfl, Nat.le_of_ble_eq_true rfl⟩ (by decide +kernel) ?_
                show Ev l d mi_X6_reckon 149 [some (.ref x0), some (.ref x1), some (.int x2), some (.int (s.1 a8 x2.toNatClampNeg)), some (.int q15.1), some (.int q17.1)] [] (hp q19) 0 0 _
                refine Ev.blk (pc' := 152) [(.iinc 2 1, 0, 0, 0)] (by decide +kernel) trivial rfl (And.intro (Nat.le_of_ble_eq_true rfl) (?_))
                show Ev l d mi_X6_reckon 152 [some (.ref x0), some (.ref x1), some (.int (x2 + Int32.ofInt 1)), some (.int (s.1 a8 x2.toNatClampNeg)), some (.int q15.1), some (.int q17.1)] [] (hp q19) 0 0 _
                refine Ev.goto (off := -145) (tgt := 7) (by decide +kernel) (by decide) ?_
                exact Ev.wk (ih x0 x1 (x2 + Int32.ofInt 1) q19 _ hf) (And.intro (Or.inr rfl) (And.intro (Or.inr rfl) (And.intro (Or.inr rfl) (And.intro (Or.inl rfl) (And.intro (Or.inl rfl) (And.intro (Or.inl rfl) (trivial)))))))
              · have hf := (if_pos b14).symm.trans hf
                refine Ev.blk (pc' := 90) [(.aload_n 0, 0, 0, 0)] (by decide +kernel) trivial rfl (?_)
                show Ev l d mi_X6_reckon 90 [some (.ref x0), some (.ref x1), some (.int x2), some (.int (s.1 a8 x2.toNatClampNeg)), none, none] [.ref x0] (hp s) 0 0 _
                obtain ⟨q20, hq20, hf⟩ := bd_some hf
                obtain ⟨c21, hf⟩ := gd_some hf
                refine Ev.callV (o := x0) (M' := mi_X6_pop) (d' := d - 1) (As := []) (rest := []) (r' := (some (.int q20.1), hp q20.2)) (e_X6_pop (d := d - 1) (by omega) x0 s _ hq20) (by omega) wm_X6_pop wi_X6_pop wv_X6_pop km_6_41 (kk_ok c21) (Nat.le_of_ble_eq_true rfl) rfl rfl rfl (Nat.le_of_ble_eq_true rfl) ⟨Nat.le_of_ble_eq_true rfl, Nat.le_of_ble_eq_true rfl⟩ (by decide +kernel) ?_
                show Ev l d mi_X6_reckon 93 [some (.ref x0), some (.ref x1), some (.int x2), some (.int (s.1 a8 x2.toNatClampNeg)), none, none] [.int q20.1] (hp q20.2) 0 0 _
                refine Ev.blk (pc' := 98) [(.istore 4, 0, 0, 0), (.aload_n 0, 0, 0, 0), (.iload 4, 0, 0, 0)] (by decide +kernel) trivial rfl (And.intro (Nat.le_of_ble_eq_true rfl) (?_))
                show Ev l d mi_X6_reckon 98 [some (.ref x0), some (.ref x1), some (.int x2), some (.int (s.1 a8 x2.toNatClampNeg)), some (.int q20.1), none] [.int q20.1, .ref x0] (hp q20.2) 0 0 _
                refine Ev.if_lt (off := 20) (tgt := 118) (by decide +kernel) (by decide) (fun b22 => ?_) (fun b22 => ?_)
                · have hf := (if_pos b22).symm.trans hf
                  exact Ev.wk ((e_X6_reckon_j118 hd (f_X6_reckon_L7 k155 n) ih) x0 x1 x2 x0 q20.2 _ hf) (And.intro (Or.inr rfl) (And.intro (Or.inr rfl) (And.intro (Or.inr rfl) (And.intro (Or.inl rfl) (And.intro (Or.inl rfl) (And.intro (Or.inr rfl) (trivial)))))))
                · have hf := (if_neg b22).symm.trans hf
                  refine Ev.blk (pc' := 105) [(.iload 4, 0, 0, 0), (.bipush 6, 0, 0, 0)] (by decide +kernel) trivial rfl (?_)
                  show Ev l d mi_X6_reckon 105 [some (.ref x0), some (.ref x1), some (.int x2), some (.int (s.1 a8 x2.toNatClampNeg)), some (.int q20.1), none] [.int ((Int8.ofInt 6).toInt32), .int q20.1, .ref x0] (hp q20.2) 0 0 _
                  refine Ev.icmp_ge (off := 13) (tgt := 118) (by decide +kernel) (by decide) (fun b23 => ?_) (fun b23 => ?_)
                  · have hf := (if_pos b23).symm.trans hf
                    exact Ev.wk ((e_X6_reckon_j118 hd (f_X6_reckon_L7 k155 n) ih) x0 x1 x2 x0 q20.2 _ hf) (And.intro (Or.inr rfl) (And.intro (Or.inr rfl) (And.intro (Or.inr rfl) (And.intro (Or.inl rfl) (And.intro (Or.inl rfl) (And.intro (Or.inr rfl) (trivial)))))))
                  · have hf := (if_neg b23).symm.trans hf
                    obtain ⟨a24, ha24, hf⟩ := bd_some hf
                    obtain ⟨c25, hf⟩ := gd_some hf
                    obtain ⟨c26, hf⟩ := gd_some hf
                    refine Ev.blk (pc' := 115) [(.aload_n 0, 0, 0, 0), (.getfield 15, 0, 6, 1), (.iload 4, 0, 0, 0), (.iaload, 0, 0, 0)] (by decide +kernel) ⟨kf_6_15, trivial⟩ rfl (And.intro (kk_ok c21) (Exists.intro a24 (And.intro ha24 (And.intro (kk_ok c25) (And.intro (ib_ok c26) (?_))))))
                    show Ev l d mi_X6_reckon 115 [some (.ref x0), some (.ref x1), some (.int x2), some (.int (s.1 a8 x2.toNatClampNeg)), some (.int q20.1), none] [.int (q20.2.1 a24 q20.1.toNatClampNeg), .ref x0] (hp q20.2) 0 0 _
                    refine Ev.goto (off := 4) (tgt := 119) (by decide +kernel) (by decide) ?_
                    exact Ev.wk ((e_X6_reckon_j119 hd (f_X6_reckon_L7 k155 n) ih) x0 x1 x2 x0 (q20.2.1 a24 q20.1.toNatClampNeg) q20.2 _ hf) (And.intro (Or.inr rfl) (And.intro (Or.inr rfl) (And.intro (Or.inr rfl) (And.intro (Or.inl rfl) (And.intro (Or.inl rfl) (And.intro (Or.inr rfl) (trivial)))))))
            · have hf := (if_pos b13).symm.trans hf
              refine Ev.blk (pc' := 73) [(.aload_n 0, 0, 0, 0), (.iconst 1, 0, 0, 0), (.aload_n 0, 0, 0, 0)] (by decide +kernel) trivial rfl (?_)
              show Ev l d mi_X6_reckon 73 [some (.ref x0), some (.ref x1), some (.int x2), some (.int (s.1 a8 x2.toNatClampNeg)), none, none] [.ref x0, .int (Int32.ofInt 1), .ref x0] (hp s) 0 0 _
              obtain ⟨q27, hq27, hf⟩ := bd_some hf
              obtain ⟨c28, hf⟩ := gd_some hf
              refine Ev.callV (o := x0) (M' := mi_X6_pop) (d' := d - 1) (As := []) (rest := [.int (Int32.ofInt 1), .ref x0]) (r' := (some (.int q27.1), hp q27.2)) (e_X6_pop (d := d - 1) (by omega) x0 s _ hq27) (by omega) wm_X6_pop wi_X6_pop wv_X6_pop km_6_41 (kk_ok c28) (Nat.le_of_ble_eq_true rfl) rfl rfl rfl (Nat.le_of_ble_eq_true rfl) ⟨Nat.le_of_ble_eq_true rfl, Nat.le_of_ble_eq_true rfl⟩ (by decide +kernel) ?_
              show Ev l d mi_X6_reckon 76 [some (.ref x0), some (.ref x1), some (.int x2), some (.int (s.1 a8 x2.toNatClampNeg)), none, none] [.int q27.1, .int (Int32.ofInt 1), .ref x0] (hp q27.2) 0 0 _
              refine Ev.blk (pc' := 77) [(.isub, 0, 0, 0)] (by decide +kernel) trivial rfl (?_)
              show Ev l d mi_X6_reckon 77 [some (.ref x0), some (.ref x1), some (.int x2), some (.int (s.1 a8 x2.toNatClampNeg)), none, none] [.int ((Int32.ofInt 1) - q27.1), .ref x0] (hp q27.2) 0 0 _
              obtain ⟨q29, hq29, hf⟩ := bd_some hf
              refine Ev.callV (o := x0) (M' := mi_X6_push) (d' := d - 1) (As := [.int ((Int32.ofInt 1) - q27.1)]) (rest := []) (r' := (none, hp q29)) (e_X6_push (d := d - 1) (by omega) x0 ((Int32.ofInt 1) - q27.1) q27.2 _ hq29) (by omega) wm_X6_push wi_X6_push wv_X6_push km_6_33 (kk_ok c28) (Nat.le_of_ble_eq_true rfl) rfl rfl rfl (Nat.le_of_ble_eq_true rfl) ⟨Nat.le_of_ble_eq_true rfl, Nat.le_of_ble_eq_true rfl⟩ (by decide +kernel) ?_
              show Ev l d mi_X6_reckon 80 [some (.ref x0), some (.ref x1), some (.int x2), some (.int (s.1 a8 x2.toNatClampNeg)), none, none] [] (hp q29) 0 0 _
              refine Ev.goto (off := 69) (tgt := 149) (by decide +kernel) (by decide) ?_
              refine Ev.blk (pc' := 152) [(.iinc 2 1, 0, 0, 0)] (by decide +kernel) trivial rfl (And.intro (Nat.le_of_ble_eq_true rfl) (?_))
              show Ev l d mi_X6_reckon 152 [some (.ref x0), some (.ref x1), some (.int (x2 + Int32.ofInt 1)), some (.int (s.1 a8 x2.toNatClampNeg)), none, none] [] (hp q29) 0 0 _
              refine Ev.goto (off := -145) (tgt := 7) (by decide +kernel) (by decide) ?_
              exact Ev.wk (ih x0 x1 (x2 + Int32.ofInt 1) q29 _ hf) (And.intro (Or.inr rfl) (And.intro (Or.inr rfl) (And.intro (Or.inr rfl) (And.intro (Or.inl rfl) (And.intro (Or.inr rfl) (And.intro (Or.inr rfl) (trivial)))))))
          · have hf := (if_neg b12).symm.trans hf
            refine Ev.blk (pc' := 55) [(.aload_n 0, 0, 0, 0), (.aload_n 0, 0, 0, 0), (.bipush (-100), 0, 0, 0), (.iload_n 3, 0, 0, 0), (.isub, 0, 0, 0)] (by decide +kernel) trivial rfl (?_)
            show Ev l d mi_X6_reckon 55 [some (.ref x0), some (.ref x1), some (.int x2), some (.int (s.1 a8 x2.toNatClampNeg)), none, none] [.int (((Int8.ofInt (-100)).toInt32) - (s.1 a8 x2.toNatClampNeg)), .ref x0, .ref x0] (hp s) 0 0 _
            obtain ⟨q30, hq30, hf⟩ := bd_some hf
            obtain ⟨c31, hf⟩ := gd_some hf
            refine Ev.callV (o := x0) (M' := mi_X6_fact) (d' := d - 1) (As := [.int (((Int8.ofInt (-100)).toInt32) - (s.1 a8 x2.toNatClampNeg))]) (rest := [.ref x0]) (r' := (some (.int q30.1), hp q30.2)) (e_X6_fact (d := d - 1) (by omega) x0 (((Int8.ofInt (-100)).toInt32) - (s.1 a8 x2.toNatClampNeg)) s _ hq30) (by omega) wm_X6_fact wi_X6_fact wv_X6_fact km_6_37 (kk_ok c31) (Nat.le_of_ble_eq_true rfl) rfl rfl rfl (Nat.le_of_ble_eq_true rfl) ⟨Nat.le_of_ble_eq_true rfl, Nat.le_of_ble_eq_true rfl⟩ (by decide +kernel) ?_
            show Ev l d mi_X6_reckon 58 [some (.ref x0), some (.ref x1), some (.int x2), some (.int (s.1 a8 x2.toNatClampNeg)), none, none] [.int q30.1, .ref x0] (hp q30.2) 0 0 _
            obtain ⟨q32, hq32, hf⟩ := bd_some hf
            refine Ev.callV (o := x0) (M' := mi_X6_push) (d' := d - 1) (As := [.int q30.1]) (rest := []) (r' := (none, hp q32)) (e_X6_push (d := d - 1) (by omega) x0 q30.1 q30.2 _ hq32) (by omega) wm_X6_push wi_X6_push wv_X6_push km_6_33 (kk_ok c31) (Nat.le_of_ble_eq_true rfl) rfl rfl rfl (Nat.le_of_ble_eq_true rfl) ⟨Nat.le_of_ble_eq_true rfl, Nat.le_of_ble_eq_true rfl⟩ (by decide +kernel) ?_
            show Ev l d mi_X6_reckon 61 [some (.ref x0), some (.ref x1), some (.int x2), some (.int (s.1 a8 x2.toNatClampNeg)), none, none] [] (hp q32) 0 0 _
            refine Ev.goto (off := 88) (tgt := 149) (by decide +kernel) (by decide) ?_
            refine Ev.blk (pc' := 152) [(.iinc 2 1, 0, 0, 0)] (by decide +kernel) trivial rfl (And.intro (Nat.le_of_ble_eq_true rfl) (?_))
            show Ev l d mi_X6_reckon 152 [some (.ref x0), some (.ref x1), some (.int (x2 + Int32.ofInt 1)), some (.int (s.1 a8 x2.toNatClampNeg)), none, none] [] (hp q32) 0 0 _
            refine Ev.goto (off := -145) (tgt := 7) (by decide +kernel) (by decide) ?_
            exact Ev.wk (ih x0 x1 (x2 + Int32.ofInt 1) q32 _ hf) (And.intro (Or.inr rfl) (And.intro (Or.inr rfl) (And.intro (Or.inr rfl) (And.intro (Or.inl rfl) (And.intro (Or.inr rfl) (And.intro (Or.inr rfl) (trivial)))))))
        · have hf := (if_neg b11).symm.trans hf
          refine Ev.blk (pc' := 37) [(.aload_n 0, 0, 0, 0), (.iload_n 3, 0, 0, 0)] (by decide +kernel) trivial rfl (?_)
          show Ev l d mi_X6_reckon 37 [some (.ref x0), some (.ref x1), some (.int x2), some (.int (s.1 a8 x2.toNatClampNeg)), none, none] [.int (s.1 a8 x2.toNatClampNeg), .ref x0] (hp s) 0 0 _
          obtain ⟨q33, hq33, hf⟩ := bd_some hf
          obtain ⟨c34, hf⟩ := gd_some hf
          refine Ev.callV (o := x0) (M' := mi_X6_push) (d' := d - 1) (As := [.int (s.1 a8 x2.toNatClampNeg)]) (rest := []) (r' := (none, hp q33)) (e_X6_push (d := d - 1) (by omega) x0 (s.1 a8 x2.toNatClampNeg) s _ hq33) (by omega) wm_X6_push wi_X6_push wv_X6_push km_6_33 (kk_ok c34) (Nat.le_of_ble_eq_true rfl) rfl rfl rfl (Nat.le_of_ble_eq_true rfl) ⟨Nat.le_of_ble_eq_true rfl, Nat.le_of_ble_eq_true rfl⟩ (by decide +kernel) ?_
          show Ev l d mi_X6_reckon 40 [some (.ref x0), some (.ref x1), some (.int x2), some (.int (s.1 a8 x2.toNatClampNeg)), none, none] [] (hp q33) 0 0 _
          refine Ev.goto (off := 109) (tgt := 149) (by decide +kernel) (by decide) ?_
          refine Ev.blk (pc' := 152) [(.iinc 2 1, 0, 0, 0)] (by decide +kernel) trivial rfl (And.intro (Nat.le_of_ble_eq_true rfl) (?_))
          show Ev l d mi_X6_reckon 152 [some (.ref x0), some (.ref x1), some (.int (x2 + Int32.ofInt 1)), some (.int (s.1 a8 x2.toNatClampNeg)), none, none] [] (hp q33) 0 0 _
          refine Ev.goto (off := -145) (tgt := 7) (by decide +kernel) (by decide) ?_
          exact Ev.wk (ih x0 x1 (x2 + Int32.ofInt 1) q33 _ hf) (And.intro (Or.inr rfl) (And.intro (Or.inr rfl) (And.intro (Or.inr rfl) (And.intro (Or.inl rfl) (And.intro (Or.inr rfl) (And.intro (Or.inr rfl) (trivial)))))))
def f_X6_reckon_j155 (x0 : Nat) (s : ST) : Option (Int32 × ST) := (f_X6_pop x0 s).bind (fun q37 => gd (kk x0 6) (some (q37.1, q37.2)))
set_option maxHeartbeats 2000000 in
set_option maxRecDepth 20000 in
theorem e_X6_reckon_j155 {l : Launch} {d : Nat} (hd : 3 ≤ d) (x0 : Nat) (s : ST) (r : Int32 × ST) (hf : f_X6_reckon_j155 x0 s = some r) : Ev l d mi_X6_reckon 155 [some (.ref x0), none, none, none, none, none] [] (hp s) 0 0 (some (.int r.1), hp r.2) := by
  unfold f_X6_reckon_j155 at hf
  refine Ev.blk (pc' := 156) [(.aload_n 0, 0, 0, 0)] (by decide +kernel) trivial rfl (?_)
  show Ev l d mi_X6_reckon 156 [some (.ref x0), none, none, none, none, none] [.ref x0] (hp s) 0 0 _
  obtain ⟨q37, hq37, hf⟩ := bd_some hf
  obtain ⟨c38, hf⟩ := gd_some hf
  refine Ev.callV (o := x0) (M' := mi_X6_pop) (d' := d - 1) (As := []) (rest := []) (r' := (some (.int q37.1), hp q37.2)) (e_X6_pop (d := d - 1) (by omega) x0 s _ hq37) (by omega) wm_X6_pop wi_X6_pop wv_X6_pop km_6_41 (kk_ok c38) (Nat.le_of_ble_eq_true rfl) rfl rfl rfl (Nat.le_of_ble_eq_true rfl) ⟨Nat.le_of_ble_eq_true rfl, Nat.le_of_ble_eq_true rfl⟩ (by decide +kernel) ?_
  show Ev l d mi_X6_reckon 159 [some (.ref x0), none, none, none, none, none] [.int q37.1] (hp q37.2) 0 0 _
  cases hf
  exact Ev.iret .int rfl rfl (by decide +kernel) (Nat.le_refl _) (Nat.le_refl _)
def f_X6_reckon (o : Nat) (p0 : Nat) (s : ST) : Option (Int32 × ST) := gd (kk o 6) (lt (uI s o 3 (Int32.ofInt 0)) (fun s2 => (f_X6_reckon_L7 f_X6_reckon_j155 fuel) o p0 (Int32.ofInt 0) s2))
set_option maxHeartbeats 2000000 in
set_option maxRecDepth 20000 in
theorem e_X6_reckon {l : Launch} {d : Nat} (hd : 3 ≤ d) (o : Nat) (p0 : Nat) (s : ST) (r : Int32 × ST) (hf : f_X6_reckon o p0 s = some r) : Cl l d mi_X6_reckon [.ref o, .ref p0] (hp s) (some (.int r.1), hp r.2) := by
  refine Ev.entry (by decide +kernel) rfl rfl ?_
  show Ev l d mi_X6_reckon 0 [some (.ref o), some (.ref p0), none, none, none, none] [] (hp s) 0 0 _
  unfold f_X6_reckon at hf
  obtain ⟨c1, hf⟩ := gd_some hf
  obtain ⟨s2, hs2, hf⟩ := lt_some hf
  refine Ev.blk (pc' := 7) [(.aload_n 0, 0, 0, 0), (.iconst 0, 0, 0, 0), (.putfield 21, 0, 6, 3), (.iconst 0, 0, 0, 0), (.istore_n 2, 0, 0, 0)] (by decide +kernel) ⟨⟨kf_6_21, Or.inl rfl⟩, trivial⟩ rfl (And.intro (kk_ok c1) (And.intro (Nat.le_of_ble_eq_true rfl) (?_)))
  show Ev l d mi_X6_reckon 7 [some (.ref o), some (.ref p0), some (.int (Int32.ofInt 0)), none, none, none] [] (hp (uI s o 3 (Int32.ofInt 0))) 0 0 _
  rw [← hs2]
  exact (e_X6_reckon_L7 hd f_X6_reckon_j155 (e_X6_reckon_j155 hd) fuel) o p0 (Int32.ofInt 0) s2 _ hf
def f_X9_farness (p0 : Int32) (p1 : Int32) (s : ST) : Option (Int32 × ST) := lt ((p0 - p0 / (Int32.ofInt 5) * (Int32.ofInt 5)) - (p1 - p1 / (Int32.ofInt 5) * (Int32.ofInt 5))) (fun v1 => lt (if 0 ≤ ((p0 / (Int32.ofInt 5)) - (p1 / (Int32.ofInt 5))) then ((p0 / (Int32.ofInt 5)) - (p1 / (Int32.ofInt 5))) else 0 - ((p0 / (Int32.ofInt 5)) - (p1 / (Int32.ofInt 5)))) (fun v2 => some ((if (if 0 ≤ v1 then v1 else 0 - v1) < v2 then v2 else (if 0 ≤ v1 then v1 else 0 - v1)), s)))
set_option maxHeartbeats 2000000 in
set_option maxRecDepth 20000 in
theorem e_X9_farness {l : Launch} {d : Nat} (hd : 2 ≤ d) (p0 : Int32) (p1 : Int32) (s : ST) (r : Int32 × ST) (hf : f_X9_farness p0 p1 s = some r) : Cl l d mi_X9_farness [.int p0, .int p1] (hp s) (some (.int r.1), hp r.2) := by
  refine Ev.entry (by decide +kernel) rfl rfl ?_
  show Ev l d mi_X9_farness 0 [some (.int p0), some (.int p1), none, none] [] (hp s) 0 0 _
  unfold f_X9_farness at hf
  obtain ⟨v1, hv1, hf⟩ := lt_some hf
  refine Ev.blk (pc' := 7) [(.iload_n 0, 0, 0, 0), (.iconst 5, 0, 0, 0), (.irem, 0, 0, 0), (.iload_n 1, 0, 0, 0), (.iconst 5, 0, 0, 0), (.irem, 0, 0, 0), (.isub, 0, 0, 0)] (by decide +kernel) trivial rfl (And.intro (by decide) (And.intro (by decide) (?_)))
  show Ev l d mi_X9_farness 7 [some (.int p0), some (.int p1), none, none] [.int ((p0 - p0 / (Int32.ofInt 5) * (Int32.ofInt 5)) - (p1 - p1 / (Int32.ofInt 5) * (Int32.ofInt 5)))] (hp s) 0 0 _
  rw [← hv1]
  refine Ev.mabs km_9_354 wt_J9_abs_0f7a4 wini_12 wm_J9_abs_0f7a4.1 (by omega) (Nat.le_of_ble_eq_true rfl) ⟨Nat.le_refl _, Nat.le_refl _⟩ (by decide +kernel) ?_
  show Ev l d mi_X9_farness 10 [some (.int p0), some (.int p1), none, none] [.int (if 0 ≤ v1 then v1 else 0 - v1)] (hp s) 0 0 _
  refine Ev.blk (pc' := 18) [(.istore_n 2, 0, 0, 0), (.iload_n 0, 0, 0, 0), (.iconst 5, 0, 0, 0), (.idiv, 0, 0, 0), (.iload_n 1, 0, 0, 0), (.iconst 5, 0, 0, 0), (.idiv, 0, 0, 0), (.isub, 0, 0, 0)] (by decide +kernel) trivial rfl (And.intro (Nat.le_of_ble_eq_true rfl) (And.intro (by decide) (And.intro (by decide) (?_))))
  show Ev l d mi_X9_farness 18 [some (.int p0), some (.int p1), some (.int (if 0 ≤ v1 then v1 else 0 - v1)), none] [.int ((p0 / (Int32.ofInt 5)) - (p1 / (Int32.ofInt 5)))] (hp s) 0 0 _
  refine Ev.mabs km_9_354 wt_J9_abs_0f7a4 wini_12 wm_J9_abs_0f7a4.1 (by omega) (Nat.le_of_ble_eq_true rfl) ⟨Nat.le_refl _, Nat.le_refl _⟩ (by decide +kernel) ?_
  show Ev l d mi_X9_farness 21 [some (.int p0), some (.int p1), some (.int (if 0 ≤ v1 then v1 else 0 - v1)), none] [.int (if 0 ≤ ((p0 / (Int32.ofInt 5)) - (p1 / (Int32.ofInt 5))) then ((p0 / (Int32.ofInt 5)) - (p1 / (Int32.ofInt 5))) else 0 - ((p0 / (Int32.ofInt 5)) - (p1 / (Int32.ofInt 5))))] (hp s) 0 0 _
  obtain ⟨v2, hv2, hf⟩ := lt_some hf
  refine Ev.blk (pc' := 24) [(.istore_n 3, 0, 0, 0), (.iload_n 2, 0, 0, 0), (.iload_n 3, 0, 0, 0)] (by decide +kernel) trivial rfl (And.intro (Nat.le_of_ble_eq_true rfl) (?_))
  show Ev l d mi_X9_farness 24 [some (.int p0), some (.int p1), some (.int (if 0 ≤ v1 then v1 else 0 - v1)), some (.int (if 0 ≤ ((p0 / (Int32.ofInt 5)) - (p1 / (Int32.ofInt 5))) then ((p0 / (Int32.ofInt 5)) - (p1 / (Int32.ofInt 5))) else 0 - ((p0 / (Int32.ofInt 5)) - (p1 / (Int32.ofInt 5)))))] [.int (if 0 ≤ ((p0 / (Int32.ofInt 5)) - (p1 / (Int32.ofInt 5))) then ((p0 / (Int32.ofInt 5)) - (p1 / (Int32.ofInt 5))) else 0 - ((p0 / (Int32.ofInt 5)) - (p1 / (Int32.ofInt 5)))), .int (if 0 ≤ v1 then v1 else 0 - v1)] (hp s) 0 0 _
  rw [← hv2]
  refine Ev.mmax km_9_357 wt_J9_max_7cf53 wini_12 wm_J9_max_7cf53.1 (by omega) (Nat.le_of_ble_eq_true rfl) ⟨Nat.le_refl _, Nat.le_refl _⟩ (by decide +kernel) ?_
  show Ev l d mi_X9_farness 27 [some (.int p0), some (.int p1), some (.int (if 0 ≤ v1 then v1 else 0 - v1)), some (.int v2)] [.int (if (if 0 ≤ v1 then v1 else 0 - v1) < v2 then v2 else (if 0 ≤ v1 then v1 else 0 - v1))] (hp s) 0 0 _
  cases hf
  exact Ev.iret .int rfl rfl (by decide +kernel) (Nat.le_refl _) (Nat.le_refl _)
def f_X3_harmTo (o : Nat) (p0 : Int32) (s : ST) : Option (Int32 × ST) := gd (kk o 3) ((RR s.2.2 o 0).bind (fun a2 => gd (kk a2 4) ((if (s.1 a2 17) = 0 then some ((s.1 o 11), s) else (RR s.2.2 o 10).bind (fun a5 => gd (kk a5 6) ((RR s.2.2 a5 0).bind (fun a7 => gd (kk a7 13) (gd (ib ((Int8.ofInt 18).toInt32) (K0 a7).2) ((RR (uI s a7 ((Int8.ofInt 18).toInt32).toNatClampNeg (s.1 o 11)).2.2 o 10).bind (fun a10 => gd (kk a10 6) ((RR (uI s a7 ((Int8.ofInt 18).toInt32).toNatClampNeg (s.1 o 11)).2.2 a10 0).bind (fun a12 => gd (kk a12 13) (gd (ib ((Int8.ofInt 19).toInt32) (K0 a12).2) ((RR (uI (uI s a7 ((Int8.ofInt 18).toInt32).toNatClampNeg (s.1 o 11)) a12 ((Int8.ofInt 19).toInt32).toNatClampNeg ((uI s a7 ((Int8.ofInt 18).toInt32).toNatClampNeg (s.1 o 11)).1 o 13)).2.2 o 10).bind (fun a15 => gd (kk a15 6) ((RR (uI (uI s a7 ((Int8.ofInt 18).toInt32).toNatClampNeg (s.1 o 11)) a12 ((Int8.ofInt 19).toInt32).toNatClampNeg ((uI s a7 ((Int8.ofInt 18).toInt32).toNatClampNeg (s.1 o 11)).1 o 13)).2.2 a15 0).bind (fun a17 => lt (uI (uI s a7 ((Int8.ofInt 18).toInt32).toNatClampNeg (s.1 o 11)) a12 ((Int8.ofInt 19).toInt32).toNatClampNeg ((uI s a7 ((Int8.ofInt 18).toInt32).toNatClampNeg (s.1 o 11)).1 o 13)) (fun s18 => (f_X9_farness (s18.1 o 12) p0 s18).bind (fun q19 => gd (kk a17 13) (gd (ib ((Int8.ofInt 20).toInt32) (K0 a17).2) ((RR (uI q19.2 a17 ((Int8.ofInt 20).toInt32).toNatClampNeg q19.1).2.2 o 10).bind (fun a22 => gd (kk a22 6) ((RR (uI q19.2 a17 ((Int8.ofInt 20).toInt32).toNatClampNeg q19.1).2.2 a22 0).bind (fun a24 => gd (kk a24 13) (gd (ib ((Int8.ofInt 21).toInt32) (K0 a24).2) ((RR (uI (uI q19.2 a17 ((Int8.ofInt 20).toInt32).toNatClampNeg q19.1) a24 ((Int8.ofInt 21).toInt32).toNatClampNeg ((uI q19.2 a17 ((Int8.ofInt 20).toInt32).toNatClampNeg q19.1).1 o 1)).2.2 o 10).bind (fun a27 => (RR (uI (uI q19.2 a17 ((Int8.ofInt 20).toInt32).toNatClampNeg q19.1) a24 ((Int8.ofInt 21).toInt32).toNatClampNeg ((uI q19.2 a17 ((Int8.ofInt 20).toInt32).toNatClampNeg q19.1).1 o 1)).2.2 o 0).bind (fun a28 => gd (kk a28 4) ((RR (uI (uI q19.2 a17 ((Int8.ofInt 20).toInt32).toNatClampNeg q19.1) a24 ((Int8.ofInt 21).toInt32).toNatClampNeg ((uI q19.2 a17 ((Int8.ofInt 20).toInt32).toNatClampNeg q19.1).1 o 1)).2.2 a28 16).bind (fun a30 => lt (uI (uI q19.2 a17 ((Int8.ofInt 20).toInt32).toNatClampNeg q19.1) a24 ((Int8.ofInt 21).toInt32).toNatClampNeg ((uI q19.2 a17 ((Int8.ofInt 20).toInt32).toNatClampNeg q19.1).1 o 1)) (fun s31 => (f_X6_reckon a27 a30 s31).bind (fun q32 => gd (kk a27 6) (some ((if (Int32.ofInt 0) < q32.1 then q32.1 else (Int32.ofInt 0)), q32.2))))))))))))))))))))))))))))))))))
set_option maxHeartbeats 2000000 in
set_option maxRecDepth 20000 in
theorem e_X3_harmTo {l : Launch} {d : Nat} (hd : 4 ≤ d) (o : Nat) (p0 : Int32) (s : ST) (r : Int32 × ST) (hf : f_X3_harmTo o p0 s = some r) : Cl l d mi_X3_harmTo [.ref o, .int p0] (hp s) (some (.int r.1), hp r.2) := by
  refine Ev.entry (by decide +kernel) rfl rfl ?_
  show Ev l d mi_X3_harmTo 0 [some (.ref o), some (.int p0)] [] (hp s) 0 0 _
  unfold f_X3_harmTo at hf
  obtain ⟨c1, hf⟩ := gd_some hf
  obtain ⟨a2, ha2, hf⟩ := bd_some hf
  obtain ⟨c3, hf⟩ := gd_some hf
  refine Ev.blk (pc' := 7) [(.aload_n 0, 0, 0, 0), (.getfield 56, 0, 3, 0), (.getfield 234, 0, 4, 17)] (by decide +kernel) ⟨kf_3_56, ⟨kf_3_234, trivial⟩⟩ rfl (And.intro (kk_ok c1) (Exists.intro a2 (And.intro ha2 (And.intro (kk_ok c3) (?_)))))
  show Ev l d mi_X3_harmTo 7 [some (.ref o), some (.int p0)] [.int (s.1 a2 17)] (hp s) 0 0 _
  refine Ev.if_ne (off := 8) (tgt := 15) (by decide +kernel) (by decide) (fun b4 => ?_) (fun b4 => ?_)
  · have hf := (if_neg b4).symm.trans hf
    obtain ⟨a5, ha5, hf⟩ := bd_some hf
    obtain ⟨c6, hf⟩ := gd_some hf
    obtain ⟨a7, ha7, hf⟩ := bd_some hf
    obtain ⟨c8, hf⟩ := gd_some hf
    obtain ⟨c9, hf⟩ := gd_some hf
    obtain ⟨a10, ha10, hf⟩ := bd_some hf
    obtain ⟨c11, hf⟩ := gd_some hf
    obtain ⟨a12, ha12, hf⟩ := bd_some hf
    obtain ⟨c13, hf⟩ := gd_some hf
    obtain ⟨c14, hf⟩ := gd_some hf
    obtain ⟨a15, ha15, hf⟩ := bd_some hf
    obtain ⟨c16, hf⟩ := gd_some hf
    obtain ⟨a17, ha17, hf⟩ := bd_some hf
    obtain ⟨s18, hs18, hf⟩ := lt_some hf
    refine Ev.blk (pc' := 57) [(.aload_n 0, 0, 0, 0), (.getfield 43, 0, 3, 10), (.getfield 237, 0, 6, 0), (.bipush 18, 0, 0, 0), (.aload_n 0, 0, 0, 0), (.getfield 47, 0, 3, 11), (.iastore, 0, 0, 0), (.aload_n 0, 0, 0, 0), (.getfield 43, 0, 3, 10), (.getfield 237, 0, 6, 0), (.bipush 19, 0, 0, 0), (.aload_n 0, 0, 0, 0), (.getfield 53, 0, 3, 13), (.iastore, 0, 0, 0), (.aload_n 0, 0, 0, 0), (.getfield 43, 0, 3, 10), (.getfield 237, 0, 6, 0), (.bipush 20, 0, 0, 0), (.aload_n 0, 0, 0, 0), (.getfield 50, 0, 3, 12), (.iload_n 1, 0, 0, 0)] (by decide +kernel) ⟨kf_3_43, ⟨kf_3_237, ⟨kf_3_47, ⟨kf_3_43, ⟨kf_3_237, ⟨kf_3_53, ⟨kf_3_43, ⟨kf_3_237, ⟨kf_3_50, trivial⟩⟩⟩⟩⟩⟩⟩⟩⟩ rfl (And.intro (kk_ok c1) (Exists.intro a5 (And.intro ha5 (And.intro (kk_ok c6) (Exists.intro a7 (And.intro ha7 (And.intro (kk_ok c1) (And.intro (kk_ok c8) (And.intro (ib_ok c9) (And.intro (kk_ok c1) (Exists.intro a10 (And.intro ha10 (And.intro (kk_ok c11) (Exists.intro a12 (And.intro ha12 (And.intro (kk_ok c1) (And.intro (kk_ok c13) (And.intro (ib_ok c14) (And.intro (kk_ok c1) (Exists.intro a15 (And.intro ha15 (And.intro (kk_ok c16) (Exists.intro a17 (And.intro ha17 (And.intro (kk_ok c1) (?_))))))))))))))))))))))))))
    show Ev l d mi_X3_harmTo 57 [some (.ref o), some (.int p0)] [.int p0, .int ((uI (uI s a7 ((Int8.ofInt 18).toInt32).toNatClampNeg (s.1 o 11)) a12 ((Int8.ofInt 19).toInt32).toNatClampNeg ((uI s a7 ((Int8.ofInt 18).toInt32).toNatClampNeg (s.1 o 11)).1 o 13)).1 o 12), .int ((Int8.ofInt 20).toInt32), .ref a17] (hp (uI (uI s a7 ((Int8.ofInt 18).toInt32).toNatClampNeg (s.1 o 11)) a12 ((Int8.ofInt 19).toInt32).toNatClampNeg ((uI s a7 ((Int8.ofInt 18).toInt32).toNatClampNeg (s.1 o 11)).1 o 13))) 0 0 _
    rw [← hs18]
    obtain ⟨q19, hq19, hf⟩ := bd_some hf
    refine Ev.callSN (M' := mi_X9_farness) (d' := d - 1) (As := [.int (s18.1 o 12), .int p0]) (rest := [.int ((Int8.ofInt 20).toInt32), .ref a17]) (r' := (some (.int q19.1), hp q19.2)) (e_X9_farness (d := d - 1) (by omega) (s18.1 o 12) p0 s18 _ hq19) (by omega) wm_X9_farness wt_X9_farness kn_3_240 rfl rfl rfl (Nat.le_of_ble_eq_true rfl) ⟨Nat.le_of_ble_eq_true rfl, Nat.le_of_ble_eq_true rfl⟩ (by decide +kernel) ?_
    show Ev l d mi_X3_harmTo 60 [some (.ref o), some (.int p0)] [.int q19.1, .int ((Int8.ofInt 20).toInt32), .ref a17] (hp q19.2) 0 0 _
    obtain ⟨c20, hf⟩ := gd_some hf
    obtain ⟨c21, hf⟩ := gd_some hf
    obtain ⟨a22, ha22, hf⟩ := bd_some hf
    obtain ⟨c23, hf⟩ := gd_some hf
    obtain ⟨a24, ha24, hf⟩ := bd_some hf
    obtain ⟨c25, hf⟩ := gd_some hf
    obtain ⟨c26, hf⟩ := gd_some hf
    obtain ⟨a27, ha27, hf⟩ := bd_some hf
    obtain ⟨a28, ha28, hf⟩ := bd_some hf
    obtain ⟨c29, hf⟩ := gd_some hf
    obtain ⟨a30, ha30, hf⟩ := bd_some hf
    obtain ⟨s31, hs31, hf⟩ := lt_some hf
    refine Ev.blk (pc' := 87) [(.iastore, 0, 0, 0), (.aload_n 0, 0, 0, 0), (.getfield 43, 0, 3, 10), (.getfield 237, 0, 6, 0), (.bipush 21, 0, 0, 0), (.aload_n 0, 0, 0, 0), (.getfield 9, 0, 3, 1), (.iastore, 0, 0, 0), (.iconst 0, 0, 0, 0), (.aload_n 0, 0, 0, 0), (.getfield 43, 0, 3, 10), (.aload_n 0, 0, 0, 0), (.getfield 56, 0, 3, 0), (.getfield 243, 0, 4, 16)] (by decide +kernel) ⟨kf_3_43, ⟨kf_3_237, ⟨kf_3_9, ⟨kf_3_43, ⟨kf_3_56, ⟨kf_3_243, trivial⟩⟩⟩⟩⟩⟩ rfl (And.intro (kk_ok c20) (And.intro (ib_ok c21) (And.intro (kk_ok c1) (Exists.intro a22 (And.intro ha22 (And.intro (kk_ok c23) (Exists.intro a24 (And.intro ha24 (And.intro (kk_ok c1) (And.intro (kk_ok c25) (And.intro (ib_ok c26) (And.intro (kk_ok c1) (Exists.intro a27 (And.intro ha27 (And.intro (kk_ok c1) (Exists.intro a28 (And.intro ha28 (And.intro (kk_ok c29) (Exists.intro a30 (And.intro ha30 (?_)))))))))))))))))))))
    show Ev l d mi_X3_harmTo 87 [some (.ref o), some (.int p0)] [.ref a30, .ref a27, .int (Int32.ofInt 0)] (hp (uI (uI q19.2 a17 ((Int8.ofInt 20).toInt32).toNatClampNeg q19.1) a24 ((Int8.ofInt 21).toInt32).toNatClampNeg ((uI q19.2 a17 ((Int8.ofInt 20).toInt32).toNatClampNeg q19.1).1 o 1))) 0 0 _
    rw [← hs31]
    obtain ⟨q32, hq32, hf⟩ := bd_some hf
    obtain ⟨c33, hf⟩ := gd_some hf
    refine Ev.callV (o := a27) (M' := mi_X6_reckon) (d' := d - 1) (As := [.ref a30]) (rest := [.int (Int32.ofInt 0)]) (r' := (some (.int q32.1), hp q32.2)) (e_X6_reckon (d := d - 1) (by omega) a27 a30 s31 _ hq32) (by omega) wm_X6_reckon wi_X6_reckon wv_X6_reckon km_3_247 (kk_ok c33) (Nat.le_of_ble_eq_true rfl) rfl rfl rfl (Nat.le_of_ble_eq_true rfl) ⟨Nat.le_of_ble_eq_true rfl, Nat.le_of_ble_eq_true rfl⟩ (by decide +kernel) ?_
    show Ev l d mi_X3_harmTo 90 [some (.ref o), some (.int p0)] [.int q32.1, .int (Int32.ofInt 0)] (hp q32.2) 0 0 _
    refine Ev.mmax km_3_181 wt_J9_max_7cf53 wini_12 wm_J9_max_7cf53.1 (by omega) (Nat.le_of_ble_eq_true rfl) ⟨Nat.le_refl _, Nat.le_refl _⟩ (by decide +kernel) ?_
    show Ev l d mi_X3_harmTo 93 [some (.ref o), some (.int p0)] [.int (if (Int32.ofInt 0) < q32.1 then q32.1 else (Int32.ofInt 0))] (hp q32.2) 0 0 _
    cases hf
    exact Ev.iret .int rfl rfl (by decide +kernel) (Nat.le_refl _) (Nat.le_refl _)
  · have hf := (if_pos b4).symm.trans hf
    refine Ev.blk (pc' := 14) [(.aload_n 0, 0, 0, 0), (.getfield 47, 0, 3, 11)] (by decide +kernel) ⟨kf_3_47, trivial⟩ rfl (And.intro (kk_ok c1) (?_))
    show Ev l d mi_X3_harmTo 14 [some (.ref o), some (.int p0)] [.int (s.1 o 11)] (hp s) 0 0 _
    cases hf
    exact Ev.iret .int rfl rfl (by decide +kernel) (Nat.le_refl _) (Nat.le_refl _)
def f_X3_wither_L2 : Nat → Nat → Int32 → ST → Option (ST)
  | 0, _, _, _ => none
  | n + 1, x0, x1, s => gd (kk x0 3) ((RR s.2.2 x0 0).bind (fun a2 => gd (kk a2 4) ((if (s.1 a2 12) ≤ x1 then some s else (RR s.2.2 x0 5).bind (fun a5 => (RR s.2.2 x0 5).bind (fun a6 => gd (kk a6 13) (gd (ib x1 (K0 a6).2) ((RR s.2.2 x0 0).bind (fun a9 => gd (kk a9 4) ((RR s.2.2 a9 13).bind (fun a11 => gd (kk a11 13) (gd (ib x1 (K0 a11).2) ((f_X3_harmTo x0 (s.1 a11 x1.toNatClampNeg) s).bind (fun q14 => gd (kk a5 13) (gd (ib x1 (K0 a5).2) (lt (uI q14.2 a5 x1.toNatClampNeg (if (Int32.ofInt 0) < ((s.1 a6 x1.toNatClampNeg) - q14.1) then ((s.1 a6 x1.toNatClampNeg) - q14.1) else (Int32.ofInt 0))) (fun s17 => (f_X3_wither_L2 n) x0 (x1 + Int32.ofInt 1) s17)))))))))))))))))
set_option maxHeartbeats 2000000 in
set_option maxRecDepth 20000 in
theorem e_X3_wither_L2 {l : Launch} {d : Nat} (hd : 5 ≤ d) : ∀ (n : Nat) (x0 : Nat) (x1 : Int32) (s : ST) (r : ST), f_X3_wither_L2 n x0 x1 s = some r → Ev l d mi_X3_wither 2 [some (.ref x0), some (.int x1)] [] (hp s) 0 0 (none, hp r) := by
  intro n
  induction n with
  | zero =>
    intro x0 x1 s r hf
    cases hf
  | succ n ih =>
    intro x0 x1 s r hf
    unfold f_X3_wither_L2 at hf
    obtain ⟨c1, hf⟩ := gd_some hf
    obtain ⟨a2, ha2, hf⟩ := bd_some hf
    obtain ⟨c3, hf⟩ := gd_some hf
    refine Ev.blk (pc' := 10) [(.iload_n 1, 0, 0, 0), (.aload_n 0, 0, 0, 0), (.getfield 56, 0, 3, 0), (.getfield 72, 0, 4, 12)] (by decide +kernel) ⟨kf_3_56, ⟨kf_3_72, trivial⟩⟩ rfl (And.intro (kk_ok c1) (Exists.intro a2 (And.intro ha2 (And.intro (kk_ok c3) (?_)))))
    show Ev l d mi_X3_wither 10 [some (.ref x0), some (.int x1)] [.int (s.1 a2 12), .int x1] (hp s) 0 0 _
    refine Ev.icmp_ge (off := 39) (tgt := 49) (by decide +kernel) (by decide) (fun b4 => ?_) (fun b4 => ?_)
    · have hf := (if_pos b4).symm.trans hf
      cases hf
      exact Ev.vret rfl (by decide +kernel) (Nat.le_refl _) (Nat.le_refl _)
    · have hf := (if_neg b4).symm.trans hf
      obtain ⟨a5, ha5, hf⟩ := bd_some hf
      obtain ⟨a6, ha6, hf⟩ := bd_some hf
      obtain ⟨c7, hf⟩ := gd_some hf
      obtain ⟨c8, hf⟩ := gd_some hf
      obtain ⟨a9, ha9, hf⟩ := bd_some hf
      obtain ⟨c10, hf⟩ := gd_some hf
      obtain ⟨a11, ha11, hf⟩ := bd_some hf
      obtain ⟨c12, hf⟩ := gd_some hf
      obtain ⟨c13, hf⟩ := gd_some hf
      refine Ev.blk (pc' := 35) [(.aload_n 0, 0, 0, 0), (.getfield 25, 0, 3, 5), (.iload_n 1, 0, 0, 0), (.iconst 0, 0, 0, 0), (.aload_n 0, 0, 0, 0), (.getfield 25, 0, 3, 5), (.iload_n 1, 0, 0, 0), (.iaload, 0, 0, 0), (.aload_n 0, 0, 0, 0), (.aload_n 0, 0, 0, 0), (.getfield 56, 0, 3, 0), (.getfield 251, 0, 4, 13), (.iload_n 1, 0, 0, 0), (.iaload, 0, 0, 0)] (by decide +kernel) ⟨kf_3_25, ⟨kf_3_25, ⟨kf_3_56, ⟨kf_3_251, trivial⟩⟩⟩⟩ rfl (And.intro (kk_ok c1) (Exists.intro a5 (And.intro ha5 (And.intro (kk_ok c1) (Exists.intro a6 (And.intro ha6 (And.intro (kk_ok c7) (And.intro (ib_ok c8) (And.intro (kk_ok c1) (Exists.intro a9 (And.intro ha9 (And.intro (kk_ok c10) (Exists.intro a11 (And.intro ha11 (And.intro (kk_ok c12) (And.intro (ib_ok c13) (?_)))))))))))))))))
      show Ev l d mi_X3_wither 35 [some (.ref x0), some (.int x1)] [.int (s.1 a11 x1.toNatClampNeg), .ref x0, .int (s.1 a6 x1.toNatClampNeg), .int (Int32.ofInt 0), .int x1, .ref a5] (hp s) 0 0 _
      obtain ⟨q14, hq14, hf⟩ := bd_some hf
      refine Ev.callV (o := x0) (M' := mi_X3_harmTo) (d' := d - 1) (As := [.int (s.1 a11 x1.toNatClampNeg)]) (rest := [.int (s.1 a6 x1.toNatClampNeg), .int (Int32.ofInt 0), .int x1, .ref a5]) (r' := (some (.int q14.1), hp q14.2)) (e_X3_harmTo (d := d - 1) (by omega) x0 (s.1 a11 x1.toNatClampNeg) s _ hq14) (by omega) wm_X3_harmTo wi_X3_harmTo wv_X3_harmTo km_3_254 (kk_ok c1) (Nat.le_of_ble_eq_true rfl) rfl rfl rfl (Nat.le_of_ble_eq_true rfl) ⟨Nat.le_of_ble_eq_true rfl, Nat.le_of_ble_eq_true rfl⟩ (by decide +kernel) ?_
      show Ev l d mi_X3_wither 38 [some (.ref x0), some (.int x1)] [.int q14.1, .int (s.1 a6 x1.toNatClampNeg), .int (Int32.ofInt 0), .int x1, .ref a5] (hp q14.2) 0 0 _
      refine Ev.blk (pc' := 39) [(.isub, 0, 0, 0)] (by decide +kernel) trivial rfl (?_)
      show Ev l d mi_X3_wither 39 [some (.ref x0), some (.int x1)] [.int ((s.1 a6 x1.toNatClampNeg) - q14.1), .int (Int32.ofInt 0), .int x1, .ref a5] (hp q14.2) 0 0 _
      refine Ev.mmax km_3_181 wt_J9_max_7cf53 wini_12 wm_J9_max_7cf53.1 (by omega) (Nat.le_of_ble_eq_true rfl) ⟨Nat.le_refl _, Nat.le_refl _⟩ (by decide +kernel) ?_
      show Ev l d mi_X3_wither 42 [some (.ref x0), some (.int x1)] [.int (if (Int32.ofInt 0) < ((s.1 a6 x1.toNatClampNeg) - q14.1) then ((s.1 a6 x1.toNatClampNeg) - q14.1) else (Int32.ofInt 0)), .int x1, .ref a5] (hp q14.2) 0 0 _
      obtain ⟨c15, hf⟩ := gd_some hf
      obtain ⟨c16, hf⟩ := gd_some hf
      obtain ⟨s17, hs17, hf⟩ := lt_some hf
      refine Ev.blk (pc' := 46) [(.iastore, 0, 0, 0), (.iinc 1 1, 0, 0, 0)] (by decide +kernel) trivial rfl (And.intro (kk_ok c15) (And.intro (ib_ok c16) (And.intro (Nat.le_of_ble_eq_true rfl) (?_))))
      show Ev l d mi_X3_wither 46 [some (.ref x0), some (.int (x1 + Int32.ofInt 1))] [] (hp (uI q14.2 a5 x1.toNatClampNeg (if (Int32.ofInt 0) < ((s.1 a6 x1.toNatClampNeg) - q14.1) then ((s.1 a6 x1.toNatClampNeg) - q14.1) else (Int32.ofInt 0)))) 0 0 _
      rw [← hs17]
      refine Ev.goto (off := -44) (tgt := 2) (by decide +kernel) (by decide) ?_
      exact ih x0 (x1 + Int32.ofInt 1) s17 _ hf
def f_X3_wither (o : Nat) (s : ST) : Option (ST) := (f_X3_wither_L2 fuel) o (Int32.ofInt 0) s
set_option maxHeartbeats 2000000 in
set_option maxRecDepth 20000 in
theorem e_X3_wither {l : Launch} {d : Nat} (hd : 5 ≤ d) (o : Nat) (s : ST) (r : ST) (hf : f_X3_wither o s = some r) : Cl l d mi_X3_wither [.ref o] (hp s) (none, hp r) := by
  refine Ev.entry (by decide +kernel) rfl rfl ?_
  show Ev l d mi_X3_wither 0 [some (.ref o), none] [] (hp s) 0 0 _
  unfold f_X3_wither at hf
  refine Ev.blk (pc' := 2) [(.iconst 0, 0, 0, 0), (.istore_n 1, 0, 0, 0)] (by decide +kernel) trivial rfl (And.intro (Nat.le_of_ble_eq_true rfl) (?_))
  show Ev l d mi_X3_wither 2 [some (.ref o), some (.int (Int32.ofInt 0))] [] (hp s) 0 0 _
  exact (e_X3_wither_L2 hd fuel) o (Int32.ofInt 0) s _ hf
def f_X3_passDay_j16 (x0 : Nat) (x2 : Int32) (s : ST) : Option (Int32 × ST) := (f_X3_turn x0 s).bind (fun q5 => gd (kk x0 3) (some (x2, q5)))
set_option maxHeartbeats 2000000 in
set_option maxRecDepth 20000 in
theorem e_X3_passDay_j16 {l : Launch} {d : Nat} (hd : 6 ≤ d) (x0 : Nat) (x2 : Int32) (s : ST) (r : Int32 × ST) (hf : f_X3_passDay_j16 x0 x2 s = some r) : Ev l d mi_X3_passDay 16 [some (.ref x0), none, some (.int x2)] [] (hp s) 0 0 (some (.int r.1), hp r.2) := by
  unfold f_X3_passDay_j16 at hf
  refine Ev.blk (pc' := 17) [(.aload_n 0, 0, 0, 0)] (by decide +kernel) trivial rfl (?_)
  show Ev l d mi_X3_passDay 17 [some (.ref x0), none, some (.int x2)] [.ref x0] (hp s) 0 0 _
  obtain ⟨q5, hq5, hf⟩ := bd_some hf
  obtain ⟨c6, hf⟩ := gd_some hf
  refine Ev.callV (o := x0) (M' := mi_X3_turn) (d' := d - 1) (As := []) (rest := []) (r' := (none, hp q5)) (e_X3_turn (d := d - 1) (by omega) x0 s _ hq5) (by omega) wm_X3_turn wi_X3_turn wv_X3_turn km_3_231 (kk_ok c6) (Nat.le_of_ble_eq_true rfl) rfl rfl rfl (Nat.le_of_ble_eq_true rfl) ⟨Nat.le_of_ble_eq_true rfl, Nat.le_of_ble_eq_true rfl⟩ (by decide +kernel) ?_
  show Ev l d mi_X3_passDay 20 [some (.ref x0), none, some (.int x2)] [] (hp q5) 0 0 _
  refine Ev.blk (pc' := 21) [(.iload_n 2, 0, 0, 0)] (by decide +kernel) trivial rfl (?_)
  show Ev l d mi_X3_passDay 21 [some (.ref x0), none, some (.int x2)] [.int x2] (hp q5) 0 0 _
  cases hf
  exact Ev.iret .int rfl rfl (by decide +kernel) (Nat.le_refl _) (Nat.le_refl _)
def f_X3_passDay (o : Nat) (p0 : Int32) (s : ST) : Option (Int32 × ST) := (if p0 < 0 then f_X3_passDay_j16 o (Int32.ofInt (-1)) s else (f_X3_strike o p0 s).bind (fun q2 => gd (kk o 3) ((f_X3_wither o q2.2).bind (fun q4 => f_X3_passDay_j16 o q2.1 q4))))
set_option maxHeartbeats 2000000 in
set_option maxRecDepth 20000 in
theorem e_X3_passDay {l : Launch} {d : Nat} (hd : 6 ≤ d) (o : Nat) (p0 : Int32) (s : ST) (r : Int32 × ST) (hf : f_X3_passDay o p0 s = some r) : Cl l d mi_X3_passDay [.ref o, .int p0] (hp s) (some (.int r.1), hp r.2) := by
  refine Ev.entry (by decide +kernel) rfl rfl ?_
  show Ev l d mi_X3_passDay 0 [some (.ref o), some (.int p0), none] [] (hp s) 0 0 _
  unfold f_X3_passDay at hf
  refine Ev.blk (pc' := 3) [(.iconst (-1), 0, 0, 0), (.istore_n 2, 0, 0, 0), (.iload_n 1, 0, 0, 0)] (by decide +kernel) trivial rfl (And.intro (Nat.le_of_ble_eq_true rfl) (?_))
  show Ev l d mi_X3_passDay 3 [some (.ref o), some (.int p0), some (.int (Int32.ofInt (-1)))] [.int p0] (hp s) 0 0 _
  refine Ev.if_lt (off := 13) (tgt := 16) (by decide +kernel) (by decide) (fun b1 => ?_) (fun b1 => ?_)
  · have hf := (if_pos b1).symm.trans hf
    exact Ev.wk ((e_X3_passDay_j16 hd) o (Int32.ofInt (-1)) s _ hf) (And.intro (Or.inr rfl) (And.intro (Or.inl rfl) (And.intro (Or.inr rfl) (trivial))))
  · have hf := (if_neg b1).symm.trans hf
    refine Ev.blk (pc' := 8) [(.aload_n 0, 0, 0, 0), (.iload_n 1, 0, 0, 0)] (by decide +kernel) trivial rfl (?_)
    show Ev l d mi_X3_passDay 8 [some (.ref o), some (.int p0), some (.int (Int32.ofInt (-1)))] [.int p0, .ref o] (hp s) 0 0 _
    obtain ⟨q2, hq2, hf⟩ := bd_some hf
    obtain ⟨c3, hf⟩ := gd_some hf
    refine Ev.callV (o := o) (M' := mi_X3_strike) (d' := d - 1) (As := [.int p0]) (rest := []) (r' := (some (.int q2.1), hp q2.2)) (e_X3_strike (d := d - 1) (by omega) o p0 s _ hq2) (by omega) wm_X3_strike wi_X3_strike wv_X3_strike km_3_225 (kk_ok c3) (Nat.le_of_ble_eq_true rfl) rfl rfl rfl (Nat.le_of_ble_eq_true rfl) ⟨Nat.le_of_ble_eq_true rfl, Nat.le_of_ble_eq_true rfl⟩ (by decide +kernel) ?_
    show Ev l d mi_X3_passDay 11 [some (.ref o), some (.int p0), some (.int (Int32.ofInt (-1)))] [.int q2.1] (hp q2.2) 0 0 _
    refine Ev.blk (pc' := 13) [(.istore_n 2, 0, 0, 0), (.aload_n 0, 0, 0, 0)] (by decide +kernel) trivial rfl (And.intro (Nat.le_of_ble_eq_true rfl) (?_))
    show Ev l d mi_X3_passDay 13 [some (.ref o), some (.int p0), some (.int q2.1)] [.ref o] (hp q2.2) 0 0 _
    obtain ⟨q4, hq4, hf⟩ := bd_some hf
    refine Ev.callV (o := o) (M' := mi_X3_wither) (d' := d - 1) (As := []) (rest := []) (r' := (none, hp q4)) (e_X3_wither (d := d - 1) (by omega) o q2.2 _ hq4) (by omega) wm_X3_wither wi_X3_wither wv_X3_wither km_3_228 (kk_ok c3) (Nat.le_of_ble_eq_true rfl) rfl rfl rfl (Nat.le_of_ble_eq_true rfl) ⟨Nat.le_of_ble_eq_true rfl, Nat.le_of_ble_eq_true rfl⟩ (by decide +kernel) ?_
    show Ev l d mi_X3_passDay 16 [some (.ref o), some (.int p0), some (.int q2.1)] [] (hp q4) 0 0 _
    exact Ev.wk ((e_X3_passDay_j16 hd) o q2.1 q4 _ hf) (And.intro (Or.inr rfl) (And.intro (Or.inl rfl) (And.intro (Or.inr rfl) (trivial))))
def f_X3_passDays_L2 : Nat → Nat → Int32 → Int32 → ST → Option (ST)
  | 0, _, _, _, _ => none
  | n + 1, x0, x1, x2, s => (if x1 ≤ x2 then some s else (f_X3_depth x0 s).bind (fun q2 => gd (kk x0 3) ((f_X3_bestMove x0 q2.1 q2.2).bind (fun q4 => (f_X3_passDay x0 q4.1 q4.2).bind (fun q5 => (f_X3_passDays_L2 n) x0 x1 (x2 + Int32.ofInt 1) q5.2)))))
set_option maxHeartbeats 2000000 in
set_option maxRecDepth 20000 in
theorem e_X3_passDays_L2 {l : Launch} {d : Nat} (hd : 25 ≤ d) : ∀ (n : Nat) (x0 : Nat) (x1 : Int32) (x2 : Int32) (s : ST) (r : ST), f_X3_passDays_L2 n x0 x1 x2 s = some r → Ev l d mi_X3_passDays 2 [some (.ref x0), some (.int x1), some (.int x2)] [] (hp s) 0 0 (none, hp r) := by
  intro n
  induction n with
  | zero =>
    intro x0 x1 x2 s r hf
    cases hf
  | succ n ih =>
    intro x0 x1 x2 s r hf
    unfold f_X3_passDays_L2 at hf
    refine Ev.blk (pc' := 4) [(.iload_n 2, 0, 0, 0), (.iload_n 1, 0, 0, 0)] (by decide +kernel) trivial rfl (?_)
    show Ev l d mi_X3_passDays 4 [some (.ref x0), some (.int x1), some (.int x2)] [.int x1, .int x2] (hp s) 0 0 _
    refine Ev.icmp_ge (off := 22) (tgt := 26) (by decide +kernel) (by decide) (fun b1 => ?_) (fun b1 => ?_)
    · have hf := (if_pos b1).symm.trans hf
      cases hf
      exact Ev.vret rfl (by decide +kernel) (Nat.le_refl _) (Nat.le_refl _)
    · have hf := (if_neg b1).symm.trans hf
      refine Ev.blk (pc' := 10) [(.aload_n 0, 0, 0, 0), (.aload_n 0, 0, 0, 0), (.aload_n 0, 0, 0, 0)] (by decide +kernel) trivial rfl (?_)
      show Ev l d mi_X3_passDays 10 [some (.ref x0), some (.int x1), some (.int x2)] [.ref x0, .ref x0, .ref x0] (hp s) 0 0 _
      obtain ⟨q2, hq2, hf⟩ := bd_some hf
      obtain ⟨c3, hf⟩ := gd_some hf
      refine Ev.callV (o := x0) (M' := mi_X3_depth) (d' := d - 1) (As := []) (rest := [.ref x0, .ref x0]) (r' := (some (.int q2.1), hp q2.2)) (e_X3_depth (d := d - 1) (by omega) x0 s _ hq2) (by omega) wm_X3_depth wi_X3_depth wv_X3_depth km_3_216 (kk_ok c3) (Nat.le_of_ble_eq_true rfl) rfl rfl rfl (Nat.le_of_ble_eq_true rfl) ⟨Nat.le_of_ble_eq_true rfl, Nat.le_of_ble_eq_true rfl⟩ (by decide +kernel) ?_
      show Ev l d mi_X3_passDays 13 [some (.ref x0), some (.int x1), some (.int x2)] [.int q2.1, .ref x0, .ref x0] (hp q2.2) 0 0 _
      obtain ⟨q4, hq4, hf⟩ := bd_some hf
      refine Ev.callV (o := x0) (M' := mi_X3_bestMove) (d' := d - 1) (As := [.int q2.1]) (rest := [.ref x0]) (r' := (some (.int q4.1), hp q4.2)) (e_X3_bestMove (d := d - 1) (by omega) x0 q2.1 q2.2 _ hq4) (by omega) wm_X3_bestMove wi_X3_bestMove wv_X3_bestMove km_3_219 (kk_ok c3) (Nat.le_of_ble_eq_true rfl) rfl rfl rfl (Nat.le_of_ble_eq_true rfl) ⟨Nat.le_of_ble_eq_true rfl, Nat.le_of_ble_eq_true rfl⟩ (by decide +kernel) ?_
      show Ev l d mi_X3_passDays 16 [some (.ref x0), some (.int x1), some (.int x2)] [.int q4.1, .ref x0] (hp q4.2) 0 0 _
      obtain ⟨q5, hq5, hf⟩ := bd_some hf
      refine Ev.callV (o := x0) (M' := mi_X3_passDay) (d' := d - 1) (As := [.int q4.1]) (rest := []) (r' := (some (.int q5.1), hp q5.2)) (e_X3_passDay (d := d - 1) (by omega) x0 q4.1 q4.2 _ hq5) (by omega) wm_X3_passDay wi_X3_passDay wv_X3_passDay km_3_222 (kk_ok c3) (Nat.le_of_ble_eq_true rfl) rfl rfl rfl (Nat.le_of_ble_eq_true rfl) ⟨Nat.le_of_ble_eq_true rfl, Nat.le_of_ble_eq_true rfl⟩ (by decide +kernel) ?_
      show Ev l d mi_X3_passDays 19 [some (.ref x0), some (.int x1), some (.int x2)] [.int q5.1] (hp q5.2) 0 0 _
      refine Ev.blk (pc' := 23) [(.pop, 0, 0, 0), (.iinc 2 1, 0, 0, 0)] (by decide +kernel) trivial rfl (And.intro rfl (And.intro (Nat.le_of_ble_eq_true rfl) (?_)))
      show Ev l d mi_X3_passDays 23 [some (.ref x0), some (.int x1), some (.int (x2 + Int32.ofInt 1))] [] (hp q5.2) 0 0 _
      refine Ev.goto (off := -21) (tgt := 2) (by decide +kernel) (by decide) ?_
      exact ih x0 x1 (x2 + Int32.ofInt 1) q5.2 _ hf
def f_X3_passDays (o : Nat) (p0 : Int32) (s : ST) : Option (ST) := (f_X3_passDays_L2 fuel) o p0 (Int32.ofInt 0) s
set_option maxHeartbeats 2000000 in
set_option maxRecDepth 20000 in
theorem e_X3_passDays {l : Launch} {d : Nat} (hd : 25 ≤ d) (o : Nat) (p0 : Int32) (s : ST) (r : ST) (hf : f_X3_passDays o p0 s = some r) : Cl l d mi_X3_passDays [.ref o, .int p0] (hp s) (none, hp r) := by
  refine Ev.entry (by decide +kernel) rfl rfl ?_
  show Ev l d mi_X3_passDays 0 [some (.ref o), some (.int p0), none] [] (hp s) 0 0 _
  unfold f_X3_passDays at hf
  refine Ev.blk (pc' := 2) [(.iconst 0, 0, 0, 0), (.istore_n 2, 0, 0, 0)] (by decide +kernel) trivial rfl (And.intro (Nat.le_of_ble_eq_true rfl) (?_))
  show Ev l d mi_X3_passDays 2 [some (.ref o), some (.int p0), some (.int (Int32.ofInt 0))] [] (hp s) 0 0 _
  exact (e_X3_passDays_L2 hd fuel) o p0 (Int32.ofInt 0) s _ hf
def f_X3_answerOf_j176 (k118 : Nat → Nat → Int32 → Int32 → ST → Option (Int32 × ST)) (x0 : Nat) (x1 : Nat) (x3 : Int32) (x6 : Int32) (y0 : Nat) (y1 : Int32) (y2 : Int32) (s : ST) : Option (Int32 × ST) := gd (kk y0 13) (gd (ib y1 (K0 y0).2) (lt (uI s y0 y1.toNatClampNeg y2) (fun s64 => k118 x0 x1 x3 (x6 + Int32.ofInt 1) s64)))
set_option maxHeartbeats 2000000 in
set_option maxRecDepth 20000 in
theorem e_X3_answerOf_j176 {l : Launch} {d : Nat} (hd : 4 ≤ d) (k118 : Nat → Nat → Int32 → Int32 → ST → Option (Int32 × ST)) (hk118 : ∀ (x0 : Nat) (x1 : Nat) (x3 : Int32) (x6 : Int32) (s : ST) (r : Int32 × ST), k118 x0 x1 x3 x6 s = some r → Ev l d mi_X3_answerOf 118 [some (.ref x0), some (.ref x1), none, some (.int x3), none, none, some (.int x6), none] [] (hp s) 0 0 (some (.int r.1), hp r.2)) (x0 : Nat) (x1 : Nat) (x3 : Int32) (x6 : Int32) (y0 : Nat) (y1 : Int32) (y2 : Int32) (s : ST) (r : Int32 × ST) (hf : f_X3_answerOf_j176 k118 x0 x1 x3 x6 y0 y1 y2 s = some r) : Ev l d mi_X3_answerOf 176 [some (.ref x0), some (.ref x1), none, some (.int x3), none, none, some (.int x6), none] [.int y2, .int y1, .ref y0] (hp s) 0 0 (some (.int r.1), hp r.2) := by
  unfold f_X3_answerOf_j176 at hf
  obtain ⟨c62, hf⟩ := gd_some hf
  obtain ⟨c63, hf⟩ := gd_some hf
  obtain ⟨s64, hs64, hf⟩ := lt_some hf
  refine Ev.blk (pc' := 180) [(.iastore, 0, 0, 0), (.iinc 6 1, 0, 0, 0)] (by decide +kernel) trivial rfl (And.intro (kk_ok c62) (And.intro (ib_ok c63) (And.intro (Nat.le_of_ble_eq_true rfl) (?_))))
  show Ev l d mi_X3_answerOf 180 [some (.ref x0), some (.ref x1), none, some (.int x3), none, none, some (.int (x6 + Int32.ofInt 1)), none] [] (hp (uI s y0 y1.toNatClampNeg y2)) 0 0 _
  rw [← hs64]
  refine Ev.goto (off := -62) (tgt := 118) (by decide +kernel) (by decide) ?_
  exact hk118 x0 x1 x3 (x6 + Int32.ofInt 1) s64 _ hf
def f_X3_answerOf_j142 (k118 : Nat → Nat → Int32 → Int32 → ST → Option (Int32 × ST)) (x0 : Nat) (x1 : Nat) (x3 : Int32) (x6 : Int32) (y0 : Int32) (s : ST) : Option (Int32 × ST) := gd (kk x0 3) ((RR s.2.2 x0 10).bind (fun a48 => gd (kk a48 6) ((RR s.2.2 a48 1).bind (fun a50 => (if y0 = 0 then (f_X3_answerOf_j176 k118) x0 x1 x3 x6 a50 x6 (Int32.ofInt 0) s else (RR s.2.2 x0 0).bind (fun a52 => gd (kk a52 4) ((RR s.2.2 a52 13).bind (fun a54 => gd (kk a54 13) (gd (ib x6 (K0 a54).2) ((f_X9_farness x3 (s.1 a54 x6.toNatClampNeg) s).bind (fun q57 => (f_X3_answerOf_j176 k118) x0 x1 x3 x6 a50 x6 q57.1 q57.2)))))))))))
set_option maxHeartbeats 2000000 in
set_option maxRecDepth 20000 in
theorem e_X3_answerOf_j142 {l : Launch} {d : Nat} (hd : 4 ≤ d) (k118 : Nat → Nat → Int32 → Int32 → ST → Option (Int32 × ST)) (hk118 : ∀ (x0 : Nat) (x1 : Nat) (x3 : Int32) (x6 : Int32) (s : ST) (r : Int32 × ST), k118 x0 x1 x3 x6 s = some r → Ev l d mi_X3_answerOf 118 [some (.ref x0), some (.ref x1), none, some (.int x3), none, none, some (.int x6), none] [] (hp s) 0 0 (some (.int r.1), hp r.2)) (x0 : Nat) (x1 : Nat) (x3 : Int32) (x6 : Int32) (y0 : Int32) (s : ST) (r : Int32 × ST) (hf : f_X3_answerOf_j142 k118 x0 x1 x3 x6 y0 s = some r) : Ev l d mi_X3_answerOf 142 [some (.ref x0), some (.ref x1), none, some (.int x3), none, none, some (.int x6), none] [.int y0] (hp s) 0 0 (some (.int r.1), hp r.2) := by
  unfold f_X3_answerOf_j142 at hf
  obtain ⟨c47, hf⟩ := gd_some hf
  obtain ⟨a48, ha48, hf⟩ := bd_some hf
  obtain ⟨c49, hf⟩ := gd_some hf
  obtain ⟨a50, ha50, hf⟩ := bd_some hf
  refine Ev.blk (pc' := 155) [(.istore 7, 0, 0, 0), (.aload_n 0, 0, 0, 0), (.getfield 43, 0, 3, 10), (.getfield 263, 0, 6, 1), (.iload 6, 0, 0, 0), (.iload 7, 0, 0, 0)] (by decide +kernel) ⟨kf_3_43, ⟨kf_3_263, trivial⟩⟩ rfl (And.intro (Nat.le_of_ble_eq_true rfl) (And.intro (kk_ok c47) (Exists.intro a48 (And.intro ha48 (And.intro (kk_ok c49) (Exists.intro a50 (And.intro ha50 (?_))))))))
  show Ev l d mi_X3_answerOf 155 [some (.ref x0), some (.ref x1), none, some (.int x3), none, none, some (.int x6), some (.int y0)] [.int y0, .int x6, .ref a50] (hp s) 0 0 _
  refine Ev.if_eq (off := 20) (tgt := 175) (by decide +kernel) (by decide) (fun b51 => ?_) (fun b51 => ?_)
  · have hf := (if_pos b51).symm.trans hf
    refine Ev.blk (pc' := 176) [(.iconst 0, 0, 0, 0)] (by decide +kernel) trivial rfl (?_)
    show Ev l d mi_X3_answerOf 176 [some (.ref x0), some (.ref x1), none, some (.int x3), none, none, some (.int x6), some (.int y0)] [.int (Int32.ofInt 0), .int x6, .ref a50] (hp s) 0 0 _
    exact Ev.wk ((e_X3_answerOf_j176 hd k118 hk118) x0 x1 x3 x6 a50 x6 (Int32.ofInt 0) s _ hf) (And.intro (Or.inr rfl) (And.intro (Or.inr rfl) (And.intro (Or.inr rfl) (And.intro (Or.inr rfl) (And.intro (Or.inr rfl) (And.intro (Or.inr rfl) (And.intro (Or.inr rfl) (And.intro (Or.inl rfl) (trivial)))))))))
  · have hf := (if_neg b51).symm.trans hf
    obtain ⟨a52, ha52, hf⟩ := bd_some hf
    obtain ⟨c53, hf⟩ := gd_some hf
    obtain ⟨a54, ha54, hf⟩ := bd_some hf
    obtain ⟨c55, hf⟩ := gd_some hf
    obtain ⟨c56, hf⟩ := gd_some hf
    refine Ev.blk (pc' := 169) [(.iload_n 3, 0, 0, 0), (.aload_n 0, 0, 0, 0), (.getfield 56, 0, 3, 0), (.getfield 251, 0, 4, 13), (.iload 6, 0, 0, 0), (.iaload, 0, 0, 0)] (by decide +kernel) ⟨kf_3_56, ⟨kf_3_251, trivial⟩⟩ rfl (And.intro (kk_ok c47) (Exists.intro a52 (And.intro ha52 (And.intro (kk_ok c53) (Exists.intro a54 (And.intro ha54 (And.intro (kk_ok c55) (And.intro (ib_ok c56) (?_)))))))))
    show Ev l d mi_X3_answerOf 169 [some (.ref x0), some (.ref x1), none, some (.int x3), none, none, some (.int x6), some (.int y0)] [.int (s.1 a54 x6.toNatClampNeg), .int x3, .int x6, .ref a50] (hp s) 0 0 _
    obtain ⟨q57, hq57, hf⟩ := bd_some hf
    refine Ev.callSN (M' := mi_X9_farness) (d' := d - 1) (As := [.int x3, .int (s.1 a54 x6.toNatClampNeg)]) (rest := [.int x6, .ref a50]) (r' := (some (.int q57.1), hp q57.2)) (e_X9_farness (d := d - 1) (by omega) x3 (s.1 a54 x6.toNatClampNeg) s _ hq57) (by omega) wm_X9_farness wt_X9_farness kn_3_240 rfl rfl rfl (Nat.le_of_ble_eq_true rfl) ⟨Nat.le_of_ble_eq_true rfl, Nat.le_of_ble_eq_true rfl⟩ (by decide +kernel) ?_
    show Ev l d mi_X3_answerOf 172 [some (.ref x0), some (.ref x1), none, some (.int x3), none, none, some (.int x6), some (.int y0)] [.int q57.1, .int x6, .ref a50] (hp q57.2) 0 0 _
    refine Ev.goto (off := 4) (tgt := 176) (by decide +kernel) (by decide) ?_
    exact Ev.wk ((e_X3_answerOf_j176 hd k118 hk118) x0 x1 x3 x6 a50 x6 q57.1 q57.2 _ hf) (And.intro (Or.inr rfl) (And.intro (Or.inr rfl) (And.intro (Or.inr rfl) (And.intro (Or.inr rfl) (And.intro (Or.inr rfl) (And.intro (Or.inr rfl) (And.intro (Or.inr rfl) (And.intro (Or.inl rfl) (trivial)))))))))
def f_X3_answerOf_L118 (k183 : Nat → Nat → ST → Option (Int32 × ST)) : Nat → Nat → Nat → Int32 → Int32 → ST → Option (Int32 × ST)
  | 0, _, _, _, _, _ => none
  | n + 1, x0, x1, x3, x6, s => (if ((Int8.ofInt 6).toInt32) ≤ x6 then k183 x0 x1 s else gd (kk x0 3) ((RR s.2.2 x0 0).bind (fun a44 => gd (kk a44 4) ((if (s.1 a44 12) ≤ x6 then (f_X3_answerOf_j142 (f_X3_answerOf_L118 k183 n)) x0 x1 x3 x6 (Int32.ofInt 0) s else (f_X3_answerOf_j142 (f_X3_answerOf_L118 k183 n)) x0 x1 x3 x6 (Int32.ofInt 1) s)))))
set_option maxHeartbeats 2000000 in
set_option maxRecDepth 20000 in
theorem e_X3_answerOf_L118 {l : Launch} {d : Nat} (hd : 4 ≤ d) (k183 : Nat → Nat → ST → Option (Int32 × ST)) (hk183 : ∀ (x0 : Nat) (x1 : Nat) (s : ST) (r : Int32 × ST), k183 x0 x1 s = some r → Ev l d mi_X3_answerOf 183 [some (.ref x0), some (.ref x1), none, none, none, none, none, none] [] (hp s) 0 0 (some (.int r.1), hp r.2)) : ∀ (n : Nat) (x0 : Nat) (x1 : Nat) (x3 : Int32) (x6 : Int32) (s : ST) (r : Int32 × ST), f_X3_answerOf_L118 k183 n x0 x1 x3 x6 s = some r → Ev l d mi_X3_answerOf 118 [some (.ref x0), some (.ref x1), none, some (.int x3), none, none, some (.int x6), none] [] (hp s) 0 0 (some (.int r.1), hp r.2) := by
  intro n
  induction n with
  | zero =>
    intro x0 x1 x3 x6 s r hf
    cases hf
  | succ n ih =>
    intro x0 x1 x3 x6 s r hf
    unfold f_X3_answerOf_L118 at hf
    refine Ev.blk (pc' := 122) [(.iload 6, 0, 0, 0), (.bipush 6, 0, 0, 0)] (by decide +kernel) trivial rfl (?_)
    show Ev l d mi_X3_answerOf 122 [some (.ref x0), some (.ref x1), none, some (.int x3), none, none, some (.int x6), none] [.int ((Int8.ofInt 6).toInt32), .int x6] (hp s) 0 0 _
    refine Ev.icmp_ge (off := 61) (tgt := 183) (by decide +kernel) (by decide) (fun b42 => ?_) (fun b42 => ?_)
    · have hf := (if_pos b42).symm.trans hf
      exact Ev.wk (hk183 x0 x1 s _ hf) (And.intro (Or.inr rfl) (And.intro (Or.inr rfl) (And.intro (Or.inr rfl) (And.intro (Or.inl rfl) (And.intro (Or.inr rfl) (And.intro (Or.inr rfl) (And.intro (Or.inl rfl) (And.intro (Or.inr rfl) (trivial)))))))))
    · have hf := (if_neg b42).symm.trans hf
      obtain ⟨c43, hf⟩ := gd_some hf
      obtain ⟨a44, ha44, hf⟩ := bd_some hf
      obtain ⟨c45, hf⟩ := gd_some hf
      refine Ev.blk (pc' := 134) [(.iload 6, 0, 0, 0), (.aload_n 0, 0, 0, 0), (.getfield 56, 0, 3, 0), (.getfield 72, 0, 4, 12)] (by decide +kernel) ⟨kf_3_56, ⟨kf_3_72, trivial⟩⟩ rfl (And.intro (kk_ok c43) (Exists.intro a44 (And.intro ha44 (And.intro (kk_ok c45) (?_)))))
      show Ev l d mi_X3_answerOf 134 [some (.ref x0), some (.ref x1), none, some (.int x3), none, none, some (.int x6), none] [.int (s.1 a44 12), .int x6] (hp s) 0 0 _
      refine Ev.icmp_ge (off := 7) (tgt := 141) (by decide +kernel) (by decide) (fun b46 => ?_) (fun b46 => ?_)
      · have hf := (if_pos b46).symm.trans hf
        refine Ev.blk (pc' := 142) [(.iconst 0, 0, 0, 0)] (by decide +kernel) trivial rfl (?_)
        show Ev l d mi_X3_answerOf 142 [some (.ref x0), some (.ref x1), none, some (.int x3), none, none, some (.int x6), none] [.int (Int32.ofInt 0)] (hp s) 0 0 _
        exact (e_X3_answerOf_j142 hd (f_X3_answerOf_L118 k183 n) ih) x0 x1 x3 x6 (Int32.ofInt 0) s _ hf
      · have hf := (if_neg b46).symm.trans hf
        refine Ev.blk (pc' := 138) [(.iconst 1, 0, 0, 0)] (by decide +kernel) trivial rfl (?_)
        show Ev l d mi_X3_answerOf 138 [some (.ref x0), some (.ref x1), none, some (.int x3), none, none, some (.int x6), none] [.int (Int32.ofInt 1)] (hp s) 0 0 _
        refine Ev.goto (off := 4) (tgt := 142) (by decide +kernel) (by decide) ?_
        exact (e_X3_answerOf_j142 hd (f_X3_answerOf_L118 k183 n) ih) x0 x1 x3 x6 (Int32.ofInt 1) s _ hf
def f_X3_answerOf_j183 (x0 : Nat) (x1 : Nat) (s : ST) : Option (Int32 × ST) := gd (kk x0 3) ((RR s.2.2 x0 10).bind (fun a59 => (f_X6_reckon a59 x1 s).bind (fun q60 => gd (kk a59 6) (some (q60.1, q60.2)))))
set_option maxHeartbeats 2000000 in
set_option maxRecDepth 20000 in
theorem e_X3_answerOf_j183 {l : Launch} {d : Nat} (hd : 4 ≤ d) (x0 : Nat) (x1 : Nat) (s : ST) (r : Int32 × ST) (hf : f_X3_answerOf_j183 x0 x1 s = some r) : Ev l d mi_X3_answerOf 183 [some (.ref x0), some (.ref x1), none, none, none, none, none, none] [] (hp s) 0 0 (some (.int r.1), hp r.2) := by
  unfold f_X3_answerOf_j183 at hf
  obtain ⟨c58, hf⟩ := gd_some hf
  obtain ⟨a59, ha59, hf⟩ := bd_some hf
  refine Ev.blk (pc' := 188) [(.aload_n 0, 0, 0, 0), (.getfield 43, 0, 3, 10), (.aload_n 1, 0, 0, 0)] (by decide +kernel) ⟨kf_3_43, trivial⟩ rfl (And.intro (kk_ok c58) (Exists.intro a59 (And.intro ha59 (?_))))
  show Ev l d mi_X3_answerOf 188 [some (.ref x0), some (.ref x1), none, none, none, none, none, none] [.ref x1, .ref a59] (hp s) 0 0 _
  obtain ⟨q60, hq60, hf⟩ := bd_some hf
  obtain ⟨c61, hf⟩ := gd_some hf
  refine Ev.callV (o := a59) (M' := mi_X6_reckon) (d' := d - 1) (As := [.ref x1]) (rest := []) (r' := (some (.int q60.1), hp q60.2)) (e_X6_reckon (d := d - 1) (by omega) a59 x1 s _ hq60) (by omega) wm_X6_reckon wi_X6_reckon wv_X6_reckon km_3_247 (kk_ok c61) (Nat.le_of_ble_eq_true rfl) rfl rfl rfl (Nat.le_of_ble_eq_true rfl) ⟨Nat.le_of_ble_eq_true rfl, Nat.le_of_ble_eq_true rfl⟩ (by decide +kernel) ?_
  show Ev l d mi_X3_answerOf 191 [some (.ref x0), some (.ref x1), none, none, none, none, none, none] [.int q60.1] (hp q60.2) 0 0 _
  cases hf
  exact Ev.iret .int rfl rfl (by decide +kernel) (Nat.le_refl _) (Nat.le_refl _)
def f_X3_answerOf (o : Nat) (p0 : Nat) (p1 : Int32) (s : ST) : Option (Int32 × ST) := gd (kk o 3) ((RR s.2.2 o 4).bind (fun a2 => gd (kk a2 13) (gd (ib p1 (K0 a2).2) ((RR s.2.2 o 0).bind (fun a5 => gd (kk a5 4) ((RR s.2.2 a5 9).bind (fun a7 => gd (kk a7 13) (gd (ib p1 (K0 a7).2) ((RR s.2.2 o 10).bind (fun a10 => gd (kk a10 6) ((RR s.2.2 a10 0).bind (fun a12 => gd (kk a12 13) (gd (ib ((Int8.ofInt 22).toInt32) (K0 a12).2) (gd (ib ((Int8.ofInt 23).toInt32) (K0 a12).2) (lt (uI (uI s a12 ((Int8.ofInt 22).toInt32).toNatClampNeg p1) a12 ((Int8.ofInt 23).toInt32).toNatClampNeg ((s.1 a2 p1.toNatClampNeg) - (s.1 a2 p1.toNatClampNeg) / (Int32.ofInt 5) * (Int32.ofInt 5))) (fun s16 => gd (ib ((Int8.ofInt 24).toInt32) (K0 a12).2) ((RR (uI s16 a12 ((Int8.ofInt 24).toInt32).toNatClampNeg ((s.1 a2 p1.toNatClampNeg) / (Int32.ofInt 5))).2.2 o 0).bind (fun a18 => gd (kk a18 4) ((RR (uI s16 a12 ((Int8.ofInt 24).toInt32).toNatClampNeg ((s.1 a2 p1.toNatClampNeg) / (Int32.ofInt 5))).2.2 a18 10).bind (fun a20 => gd (kk a20 13) (gd (ib p1 (K0 a20).2) (gd (ib ((Int8.ofInt 25).toInt32) (K0 a12).2) ((RR (uI (uI s16 a12 ((Int8.ofInt 24).toInt32).toNatClampNeg ((s.1 a2 p1.toNatClampNeg) / (Int32.ofInt 5))) a12 ((Int8.ofInt 25).toInt32).toNatClampNeg ((uI s16 a12 ((Int8.ofInt 24).toInt32).toNatClampNeg ((s.1 a2 p1.toNatClampNeg) / (Int32.ofInt 5))).1 a20 p1.toNatClampNeg)).2.2 o 0).bind (fun a24 => gd (kk a24 4) ((RR (uI (uI s16 a12 ((Int8.ofInt 24).toInt32).toNatClampNeg ((s.1 a2 p1.toNatClampNeg) / (Int32.ofInt 5))) a12 ((Int8.ofInt 25).toInt32).toNatClampNeg ((uI s16 a12 ((Int8.ofInt 24).toInt32).toNatClampNeg ((s.1 a2 p1.toNatClampNeg) / (Int32.ofInt 5))).1 a20 p1.toNatClampNeg)).2.2 a24 6).bind (fun a26 => gd (kk a26 13) (gd (ib (s.1 a7 p1.toNatClampNeg) (K0 a26).2) (gd (ib ((Int8.ofInt 7).toInt32) (K0 a12).2) ((RR (uI (uI (uI s16 a12 ((Int8.ofInt 24).toInt32).toNatClampNeg ((s.1 a2 p1.toNatClampNeg) / (Int32.ofInt 5))) a12 ((Int8.ofInt 25).toInt32).toNatClampNeg ((uI s16 a12 ((Int8.ofInt 24).toInt32).toNatClampNeg ((s.1 a2 p1.toNatClampNeg) / (Int32.ofInt 5))).1 a20 p1.toNatClampNeg)) a12 ((Int8.ofInt 7).toInt32).toNatClampNeg ((uI (uI s16 a12 ((Int8.ofInt 24).toInt32).toNatClampNeg ((s.1 a2 p1.toNatClampNeg) / (Int32.ofInt 5))) a12 ((Int8.ofInt 25).toInt32).toNatClampNeg ((uI s16 a12 ((Int8.ofInt 24).toInt32).toNatClampNeg ((s.1 a2 p1.toNatClampNeg) / (Int32.ofInt 5))).1 a20 p1.toNatClampNeg)).1 a26 (s.1 a7 p1.toNatClampNeg).toNatClampNeg)).2.2 o 0).bind (fun a30 => gd (kk a30 4) ((RR (uI (uI (uI s16 a12 ((Int8.ofInt 24).toInt32).toNatClampNeg ((s.1 a2 p1.toNatClampNeg) / (Int32.ofInt 5))) a12 ((Int8.ofInt 25).toInt32).toNatClampNeg ((uI s16 a12 ((Int8.ofInt 24).toInt32).toNatClampNeg ((s.1 a2 p1.toNatClampNeg) / (Int32.ofInt 5))).1 a20 p1.toNatClampNeg)) a12 ((Int8.ofInt 7).toInt32).toNatClampNeg ((uI (uI s16 a12 ((Int8.ofInt 24).toInt32).toNatClampNeg ((s.1 a2 p1.toNatClampNeg) / (Int32.ofInt 5))) a12 ((Int8.ofInt 25).toInt32).toNatClampNeg ((uI s16 a12 ((Int8.ofInt 24).toInt32).toNatClampNeg ((s.1 a2 p1.toNatClampNeg) / (Int32.ofInt 5))).1 a20 p1.toNatClampNeg)).1 a26 (s.1 a7 p1.toNatClampNeg).toNatClampNeg)).2.2 a30 5).bind (fun a32 => gd (kk a32 13) (gd (ib (s.1 a7 p1.toNatClampNeg) (K0 a32).2) (gd (ib ((Int8.ofInt 6).toInt32) (K0 a12).2) (lt (uI (uI (uI (uI s16 a12 ((Int8.ofInt 24).toInt32).toNatClampNeg ((s.1 a2 p1.toNatClampNeg) / (Int32.ofInt 5))) a12 ((Int8.ofInt 25).toInt32).toNatClampNeg ((uI s16 a12 ((Int8.ofInt 24).toInt32).toNatClampNeg ((s.1 a2 p1.toNatClampNeg) / (Int32.ofInt 5))).1 a20 p1.toNatClampNeg)) a12 ((Int8.ofInt 7).toInt32).toNatClampNeg ((uI (uI s16 a12 ((Int8.ofInt 24).toInt32).toNatClampNeg ((s.1 a2 p1.toNatClampNeg) / (Int32.ofInt 5))) a12 ((Int8.ofInt 25).toInt32).toNatClampNeg ((uI s16 a12 ((Int8.ofInt 24).toInt32).toNatClampNeg ((s.1 a2 p1.toNatClampNeg) / (Int32.ofInt 5))).1 a20 p1.toNatClampNeg)).1 a26 (s.1 a7 p1.toNatClampNeg).toNatClampNeg)) a12 ((Int8.ofInt 6).toInt32).toNatClampNeg ((uI (uI (uI s16 a12 ((Int8.ofInt 24).toInt32).toNatClampNeg ((s.1 a2 p1.toNatClampNeg) / (Int32.ofInt 5))) a12 ((Int8.ofInt 25).toInt32).toNatClampNeg ((uI s16 a12 ((Int8.ofInt 24).toInt32).toNatClampNeg ((s.1 a2 p1.toNatClampNeg) / (Int32.ofInt 5))).1 a20 p1.toNatClampNeg)) a12 ((Int8.ofInt 7).toInt32).toNatClampNeg ((uI (uI s16 a12 ((Int8.ofInt 24).toInt32).toNatClampNeg ((s.1 a2 p1.toNatClampNeg) / (Int32.ofInt 5))) a12 ((Int8.ofInt 25).toInt32).toNatClampNeg ((uI s16 a12 ((Int8.ofInt 24).toInt32).toNatClampNeg ((s.1 a2 p1.toNatClampNeg) / (Int32.ofInt 5))).1 a20 p1.toNatClampNeg)).1 a26 (s.1 a7 p1.toNatClampNeg).toNatClampNeg)).1 a32 (s.1 a7 p1.toNatClampNeg).toNatClampNeg)) (fun s36 => (f_X3_goals o p1 s36).bind (fun q37 => (f_J6_bitCount_0f7a4 q37.1 q37.2).bind (fun q38 => gd (ib ((Int8.ofInt 26).toInt32) (K0 a12).2) (gd (ib ((Int8.ofInt 21).toInt32) (K0 a12).2) (lt (uI (uI q38.2 a12 ((Int8.ofInt 26).toInt32).toNatClampNeg q38.1) a12 ((Int8.ofInt 21).toInt32).toNatClampNeg ((uI q38.2 a12 ((Int8.ofInt 26).toInt32).toNatClampNeg q38.1).1 o 1)) (fun s41 => (f_X3_answerOf_L118 f_X3_answerOf_j183 fuel) o p0 (s.1 a2 p1.toNatClampNeg) (Int32.ofInt 0) s41)))))))))))))))))))))))))))))))))))))))))
set_option maxHeartbeats 2000000 in
set_option maxRecDepth 20000 in
theorem e_X3_answerOf {l : Launch} {d : Nat} (hd : 4 ≤ d) (o : Nat) (p0 : Nat) (p1 : Int32) (s : ST) (r : Int32 × ST) (hf : f_X3_answerOf o p0 p1 s = some r) : Cl l d mi_X3_answerOf [.ref o, .ref p0, .int p1] (hp s) (some (.int r.1), hp r.2) := by
  refine Ev.entry (by decide +kernel) rfl rfl ?_
  show Ev l d mi_X3_answerOf 0 [some (.ref o), some (.ref p0), some (.int p1), none, none, none, none, none] [] (hp s) 0 0 _
  unfold f_X3_answerOf at hf
  obtain ⟨c1, hf⟩ := gd_some hf
  obtain ⟨a2, ha2, hf⟩ := bd_some hf
  obtain ⟨c3, hf⟩ := gd_some hf
  obtain ⟨c4, hf⟩ := gd_some hf
  obtain ⟨a5, ha5, hf⟩ := bd_some hf
  obtain ⟨c6, hf⟩ := gd_some hf
  obtain ⟨a7, ha7, hf⟩ := bd_some hf
  obtain ⟨c8, hf⟩ := gd_some hf
  obtain ⟨c9, hf⟩ := gd_some hf
  obtain ⟨a10, ha10, hf⟩ := bd_some hf
  obtain ⟨c11, hf⟩ := gd_some hf
  obtain ⟨a12, ha12, hf⟩ := bd_some hf
  obtain ⟨c13, hf⟩ := gd_some hf
  obtain ⟨c14, hf⟩ := gd_some hf
  obtain ⟨c15, hf⟩ := gd_some hf
  obtain ⟨s16, hs16, hf⟩ := lt_some hf
  refine Ev.blk (pc' := 48) [(.aload_n 0, 0, 0, 0), (.getfield 22, 0, 3, 4), (.iload_n 2, 0, 0, 0), (.iaload, 0, 0, 0), (.istore_n 3, 0, 0, 0), (.aload_n 0, 0, 0, 0), (.getfield 56, 0, 3, 0), (.getfield 112, 0, 4, 9), (.iload_n 2, 0, 0, 0), (.iaload, 0, 0, 0), (.istore 4, 0, 0, 0), (.aload_n 0, 0, 0, 0), (.getfield 43, 0, 3, 10), (.getfield 237, 0, 6, 0), (.astore 5, 0, 0, 0), (.aload 5, 0, 0, 0), (.bipush 22, 0, 0, 0), (.iload_n 2, 0, 0, 0), (.iastore, 0, 0, 0), (.aload 5, 0, 0, 0), (.bipush 23, 0, 0, 0), (.iload_n 3, 0, 0, 0), (.iconst 5, 0, 0, 0), (.irem, 0, 0, 0), (.iastore, 0, 0, 0), (.aload 5, 0, 0, 0), (.bipush 24, 0, 0, 0), (.iload_n 3, 0, 0, 0), (.iconst 5, 0, 0, 0), (.idiv, 0, 0, 0)] (by decide +kernel) ⟨kf_3_22, ⟨kf_3_56, ⟨kf_3_112, ⟨kf_3_43, ⟨kf_3_237, trivial⟩⟩⟩⟩⟩ rfl (And.intro (kk_ok c1) (Exists.intro a2 (And.intro ha2 (And.intro (kk_ok c3) (And.intro (ib_ok c4) (And.intro (Nat.le_of_ble_eq_true rfl) (And.intro (kk_ok c1) (Exists.intro a5 (And.intro ha5 (And.intro (kk_ok c6) (Exists.intro a7 (And.intro ha7 (And.intro (kk_ok c8) (And.intro (ib_ok c9) (And.intro (Nat.le_of_ble_eq_true rfl) (And.intro (kk_ok c1) (Exists.intro a10 (And.intro ha10 (And.intro (kk_ok c11) (Exists.intro a12 (And.intro ha12 (And.intro (Nat.le_of_ble_eq_true rfl) (And.intro (kk_ok c13) (And.intro (ib_ok c14) (And.intro (by decide) (And.intro (kk_ok c13) (And.intro (ib_ok c15) (And.intro (by decide) (?_)))))))))))))))))))))))))))))
  show Ev l d mi_X3_answerOf 48 [some (.ref o), some (.ref p0), some (.int p1), some (.int (s.1 a2 p1.toNatClampNeg)), some (.int (s.1 a7 p1.toNatClampNeg)), some (.ref a12), none, none] [.int ((s.1 a2 p1.toNatClampNeg) / (Int32.ofInt 5)), .int ((Int8.ofInt 24).toInt32), .ref a12] (hp (uI (uI s a12 ((Int8.ofInt 22).toInt32).toNatClampNeg p1) a12 ((Int8.ofInt 23).toInt32).toNatClampNeg ((s.1 a2 p1.toNatClampNeg) - (s.1 a2 p1.toNatClampNeg) / (Int32.ofInt 5) * (Int32.ofInt 5)))) 0 0 _
  rw [← hs16]
  obtain ⟨c17, hf⟩ := gd_some hf
  obtain ⟨a18, ha18, hf⟩ := bd_some hf
  obtain ⟨c19, hf⟩ := gd_some hf
  obtain ⟨a20, ha20, hf⟩ := bd_some hf
  obtain ⟨c21, hf⟩ := gd_some hf
  obtain ⟨c22, hf⟩ := gd_some hf
  obtain ⟨c23, hf⟩ := gd_some hf
  obtain ⟨a24, ha24, hf⟩ := bd_some hf
  obtain ⟨c25, hf⟩ := gd_some hf
  obtain ⟨a26, ha26, hf⟩ := bd_some hf
  obtain ⟨c27, hf⟩ := gd_some hf
  obtain ⟨c28, hf⟩ := gd_some hf
  obtain ⟨c29, hf⟩ := gd_some hf
  obtain ⟨a30, ha30, hf⟩ := bd_some hf
  obtain ⟨c31, hf⟩ := gd_some hf
  obtain ⟨a32, ha32, hf⟩ := bd_some hf
  obtain ⟨c33, hf⟩ := gd_some hf
  obtain ⟨c34, hf⟩ := gd_some hf
  obtain ⟨c35, hf⟩ := gd_some hf
  obtain ⟨s36, hs36, hf⟩ := lt_some hf
  refine Ev.blk (pc' := 99) [(.iastore, 0, 0, 0), (.aload 5, 0, 0, 0), (.bipush 25, 0, 0, 0), (.aload_n 0, 0, 0, 0), (.getfield 56, 0, 3, 0), (.getfield 106, 0, 4, 10), (.iload_n 2, 0, 0, 0), (.iaload, 0, 0, 0), (.iastore, 0, 0, 0), (.aload 5, 0, 0, 0), (.bipush 7, 0, 0, 0), (.aload_n 0, 0, 0, 0), (.getfield 56, 0, 3, 0), (.getfield 109, 0, 4, 6), (.iload 4, 0, 0, 0), (.iaload, 0, 0, 0), (.iastore, 0, 0, 0), (.aload 5, 0, 0, 0), (.bipush 6, 0, 0, 0), (.aload_n 0, 0, 0, 0), (.getfield 56, 0, 3, 0), (.getfield 118, 0, 4, 5), (.iload 4, 0, 0, 0), (.iaload, 0, 0, 0), (.iastore, 0, 0, 0), (.aload 5, 0, 0, 0), (.bipush 26, 0, 0, 0), (.aload_n 0, 0, 0, 0), (.iload_n 2, 0, 0, 0)] (by decide +kernel) ⟨kf_3_56, ⟨kf_3_106, ⟨kf_3_56, ⟨kf_3_109, ⟨kf_3_56, ⟨kf_3_118, trivial⟩⟩⟩⟩⟩⟩ rfl (And.intro (kk_ok c13) (And.intro (ib_ok c17) (And.intro (kk_ok c1) (Exists.intro a18 (And.intro ha18 (And.intro (kk_ok c19) (Exists.intro a20 (And.intro ha20 (And.intro (kk_ok c21) (And.intro (ib_ok c22) (And.intro (kk_ok c13) (And.intro (ib_ok c23) (And.intro (kk_ok c1) (Exists.intro a24 (And.intro ha24 (And.intro (kk_ok c25) (Exists.intro a26 (And.intro ha26 (And.intro (kk_ok c27) (And.intro (ib_ok c28) (And.intro (kk_ok c13) (And.intro (ib_ok c29) (And.intro (kk_ok c1) (Exists.intro a30 (And.intro ha30 (And.intro (kk_ok c31) (Exists.intro a32 (And.intro ha32 (And.intro (kk_ok c33) (And.intro (ib_ok c34) (And.intro (kk_ok c13) (And.intro (ib_ok c35) (?_)))))))))))))))))))))))))))))))))
  show Ev l d mi_X3_answerOf 99 [some (.ref o), some (.ref p0), some (.int p1), some (.int (s.1 a2 p1.toNatClampNeg)), some (.int (s.1 a7 p1.toNatClampNeg)), some (.ref a12), none, none] [.int p1, .ref o, .int ((Int8.ofInt 26).toInt32), .ref a12] (hp (uI (uI (uI (uI s16 a12 ((Int8.ofInt 24).toInt32).toNatClampNeg ((s.1 a2 p1.toNatClampNeg) / (Int32.ofInt 5))) a12 ((Int8.ofInt 25).toInt32).toNatClampNeg ((uI s16 a12 ((Int8.ofInt 24).toInt32).toNatClampNeg ((s.1 a2 p1.toNatClampNeg) / (Int32.ofInt 5))).1 a20 p1.toNatClampNeg)) a12 ((Int8.ofInt 7).toInt32).toNatClampNeg ((uI (uI s16 a12 ((Int8.ofInt 24).toInt32).toNatClampNeg ((s.1 a2 p1.toNatClampNeg) / (Int32.ofInt 5))) a12 ((Int8.ofInt 25).toInt32).toNatClampNeg ((uI s16 a12 ((Int8.ofInt 24).toInt32).toNatClampNeg ((s.1 a2 p1.toNatClampNeg) / (Int32.ofInt 5))).1 a20 p1.toNatClampNeg)).1 a26 (s.1 a7 p1.toNatClampNeg).toNatClampNeg)) a12 ((Int8.ofInt 6).toInt32).toNatClampNeg ((uI (uI (uI s16 a12 ((Int8.ofInt 24).toInt32).toNatClampNeg ((s.1 a2 p1.toNatClampNeg) / (Int32.ofInt 5))) a12 ((Int8.ofInt 25).toInt32).toNatClampNeg ((uI s16 a12 ((Int8.ofInt 24).toInt32).toNatClampNeg ((s.1 a2 p1.toNatClampNeg) / (Int32.ofInt 5))).1 a20 p1.toNatClampNeg)) a12 ((Int8.ofInt 7).toInt32).toNatClampNeg ((uI (uI s16 a12 ((Int8.ofInt 24).toInt32).toNatClampNeg ((s.1 a2 p1.toNatClampNeg) / (Int32.ofInt 5))) a12 ((Int8.ofInt 25).toInt32).toNatClampNeg ((uI s16 a12 ((Int8.ofInt 24).toInt32).toNatClampNeg ((s.1 a2 p1.toNatClampNeg) / (Int32.ofInt 5))).1 a20 p1.toNatClampNeg)).1 a26 (s.1 a7 p1.toNatClampNeg).toNatClampNeg)).1 a32 (s.1 a7 p1.toNatClampNeg).toNatClampNeg))) 0 0 _
  rw [← hs36]
  obtain ⟨q37, hq37, hf⟩ := bd_some hf
  refine Ev.callV (o := o) (M' := mi_X3_goals) (d' := d - 1) (As := [.int p1]) (rest := [.int ((Int8.ofInt 26).toInt32), .ref a12]) (r' := (some (.int q37.1), hp q37.2)) (e_X3_goals (d := d - 1) (by omega) o p1 s36 _ hq37) (by omega) wm_X3_goals wi_X3_goals wv_X3_goals km_3_143 (kk_ok c1) (Nat.le_of_ble_eq_true rfl) rfl rfl rfl (Nat.le_of_ble_eq_true rfl) ⟨Nat.le_of_ble_eq_true rfl, Nat.le_of_ble_eq_true rfl⟩ (by decide +kernel) ?_
  show Ev l d mi_X3_answerOf 102 [some (.ref o), some (.ref p0), some (.int p1), some (.int (s.1 a2 p1.toNatClampNeg)), some (.int (s.1 a7 p1.toNatClampNeg)), some (.ref a12), none, none] [.int q37.1, .int ((Int8.ofInt 26).toInt32), .ref a12] (hp q37.2) 0 0 _
  obtain ⟨q38, hq38, hf⟩ := bd_some hf
  refine Ev.callS (M' := mi_J6_bitCount_0f7a4) (d' := d - 1) (As := [.int q37.1]) (rest := [.int ((Int8.ofInt 26).toInt32), .ref a12]) (r' := (some (.int q38.1), hp q38.2)) (e_J6_bitCount_0f7a4 (d := d - 1) (by omega) q37.1 q37.2 _ hq38) (by omega) wm_J6_bitCount_0f7a4 wt_J6_bitCount_0f7a4 km_3_146 rfl rfl rfl (Nat.le_of_ble_eq_true rfl) ⟨Nat.le_of_ble_eq_true rfl, Nat.le_of_ble_eq_true rfl⟩ (by decide +kernel) ?_
  show Ev l d mi_X3_answerOf 105 [some (.ref o), some (.ref p0), some (.int p1), some (.int (s.1 a2 p1.toNatClampNeg)), some (.int (s.1 a7 p1.toNatClampNeg)), some (.ref a12), none, none] [.int q38.1, .int ((Int8.ofInt 26).toInt32), .ref a12] (hp q38.2) 0 0 _
  obtain ⟨c39, hf⟩ := gd_some hf
  obtain ⟨c40, hf⟩ := gd_some hf
  obtain ⟨s41, hs41, hf⟩ := lt_some hf
  refine Ev.blk (pc' := 118) [(.iastore, 0, 0, 0), (.aload 5, 0, 0, 0), (.bipush 21, 0, 0, 0), (.aload_n 0, 0, 0, 0), (.getfield 9, 0, 3, 1), (.iastore, 0, 0, 0), (.iconst 0, 0, 0, 0), (.istore 6, 0, 0, 0)] (by decide +kernel) ⟨kf_3_9, trivial⟩ rfl (And.intro (kk_ok c13) (And.intro (ib_ok c39) (And.intro (kk_ok c1) (And.intro (kk_ok c13) (And.intro (ib_ok c40) (And.intro (Nat.le_of_ble_eq_true rfl) (?_)))))))
  show Ev l d mi_X3_answerOf 118 [some (.ref o), some (.ref p0), some (.int p1), some (.int (s.1 a2 p1.toNatClampNeg)), some (.int (s.1 a7 p1.toNatClampNeg)), some (.ref a12), some (.int (Int32.ofInt 0)), none] [] (hp (uI (uI q38.2 a12 ((Int8.ofInt 26).toInt32).toNatClampNeg q38.1) a12 ((Int8.ofInt 21).toInt32).toNatClampNeg ((uI q38.2 a12 ((Int8.ofInt 26).toInt32).toNatClampNeg q38.1).1 o 1))) 0 0 _
  rw [← hs41]
  exact Ev.wk ((e_X3_answerOf_L118 hd f_X3_answerOf_j183 (e_X3_answerOf_j183 hd) fuel) o p0 (s.1 a2 p1.toNatClampNeg) (Int32.ofInt 0) s41 _ hf) (And.intro (Or.inr rfl) (And.intro (Or.inr rfl) (And.intro (Or.inl rfl) (And.intro (Or.inr rfl) (And.intro (Or.inl rfl) (And.intro (Or.inl rfl) (And.intro (Or.inr rfl) (And.intro (Or.inr rfl) (trivial)))))))))
def f_X4_empty (o : Nat) (s : ST) : Option (ST) := gd (kk o 4) ((RR (uI (uI (uI (uI (uI (uI (uI (uI s o 0 (Int32.ofInt 0)) o 1 (Int32.ofInt 0)) o 3 (Int32.ofInt 0)) o 8 (Int32.ofInt 0)) o 12 (Int32.ofInt 0)) o 17 (Int32.ofInt 0)) o 18 (Int32.ofInt 0)) o 19 (Int32.ofInt 0)).2.2 o 15).bind (fun a2 => lt (uI (uI (uI (uI (uI (uI (uI (uI s o 0 (Int32.ofInt 0)) o 1 (Int32.ofInt 0)) o 3 (Int32.ofInt 0)) o 8 (Int32.ofInt 0)) o 12 (Int32.ofInt 0)) o 17 (Int32.ofInt 0)) o 18 (Int32.ofInt 0)) o 19 (Int32.ofInt 0)) (fun s3 => (f_J7_fill_53178 a2 (Int32.ofInt 0) s3).bind (fun q4 => some q4))))
set_option maxHeartbeats 2000000 in
set_option maxRecDepth 20000 in
theorem e_X4_empty {l : Launch} {d : Nat} (hd : 2 ≤ d) (o : Nat) (s : ST) (r : ST) (hf : f_X4_empty o s = some r) : Cl l d mi_X4_empty [.ref o] (hp s) (none, hp r) := by
  refine Ev.entry (by decide +kernel) rfl rfl ?_
  show Ev l d mi_X4_empty 0 [some (.ref o)] [] (hp s) 0 0 _
  unfold f_X4_empty at hf
  obtain ⟨c1, hf⟩ := gd_some hf
  obtain ⟨a2, ha2, hf⟩ := bd_some hf
  obtain ⟨s3, hs3, hf⟩ := lt_some hf
  refine Ev.blk (pc' := 45) [(.aload_n 0, 0, 0, 0), (.iconst 0, 0, 0, 0), (.putfield 9, 0, 4, 0), (.aload_n 0, 0, 0, 0), (.iconst 0, 0, 0, 0), (.putfield 15, 0, 4, 1), (.aload_n 0, 0, 0, 0), (.iconst 0, 0, 0, 0), (.putfield 22, 0, 4, 3), (.aload_n 0, 0, 0, 0), (.iconst 0, 0, 0, 0), (.putfield 37, 0, 4, 8), (.aload_n 0, 0, 0, 0), (.iconst 0, 0, 0, 0), (.putfield 49, 0, 4, 12), (.aload_n 0, 0, 0, 0), (.iconst 0, 0, 0, 0), (.putfield 68, 0, 4, 17), (.aload_n 0, 0, 0, 0), (.iconst 0, 0, 0, 0), (.putfield 71, 0, 4, 18), (.aload_n 0, 0, 0, 0), (.iconst 0, 0, 0, 0), (.putfield 74, 0, 4, 19), (.aload_n 0, 0, 0, 0), (.getfield 58, 0, 4, 15), (.iconst 0, 0, 0, 0)] (by decide +kernel) ⟨⟨kf_4_9, Or.inl rfl⟩, ⟨⟨kf_4_15, Or.inl rfl⟩, ⟨⟨kf_4_22, Or.inl rfl⟩, ⟨⟨kf_4_37, Or.inl rfl⟩, ⟨⟨kf_4_49, Or.inl rfl⟩, ⟨⟨kf_4_68, Or.inl rfl⟩, ⟨⟨kf_4_71, Or.inl rfl⟩, ⟨⟨kf_4_74, Or.inl rfl⟩, ⟨kf_4_58, trivial⟩⟩⟩⟩⟩⟩⟩⟩⟩ rfl (And.intro (kk_ok c1) (And.intro (kk_ok c1) (And.intro (kk_ok c1) (And.intro (kk_ok c1) (And.intro (kk_ok c1) (And.intro (kk_ok c1) (And.intro (kk_ok c1) (And.intro (kk_ok c1) (And.intro (kk_ok c1) (Exists.intro a2 (And.intro ha2 (?_))))))))))))
  show Ev l d mi_X4_empty 45 [some (.ref o)] [.int (Int32.ofInt 0), .ref a2] (hp (uI (uI (uI (uI (uI (uI (uI (uI s o 0 (Int32.ofInt 0)) o 1 (Int32.ofInt 0)) o 3 (Int32.ofInt 0)) o 8 (Int32.ofInt 0)) o 12 (Int32.ofInt 0)) o 17 (Int32.ofInt 0)) o 18 (Int32.ofInt 0)) o 19 (Int32.ofInt 0))) 0 0 _
  rw [← hs3]
  obtain ⟨q4, hq4, hf⟩ := bd_some hf
  refine Ev.callS (M' := mi_J7_fill_53178) (d' := d - 1) (As := [.ref a2, .int (Int32.ofInt 0)]) (rest := []) (r' := (none, hp q4)) (e_J7_fill_53178 (d := d - 1) (by omega) a2 (Int32.ofInt 0) s3 _ hq4) (by omega) wm_J7_fill_53178 wt_J7_fill_53178 km_4_77 rfl rfl rfl (Nat.le_of_ble_eq_true rfl) ⟨Nat.le_of_ble_eq_true rfl, Nat.le_of_ble_eq_true rfl⟩ (by decide +kernel) ?_
  show Ev l d mi_X4_empty 48 [some (.ref o)] [] (hp q4) 0 0 _
  cases hf
  exact Ev.vret rfl (by decide +kernel) (Nat.le_refl _) (Nat.le_refl _)
def f_X4_isPlace (o : Nat) (p0 : Int32) (p1 : Int32) (s : ST) : Option (Int32 × ST) := (if p0 < 0 then some ((Int32.ofInt 0), s) else gd (kk o 4) ((if (s.1 o 0) ≤ p0 then some ((Int32.ofInt 0), s) else (if p1 < 0 then some ((Int32.ofInt 0), s) else (if (s.1 o 1) ≤ p1 then some ((Int32.ofInt 0), s) else some ((Int32.ofInt 1), s))))))
set_option maxHeartbeats 2000000 in
set_option maxRecDepth 20000 in
theorem e_X4_isPlace {l : Launch} {d : Nat} (hd : 1 ≤ d) (o : Nat) (p0 : Int32) (p1 : Int32) (s : ST) (r : Int32 × ST) (hf : f_X4_isPlace o p0 p1 s = some r) : Cl l d mi_X4_isPlace [.ref o, .int p0, .int p1] (hp s) (some (.int r.1), hp r.2) := by
  refine Ev.entry (by decide +kernel) rfl rfl ?_
  show Ev l d mi_X4_isPlace 0 [some (.ref o), some (.int p0), some (.int p1)] [] (hp s) 0 0 _
  unfold f_X4_isPlace at hf
  refine Ev.blk (pc' := 1) [(.iload_n 1, 0, 0, 0)] (by decide +kernel) trivial rfl (?_)
  show Ev l d mi_X4_isPlace 1 [some (.ref o), some (.int p0), some (.int p1)] [.int p0] (hp s) 0 0 _
  refine Ev.if_lt (off := 27) (tgt := 28) (by decide +kernel) (by decide) (fun b1 => ?_) (fun b1 => ?_)
  · have hf := (if_pos b1).symm.trans hf
    refine Ev.blk (pc' := 29) [(.iconst 0, 0, 0, 0)] (by decide +kernel) trivial rfl (?_)
    show Ev l d mi_X4_isPlace 29 [some (.ref o), some (.int p0), some (.int p1)] [.int (Int32.ofInt 0)] (hp s) 0 0 _
    cases hf
    exact Ev.iret .boolean rfl rfl (by decide +kernel) (Nat.le_refl _) (Nat.le_refl _)
  · have hf := (if_neg b1).symm.trans hf
    obtain ⟨c2, hf⟩ := gd_some hf
    refine Ev.blk (pc' := 9) [(.iload_n 1, 0, 0, 0), (.aload_n 0, 0, 0, 0), (.getfield 9, 0, 4, 0)] (by decide +kernel) ⟨kf_4_9, trivial⟩ rfl (And.intro (kk_ok c2) (?_))
    show Ev l d mi_X4_isPlace 9 [some (.ref o), some (.int p0), some (.int p1)] [.int (s.1 o 0), .int p0] (hp s) 0 0 _
    refine Ev.icmp_ge (off := 19) (tgt := 28) (by decide +kernel) (by decide) (fun b3 => ?_) (fun b3 => ?_)
    · have hf := (if_pos b3).symm.trans hf
      refine Ev.blk (pc' := 29) [(.iconst 0, 0, 0, 0)] (by decide +kernel) trivial rfl (?_)
      show Ev l d mi_X4_isPlace 29 [some (.ref o), some (.int p0), some (.int p1)] [.int (Int32.ofInt 0)] (hp s) 0 0 _
      cases hf
      exact Ev.iret .boolean rfl rfl (by decide +kernel) (Nat.le_refl _) (Nat.le_refl _)
    · have hf := (if_neg b3).symm.trans hf
      refine Ev.blk (pc' := 13) [(.iload_n 2, 0, 0, 0)] (by decide +kernel) trivial rfl (?_)
      show Ev l d mi_X4_isPlace 13 [some (.ref o), some (.int p0), some (.int p1)] [.int p1] (hp s) 0 0 _
      refine Ev.if_lt (off := 15) (tgt := 28) (by decide +kernel) (by decide) (fun b4 => ?_) (fun b4 => ?_)
      · have hf := (if_pos b4).symm.trans hf
        refine Ev.blk (pc' := 29) [(.iconst 0, 0, 0, 0)] (by decide +kernel) trivial rfl (?_)
        show Ev l d mi_X4_isPlace 29 [some (.ref o), some (.int p0), some (.int p1)] [.int (Int32.ofInt 0)] (hp s) 0 0 _
        cases hf
        exact Ev.iret .boolean rfl rfl (by decide +kernel) (Nat.le_refl _) (Nat.le_refl _)
      · have hf := (if_neg b4).symm.trans hf
        refine Ev.blk (pc' := 21) [(.iload_n 2, 0, 0, 0), (.aload_n 0, 0, 0, 0), (.getfield 15, 0, 4, 1)] (by decide +kernel) ⟨kf_4_15, trivial⟩ rfl (And.intro (kk_ok c2) (?_))
        show Ev l d mi_X4_isPlace 21 [some (.ref o), some (.int p0), some (.int p1)] [.int (s.1 o 1), .int p1] (hp s) 0 0 _
        refine Ev.icmp_ge (off := 7) (tgt := 28) (by decide +kernel) (by decide) (fun b5 => ?_) (fun b5 => ?_)
        · have hf := (if_pos b5).symm.trans hf
          refine Ev.blk (pc' := 29) [(.iconst 0, 0, 0, 0)] (by decide +kernel) trivial rfl (?_)
          show Ev l d mi_X4_isPlace 29 [some (.ref o), some (.int p0), some (.int p1)] [.int (Int32.ofInt 0)] (hp s) 0 0 _
          cases hf
          exact Ev.iret .boolean rfl rfl (by decide +kernel) (Nat.le_refl _) (Nat.le_refl _)
        · have hf := (if_neg b5).symm.trans hf
          refine Ev.blk (pc' := 25) [(.iconst 1, 0, 0, 0)] (by decide +kernel) trivial rfl (?_)
          show Ev l d mi_X4_isPlace 25 [some (.ref o), some (.int p0), some (.int p1)] [.int (Int32.ofInt 1)] (hp s) 0 0 _
          refine Ev.goto (off := 4) (tgt := 29) (by decide +kernel) (by decide) ?_
          cases hf
          exact Ev.iret .boolean rfl rfl (by decide +kernel) (Nat.le_refl _) (Nat.le_refl _)
def f_X4_isHeld_L2 : Nat → Nat → Int32 → Int32 → ST → Option (Int32 × ST)
  | 0, _, _, _, _ => none
  | n + 1, x0, x1, x2, s => gd (kk x0 4) ((if (s.1 x0 8) ≤ x2 then some ((Int32.ofInt 0), s) else (if ((Int8.ofInt 8).toInt32) ≤ x2 then some ((Int32.ofInt 0), s) else (RR s.2.2 x0 11).bind (fun a4 => gd (kk a4 13) (gd (ib x2 (K0 a4).2) ((if (s.1 a4 x2.toNatClampNeg) = x1 then some ((Int32.ofInt 1), s) else (f_X4_isHeld_L2 n) x0 x1 (x2 + Int32.ofInt 1) s)))))))
set_option maxHeartbeats 2000000 in
set_option maxRecDepth 20000 in
theorem e_X4_isHeld_L2 {l : Launch} {d : Nat} (hd : 1 ≤ d) : ∀ (n : Nat) (x0 : Nat) (x1 : Int32) (x2 : Int32) (s : ST) (r : Int32 × ST), f_X4_isHeld_L2 n x0 x1 x2 s = some r → Ev l d mi_X4_isHeld 2 [some (.ref x0), some (.int x1), some (.int x2)] [] (hp s) 0 0 (some (.int r.1), hp r.2) := by
  intro n
  induction n with
  | zero =>
    intro x0 x1 x2 s r hf
    cases hf
  | succ n ih =>
    intro x0 x1 x2 s r hf
    unfold f_X4_isHeld_L2 at hf
    obtain ⟨c1, hf⟩ := gd_some hf
    refine Ev.blk (pc' := 7) [(.iload_n 2, 0, 0, 0), (.aload_n 0, 0, 0, 0), (.getfield 37, 0, 4, 8)] (by decide +kernel) ⟨kf_4_37, trivial⟩ rfl (And.intro (kk_ok c1) (?_))
    show Ev l d mi_X4_isHeld 7 [some (.ref x0), some (.int x1), some (.int x2)] [.int (s.1 x0 8), .int x2] (hp s) 0 0 _
    refine Ev.icmp_ge (off := 27) (tgt := 34) (by decide +kernel) (by decide) (fun b2 => ?_) (fun b2 => ?_)
    · have hf := (if_pos b2).symm.trans hf
      refine Ev.blk (pc' := 35) [(.iconst 0, 0, 0, 0)] (by decide +kernel) trivial rfl (?_)
      show Ev l d mi_X4_isHeld 35 [some (.ref x0), some (.int x1), some (.int x2)] [.int (Int32.ofInt 0)] (hp s) 0 0 _
      cases hf
      exact Ev.iret .boolean rfl rfl (by decide +kernel) (Nat.le_refl _) (Nat.le_refl _)
    · have hf := (if_neg b2).symm.trans hf
      refine Ev.blk (pc' := 13) [(.iload_n 2, 0, 0, 0), (.bipush 8, 0, 0, 0)] (by decide +kernel) trivial rfl (?_)
      show Ev l d mi_X4_isHeld 13 [some (.ref x0), some (.int x1), some (.int x2)] [.int ((Int8.ofInt 8).toInt32), .int x2] (hp s) 0 0 _
      refine Ev.icmp_ge (off := 21) (tgt := 34) (by decide +kernel) (by decide) (fun b3 => ?_) (fun b3 => ?_)
      · have hf := (if_pos b3).symm.trans hf
        refine Ev.blk (pc' := 35) [(.iconst 0, 0, 0, 0)] (by decide +kernel) trivial rfl (?_)
        show Ev l d mi_X4_isHeld 35 [some (.ref x0), some (.int x1), some (.int x2)] [.int (Int32.ofInt 0)] (hp s) 0 0 _
        cases hf
        exact Ev.iret .boolean rfl rfl (by decide +kernel) (Nat.le_refl _) (Nat.le_refl _)
      · have hf := (if_neg b3).symm.trans hf
        obtain ⟨a4, ha4, hf⟩ := bd_some hf
        obtain ⟨c5, hf⟩ := gd_some hf
        obtain ⟨c6, hf⟩ := gd_some hf
        refine Ev.blk (pc' := 23) [(.aload_n 0, 0, 0, 0), (.getfield 46, 0, 4, 11), (.iload_n 2, 0, 0, 0), (.iaload, 0, 0, 0), (.iload_n 1, 0, 0, 0)] (by decide +kernel) ⟨kf_4_46, trivial⟩ rfl (And.intro (kk_ok c1) (Exists.intro a4 (And.intro ha4 (And.intro (kk_ok c5) (And.intro (ib_ok c6) (?_))))))
        show Ev l d mi_X4_isHeld 23 [some (.ref x0), some (.int x1), some (.int x2)] [.int x1, .int (s.1 a4 x2.toNatClampNeg)] (hp s) 0 0 _
        refine Ev.icmp_ne (off := 5) (tgt := 28) (by decide +kernel) (by decide) (fun b7 => ?_) (fun b7 => ?_)
        · have hf := (if_neg b7).symm.trans hf
          refine Ev.blk (pc' := 31) [(.iinc 2 1, 0, 0, 0)] (by decide +kernel) trivial rfl (And.intro (Nat.le_of_ble_eq_true rfl) (?_))
          show Ev l d mi_X4_isHeld 31 [some (.ref x0), some (.int x1), some (.int (x2 + Int32.ofInt 1))] [] (hp s) 0 0 _
          refine Ev.goto (off := -29) (tgt := 2) (by decide +kernel) (by decide) ?_
          exact ih x0 x1 (x2 + Int32.ofInt 1) s _ hf
        · have hf := (if_pos b7).symm.trans hf
          refine Ev.blk (pc' := 27) [(.iconst 1, 0, 0, 0)] (by decide +kernel) trivial rfl (?_)
          show Ev l d mi_X4_isHeld 27 [some (.ref x0), some (.int x1), some (.int x2)] [.int (Int32.ofInt 1)] (hp s) 0 0 _
          cases hf
          exact Ev.iret .boolean rfl rfl (by decide +kernel) (Nat.le_refl _) (Nat.le_refl _)
def f_X4_isHeld (o : Nat) (p0 : Int32) (s : ST) : Option (Int32 × ST) := (f_X4_isHeld_L2 fuel) o p0 (Int32.ofInt 0) s
set_option maxHeartbeats 2000000 in
set_option maxRecDepth 20000 in
theorem e_X4_isHeld {l : Launch} {d : Nat} (hd : 1 ≤ d) (o : Nat) (p0 : Int32) (s : ST) (r : Int32 × ST) (hf : f_X4_isHeld o p0 s = some r) : Cl l d mi_X4_isHeld [.ref o, .int p0] (hp s) (some (.int r.1), hp r.2) := by
  refine Ev.entry (by decide +kernel) rfl rfl ?_
  show Ev l d mi_X4_isHeld 0 [some (.ref o), some (.int p0), none] [] (hp s) 0 0 _
  unfold f_X4_isHeld at hf
  refine Ev.blk (pc' := 2) [(.iconst 0, 0, 0, 0), (.istore_n 2, 0, 0, 0)] (by decide +kernel) trivial rfl (And.intro (Nat.le_of_ble_eq_true rfl) (?_))
  show Ev l d mi_X4_isHeld 2 [some (.ref o), some (.int p0), some (.int (Int32.ofInt 0))] [] (hp s) 0 0 _
  exact (e_X4_isHeld_L2 hd fuel) o p0 (Int32.ofInt 0) s _ hf
def f_X4_slotOf_L2 : Nat → Nat → Int32 → Int32 → Int32 → ST → Option (Int32 × ST)
  | 0, _, _, _, _, _ => none
  | n + 1, x0, x1, x2, x3, s => (if x2 ≤ x3 then some ((Int32.ofInt (-1)), s) else (if ((Int8.ofInt 19).toInt32) ≤ x3 then some ((Int32.ofInt (-1)), s) else gd (kk x0 4) ((RR s.2.2 x0 15).bind (fun a4 => gd (kk a4 13) (gd (ib x3 (K0 a4).2) ((if (s.1 a4 x3.toNatClampNeg) = x1 then some (x3, s) else (f_X4_slotOf_L2 n) x0 x1 x2 (x3 + Int32.ofInt 1) s)))))))
set_option maxHeartbeats 2000000 in
set_option maxRecDepth 20000 in
theorem e_X4_slotOf_L2 {l : Launch} {d : Nat} (hd : 1 ≤ d) : ∀ (n : Nat) (x0 : Nat) (x1 : Int32) (x2 : Int32) (x3 : Int32) (s : ST) (r : Int32 × ST), f_X4_slotOf_L2 n x0 x1 x2 x3 s = some r → Ev l d mi_X4_slotOf 2 [some (.ref x0), some (.int x1), some (.int x2), some (.int x3)] [] (hp s) 0 0 (some (.int r.1), hp r.2) := by
  intro n
  induction n with
  | zero =>
    intro x0 x1 x2 x3 s r hf
    cases hf
  | succ n ih =>
    intro x0 x1 x2 x3 s r hf
    unfold f_X4_slotOf_L2 at hf
    refine Ev.blk (pc' := 4) [(.iload_n 3, 0, 0, 0), (.iload_n 2, 0, 0, 0)] (by decide +kernel) trivial rfl (?_)
    show Ev l d mi_X4_slotOf 4 [some (.ref x0), some (.int x1), some (.int x2), some (.int x3)] [.int x2, .int x3] (hp s) 0 0 _
    refine Ev.icmp_ge (off := 27) (tgt := 31) (by decide +kernel) (by decide) (fun b1 => ?_) (fun b1 => ?_)
    · have hf := (if_pos b1).symm.trans hf
      refine Ev.blk (pc' := 32) [(.iconst (-1), 0, 0, 0)] (by decide +kernel) trivial rfl (?_)
      show Ev l d mi_X4_slotOf 32 [some (.ref x0), some (.int x1), some (.int x2), some (.int x3)] [.int (Int32.ofInt (-1))] (hp s) 0 0 _
      cases hf
      exact Ev.iret .int rfl rfl (by decide +kernel) (Nat.le_refl _) (Nat.le_refl _)
    · have hf := (if_neg b1).symm.trans hf
      refine Ev.blk (pc' := 10) [(.iload_n 3, 0, 0, 0), (.bipush 19, 0, 0, 0)] (by decide +kernel) trivial rfl (?_)
      show Ev l d mi_X4_slotOf 10 [some (.ref x0), some (.int x1), some (.int x2), some (.int x3)] [.int ((Int8.ofInt 19).toInt32), .int x3] (hp s) 0 0 _
      refine Ev.icmp_ge (off := 21) (tgt := 31) (by decide +kernel) (by decide) (fun b2 => ?_) (fun b2 => ?_)
      · have hf := (if_pos b2).symm.trans hf
        refine Ev.blk (pc' := 32) [(.iconst (-1), 0, 0, 0)] (by decide +kernel) trivial rfl (?_)
        show Ev l d mi_X4_slotOf 32 [some (.ref x0), some (.int x1), some (.int x2), some (.int x3)] [.int (Int32.ofInt (-1))] (hp s) 0 0 _
        cases hf
        exact Ev.iret .int rfl rfl (by decide +kernel) (Nat.le_refl _) (Nat.le_refl _)
      · have hf := (if_neg b2).symm.trans hf
        obtain ⟨c3, hf⟩ := gd_some hf
        obtain ⟨a4, ha4, hf⟩ := bd_some hf
        obtain ⟨c5, hf⟩ := gd_some hf
        obtain ⟨c6, hf⟩ := gd_some hf
        refine Ev.blk (pc' := 20) [(.aload_n 0, 0, 0, 0), (.getfield 58, 0, 4, 15), (.iload_n 3, 0, 0, 0), (.iaload, 0, 0, 0), (.iload_n 1, 0, 0, 0)] (by decide +kernel) ⟨kf_4_58, trivial⟩ rfl (And.intro (kk_ok c3) (Exists.intro a4 (And.intro ha4 (And.intro (kk_ok c5) (And.intro (ib_ok c6) (?_))))))
        show Ev l d mi_X4_slotOf 20 [some (.ref x0), some (.int x1), some (.int x2), some (.int x3)] [.int x1, .int (s.1 a4 x3.toNatClampNeg)] (hp s) 0 0 _
        refine Ev.icmp_ne (off := 5) (tgt := 25) (by decide +kernel) (by decide) (fun b7 => ?_) (fun b7 => ?_)
        · have hf := (if_neg b7).symm.trans hf
          refine Ev.blk (pc' := 28) [(.iinc 3 1, 0, 0, 0)] (by decide +kernel) trivial rfl (And.intro (Nat.le_of_ble_eq_true rfl) (?_))
          show Ev l d mi_X4_slotOf 28 [some (.ref x0), some (.int x1), some (.int x2), some (.int (x3 + Int32.ofInt 1))] [] (hp s) 0 0 _
          refine Ev.goto (off := -26) (tgt := 2) (by decide +kernel) (by decide) ?_
          exact ih x0 x1 x2 (x3 + Int32.ofInt 1) s _ hf
        · have hf := (if_pos b7).symm.trans hf
          refine Ev.blk (pc' := 24) [(.iload_n 3, 0, 0, 0)] (by decide +kernel) trivial rfl (?_)
          show Ev l d mi_X4_slotOf 24 [some (.ref x0), some (.int x1), some (.int x2), some (.int x3)] [.int x3] (hp s) 0 0 _
          cases hf
          exact Ev.iret .int rfl rfl (by decide +kernel) (Nat.le_refl _) (Nat.le_refl _)
def f_X4_slotOf (o : Nat) (p0 : Int32) (p1 : Int32) (s : ST) : Option (Int32 × ST) := (f_X4_slotOf_L2 fuel) o p0 p1 (Int32.ofInt 0) s
set_option maxHeartbeats 2000000 in
set_option maxRecDepth 20000 in
theorem e_X4_slotOf {l : Launch} {d : Nat} (hd : 1 ≤ d) (o : Nat) (p0 : Int32) (p1 : Int32) (s : ST) (r : Int32 × ST) (hf : f_X4_slotOf o p0 p1 s = some r) : Cl l d mi_X4_slotOf [.ref o, .int p0, .int p1] (hp s) (some (.int r.1), hp r.2) := by
  refine Ev.entry (by decide +kernel) rfl rfl ?_
  show Ev l d mi_X4_slotOf 0 [some (.ref o), some (.int p0), some (.int p1), none] [] (hp s) 0 0 _
  unfold f_X4_slotOf at hf
  refine Ev.blk (pc' := 2) [(.iconst 0, 0, 0, 0), (.istore_n 3, 0, 0, 0)] (by decide +kernel) trivial rfl (And.intro (Nat.le_of_ble_eq_true rfl) (?_))
  show Ev l d mi_X4_slotOf 2 [some (.ref o), some (.int p0), some (.int p1), some (.int (Int32.ofInt 0))] [] (hp s) 0 0 _
  exact (e_X4_slotOf_L2 hd fuel) o p0 p1 (Int32.ofInt 0) s _ hf
def f_X5_open (s : ST) : Option (ST) := lt (uI (uI (uI (uI (uI s 3 1 (Int32.ofInt 0)) 3 2 (Int32.ofInt 0)) 3 3 (Int32.ofInt 0)) 3 5 (Int32.ofInt 0)) 3 6 (Int32.ofInt (-1))) (fun s1 => (f_X5_step s1).bind (fun q2 => some q2))
set_option maxHeartbeats 2000000 in
set_option maxRecDepth 20000 in
theorem e_X5_open {l : Launch} {d : Nat} (hd : 7 ≤ d) (s : ST) (r : ST) (hf : f_X5_open s = some r) : Cl l d mi_X5_open [.ref 3] (hp s) (none, hp r) := by
  refine Ev.entry (by decide +kernel) rfl rfl ?_
  show Ev l d mi_X5_open 0 [some (.ref 3)] [] (hp s) 0 0 _
  unfold f_X5_open at hf
  obtain ⟨s1, hs1, hf⟩ := lt_some hf
  refine Ev.blk (pc' := 26) [(.aload_n 0, 0, 0, 0), (.iconst 0, 0, 0, 0), (.putfield 9, 0, 5, 1), (.aload_n 0, 0, 0, 0), (.iconst 0, 0, 0, 0), (.putfield 15, 0, 5, 2), (.aload_n 0, 0, 0, 0), (.iconst 0, 0, 0, 0), (.putfield 18, 0, 5, 3), (.aload_n 0, 0, 0, 0), (.iconst 0, 0, 0, 0), (.putfield 24, 0, 5, 5), (.aload_n 0, 0, 0, 0), (.iconst (-1), 0, 0, 0), (.putfield 27, 0, 5, 6), (.aload_n 0, 0, 0, 0)] (by decide +kernel) ⟨⟨kf_5_9, Or.inl rfl⟩, ⟨⟨kf_5_15, Or.inl rfl⟩, ⟨⟨kf_5_18, Or.inl rfl⟩, ⟨⟨kf_5_24, Or.inl rfl⟩, ⟨⟨kf_5_27, Or.inl rfl⟩, trivial⟩⟩⟩⟩⟩ rfl (And.intro (kc rfl rfl) (And.intro (kc rfl rfl) (And.intro (kc rfl rfl) (And.intro (kc rfl rfl) (And.intro (kc rfl rfl) (?_))))))
  show Ev l d mi_X5_open 26 [some (.ref 3)] [.ref 3] (hp (uI (uI (uI (uI (uI s 3 1 (Int32.ofInt 0)) 3 2 (Int32.ofInt 0)) 3 3 (Int32.ofInt 0)) 3 5 (Int32.ofInt 0)) 3 6 (Int32.ofInt (-1)))) 0 0 _
  rw [← hs1]
  obtain ⟨q2, hq2, hf⟩ := bd_some hf
  refine Ev.callV (o := 3) (M' := mi_X5_step) (d' := d - 1) (As := []) (rest := []) (r' := (none, hp q2)) (e_X5_step (d := d - 1) (by omega) s1 _ hq2) (by omega) wm_X5_step wi_X5_step wv_X5_step km_5_34 (kc rfl rfl) (Nat.le_of_ble_eq_true rfl) rfl rfl rfl (Nat.le_of_ble_eq_true rfl) ⟨Nat.le_of_ble_eq_true rfl, Nat.le_of_ble_eq_true rfl⟩ (by decide +kernel) ?_
  show Ev l d mi_X5_open 29 [some (.ref 3)] [] (hp q2) 0 0 _
  cases hf
  exact Ev.vret rfl (by decide +kernel) (Nat.le_refl _) (Nat.le_refl _)
def f_X5_takeWord (p0 : Int32) (s : ST) : Option (ST) := (f_X5_isWord p0 s).bind (fun q1 => (if q1.1 = 0 then (f_X5_failForm q1.2).bind (fun q3 => some q3) else (f_X5_step q1.2).bind (fun q4 => some q4)))
set_option maxHeartbeats 2000000 in
set_option maxRecDepth 20000 in
theorem e_X5_takeWord {l : Launch} {d : Nat} (hd : 7 ≤ d) (p0 : Int32) (s : ST) (r : ST) (hf : f_X5_takeWord p0 s = some r) : Cl l d mi_X5_takeWord [.ref 3, .int p0] (hp s) (none, hp r) := by
  refine Ev.entry (by decide +kernel) rfl rfl ?_
  show Ev l d mi_X5_takeWord 0 [some (.ref 3), some (.int p0)] [] (hp s) 0 0 _
  unfold f_X5_takeWord at hf
  refine Ev.blk (pc' := 2) [(.aload_n 0, 0, 0, 0), (.iload_n 1, 0, 0, 0)] (by decide +kernel) trivial rfl (?_)
  show Ev l d mi_X5_takeWord 2 [some (.ref 3), some (.int p0)] [.int p0, .ref 3] (hp s) 0 0 _
  obtain ⟨q1, hq1, hf⟩ := bd_some hf
  refine Ev.callV (o := 3) (M' := mi_X5_isWord) (d' := d - 1) (As := [.int p0]) (rest := []) (r' := (some (.int q1.1), hp q1.2)) (e_X5_isWord (d := d - 1) (by omega) p0 s _ hq1) (by omega) wm_X5_isWord wi_X5_isWord wv_X5_isWord km_5_75 (kc rfl rfl) (Nat.le_of_ble_eq_true rfl) rfl rfl rfl (Nat.le_of_ble_eq_true rfl) ⟨Nat.le_of_ble_eq_true rfl, Nat.le_of_ble_eq_true rfl⟩ (by decide +kernel) ?_
  show Ev l d mi_X5_takeWord 5 [some (.ref 3), some (.int p0)] [.int q1.1] (hp q1.2) 0 0 _
  refine Ev.if_eq (off := 10) (tgt := 15) (by decide +kernel) (by decide) (fun b2 => ?_) (fun b2 => ?_)
  · have hf := (if_pos b2).symm.trans hf
    refine Ev.blk (pc' := 16) [(.aload_n 0, 0, 0, 0)] (by decide +kernel) trivial rfl (?_)
    show Ev l d mi_X5_takeWord 16 [some (.ref 3), some (.int p0)] [.ref 3] (hp q1.2) 0 0 _
    obtain ⟨q3, hq3, hf⟩ := bd_some hf
    refine Ev.callV (o := 3) (M' := mi_X5_failForm) (d' := d - 1) (As := []) (rest := []) (r' := (none, hp q3)) (e_X5_failForm (d := d - 1) (by omega) q1.2 _ hq3) (by omega) wm_X5_failForm wi_X5_failForm wv_X5_failForm km_5_78 (kc rfl rfl) (Nat.le_of_ble_eq_true rfl) rfl rfl rfl (Nat.le_of_ble_eq_true rfl) ⟨Nat.le_of_ble_eq_true rfl, Nat.le_of_ble_eq_true rfl⟩ (by decide +kernel) ?_
    show Ev l d mi_X5_takeWord 19 [some (.ref 3), some (.int p0)] [] (hp q3) 0 0 _
    cases hf
    exact Ev.vret rfl (by decide +kernel) (Nat.le_refl _) (Nat.le_refl _)
  · have hf := (if_neg b2).symm.trans hf
    refine Ev.blk (pc' := 9) [(.aload_n 0, 0, 0, 0)] (by decide +kernel) trivial rfl (?_)
    show Ev l d mi_X5_takeWord 9 [some (.ref 3), some (.int p0)] [.ref 3] (hp q1.2) 0 0 _
    obtain ⟨q4, hq4, hf⟩ := bd_some hf
    refine Ev.callV (o := 3) (M' := mi_X5_step) (d' := d - 1) (As := []) (rest := []) (r' := (none, hp q4)) (e_X5_step (d := d - 1) (by omega) q1.2 _ hq4) (by omega) wm_X5_step wi_X5_step wv_X5_step km_5_34 (kc rfl rfl) (Nat.le_of_ble_eq_true rfl) rfl rfl rfl (Nat.le_of_ble_eq_true rfl) ⟨Nat.le_of_ble_eq_true rfl, Nat.le_of_ble_eq_true rfl⟩ (by decide +kernel) ?_
    show Ev l d mi_X5_takeWord 12 [some (.ref 3), some (.int p0)] [] (hp q4) 0 0 _
    refine Ev.goto (off := 7) (tgt := 19) (by decide +kernel) (by decide) ?_
    cases hf
    exact Ev.vret rfl (by decide +kernel) (Nat.le_refl _) (Nat.le_refl _)
def f_X5_nameAtHand_L72 : Nat → Int32 → Int32 → ST → Option (Int32 × ST)
  | 0, _, _, _ => none
  | n + 1, x1, x2, s => (if x2 < (s.1 3 1) then some (x1, s) else (f_X7_byteAt x2 s).bind (fun q8 => lt ((x1 <<< ((Int32.ofInt 5) &&& 31)) ||| ((q8.1 - ((Int8.ofInt 97).toInt32)) + (Int32.ofInt 1))) (fun v9 => (f_X5_nameAtHand_L72 n) v9 (x2 + Int32.ofInt (-1)) q8.2)))
set_option maxHeartbeats 2000000 in
set_option maxRecDepth 20000 in
theorem e_X5_nameAtHand_L72 {l : Launch} {d : Nat} (hd : 2 ≤ d) : ∀ (n : Nat) (x1 : Int32) (x2 : Int32) (s : ST) (r : Int32 × ST), f_X5_nameAtHand_L72 n x1 x2 s = some r → Ev l d mi_X5_nameAtHand 72 [some (.ref 3), some (.int x1), some (.int x2)] [] (hp s) 0 0 (some (.int r.1), hp r.2) := by
  intro n
  induction n with
  | zero =>
    intro x1 x2 s r hf
    cases hf
  | succ n ih =>
    intro x1 x2 s r hf
    unfold f_X5_nameAtHand_L72 at hf
    refine Ev.blk (pc' := 77) [(.iload_n 2, 0, 0, 0), (.aload_n 0, 0, 0, 0), (.getfield 9, 0, 5, 1)] (by decide +kernel) ⟨kf_5_9, trivial⟩ rfl (And.intro (kc rfl rfl) (?_))
    show Ev l d mi_X5_nameAtHand 77 [some (.ref 3), some (.int x1), some (.int x2)] [.int (s.1 3 1), .int x2] (hp s) 0 0 _
    refine Ev.icmp_lt (off := 27) (tgt := 104) (by decide +kernel) (by decide) (fun b7 => ?_) (fun b7 => ?_)
    · have hf := (if_pos b7).symm.trans hf
      refine Ev.blk (pc' := 105) [(.iload_n 1, 0, 0, 0)] (by decide +kernel) trivial rfl (?_)
      show Ev l d mi_X5_nameAtHand 105 [some (.ref 3), some (.int x1), some (.int x2)] [.int x1] (hp s) 0 0 _
      cases hf
      exact Ev.iret .int rfl rfl (by decide +kernel) (Nat.le_refl _) (Nat.le_refl _)
    · have hf := (if_neg b7).symm.trans hf
      refine Ev.blk (pc' := 88) [(.iload_n 1, 0, 0, 0), (.iconst 5, 0, 0, 0), (.ishl, 0, 0, 0), (.aload_n 0, 0, 0, 0), (.getfield 30, 0, 5, 0), (.iload_n 2, 0, 0, 0)] (by decide +kernel) ⟨kf_5_30, trivial⟩ rfl (And.intro (kc rfl rfl) (Exists.intro 1 (And.intro rfl (?_))))
      show Ev l d mi_X5_nameAtHand 88 [some (.ref 3), some (.int x1), some (.int x2)] [.int x2, .ref 1, .int (x1 <<< ((Int32.ofInt 5) &&& 31))] (hp s) 0 0 _
      obtain ⟨q8, hq8, hf⟩ := bd_some hf
      refine Ev.callV (o := 1) (M' := mi_X7_byteAt) (d' := d - 1) (As := [.int x2]) (rest := [.int (x1 <<< ((Int32.ofInt 5) &&& 31))]) (r' := (some (.int q8.1), hp q8.2)) (e_X7_byteAt (d := d - 1) (by omega) x2 s _ hq8) (by omega) wm_X7_byteAt wi_X7_byteAt wv_X7_byteAt km_5_46 (kc rfl rfl) (Nat.le_of_ble_eq_true rfl) rfl rfl rfl (Nat.le_of_ble_eq_true rfl) ⟨Nat.le_of_ble_eq_true rfl, Nat.le_of_ble_eq_true rfl⟩ (by decide +kernel) ?_
      show Ev l d mi_X5_nameAtHand 91 [some (.ref 3), some (.int x1), some (.int x2)] [.int q8.1, .int (x1 <<< ((Int32.ofInt 5) &&& 31))] (hp q8.2) 0 0 _
      obtain ⟨v9, hv9, hf⟩ := lt_some hf
      refine Ev.blk (pc' := 101) [(.bipush 97, 0, 0, 0), (.isub, 0, 0, 0), (.iconst 1, 0, 0, 0), (.iadd, 0, 0, 0), (.ior, 0, 0, 0), (.istore_n 1, 0, 0, 0), (.iinc 2 (-1), 0, 0, 0)] (by decide +kernel) trivial rfl (And.intro (Nat.le_of_ble_eq_true rfl) (And.intro (Nat.le_of_ble_eq_true rfl) (?_)))
      show Ev l d mi_X5_nameAtHand 101 [some (.ref 3), some (.int ((x1 <<< ((Int32.ofInt 5) &&& 31)) ||| ((q8.1 - ((Int8.ofInt 97).toInt32)) + (Int32.ofInt 1)))), some (.int (x2 + Int32.ofInt (-1)))] [] (hp q8.2) 0 0 _
      rw [← hv9]
      refine Ev.goto (off := -29) (tgt := 72) (by decide +kernel) (by decide) ?_
      exact ih v9 (x2 + Int32.ofInt (-1)) q8.2 _ hf
def f_X5_nameAtHand_j35 (s : ST) : Option (Int32 × ST) := (if ((s.1 3 2) - (s.1 3 1)) ≤ ((Int8.ofInt 6).toInt32) then (f_X5_nameAtHand_L72 fuel) (Int32.ofInt 0) ((s.1 3 2) - (Int32.ofInt 1)) s else (f_X5_fail (Int32.ofInt 1) ((s.1 3 1) + ((Int8.ofInt 6).toInt32)) s).bind (fun q6 => some ((Int32.ofInt (-1)), q6)))
set_option maxHeartbeats 2000000 in
set_option maxRecDepth 20000 in
theorem e_X5_nameAtHand_j35 {l : Launch} {d : Nat} (hd : 2 ≤ d) (s : ST) (r : Int32 × ST) (hf : f_X5_nameAtHand_j35 s = some r) : Ev l d mi_X5_nameAtHand 35 [some (.ref 3), none, none] [] (hp s) 0 0 (some (.int r.1), hp r.2) := by
  unfold f_X5_nameAtHand_j35 at hf
  refine Ev.blk (pc' := 46) [(.aload_n 0, 0, 0, 0), (.getfield 15, 0, 5, 2), (.aload_n 0, 0, 0, 0), (.getfield 9, 0, 5, 1), (.isub, 0, 0, 0), (.bipush 6, 0, 0, 0)] (by decide +kernel) ⟨kf_5_15, ⟨kf_5_9, trivial⟩⟩ rfl (And.intro (kc rfl rfl) (And.intro (kc rfl rfl) (?_)))
  show Ev l d mi_X5_nameAtHand 46 [some (.ref 3), none, none] [.int ((Int8.ofInt 6).toInt32), .int ((s.1 3 2) - (s.1 3 1))] (hp s) 0 0 _
  refine Ev.icmp_le (off := 17) (tgt := 63) (by decide +kernel) (by decide) (fun b5 => ?_) (fun b5 => ?_)
  · have hf := (if_pos b5).symm.trans hf
    refine Ev.blk (pc' := 72) [(.iconst 0, 0, 0, 0), (.istore_n 1, 0, 0, 0), (.aload_n 0, 0, 0, 0), (.getfield 15, 0, 5, 2), (.iconst 1, 0, 0, 0), (.isub, 0, 0, 0), (.istore_n 2, 0, 0, 0)] (by decide +kernel) ⟨kf_5_15, trivial⟩ rfl (And.intro (Nat.le_of_ble_eq_true rfl) (And.intro (kc rfl rfl) (And.intro (Nat.le_of_ble_eq_true rfl) (?_))))
    show Ev l d mi_X5_nameAtHand 72 [some (.ref 3), some (.int (Int32.ofInt 0)), some (.int ((s.1 3 2) - (Int32.ofInt 1)))] [] (hp s) 0 0 _
    exact (e_X5_nameAtHand_L72 hd fuel) (Int32.ofInt 0) ((s.1 3 2) - (Int32.ofInt 1)) s _ hf
  · have hf := (if_neg b5).symm.trans hf
    refine Ev.blk (pc' := 58) [(.aload_n 0, 0, 0, 0), (.iconst 1, 0, 0, 0), (.aload_n 0, 0, 0, 0), (.getfield 9, 0, 5, 1), (.bipush 6, 0, 0, 0), (.iadd, 0, 0, 0)] (by decide +kernel) ⟨kf_5_9, trivial⟩ rfl (And.intro (kc rfl rfl) (?_))
    show Ev l d mi_X5_nameAtHand 58 [some (.ref 3), none, none] [.int ((s.1 3 1) + ((Int8.ofInt 6).toInt32)), .int (Int32.ofInt 1), .ref 3] (hp s) 0 0 _
    obtain ⟨q6, hq6, hf⟩ := bd_some hf
    refine Ev.callV (o := 3) (M' := mi_X5_fail) (d' := d - 1) (As := [.int (Int32.ofInt 1), .int ((s.1 3 1) + ((Int8.ofInt 6).toInt32))]) (rest := []) (r' := (none, hp q6)) (e_X5_fail (d := d - 1) (by omega) (Int32.ofInt 1) ((s.1 3 1) + ((Int8.ofInt 6).toInt32)) s _ hq6) (by omega) wm_X5_fail wi_X5_fail wv_X5_fail km_5_37 (kc rfl rfl) (Nat.le_of_ble_eq_true rfl) rfl rfl rfl (Nat.le_of_ble_eq_true rfl) ⟨Nat.le_of_ble_eq_true rfl, Nat.le_of_ble_eq_true rfl⟩ (by decide +kernel) ?_
    show Ev l d mi_X5_nameAtHand 61 [some (.ref 3), none, none] [] (hp q6) 0 0 _
    refine Ev.blk (pc' := 62) [(.iconst (-1), 0, 0, 0)] (by decide +kernel) trivial rfl (?_)
    show Ev l d mi_X5_nameAtHand 62 [some (.ref 3), none, none] [.int (Int32.ofInt (-1))] (hp q6) 0 0 _
    cases hf
    exact Ev.iret .int rfl rfl (by decide +kernel) (Nat.le_refl _) (Nat.le_refl _)
def f_X5_nameAtHand_j24 (s : ST) : Option (Int32 × ST) := (f_X5_fail (Int32.ofInt 1) (s.1 3 1) s).bind (fun q4 => some ((Int32.ofInt (-1)), q4))
set_option maxHeartbeats 2000000 in
set_option maxRecDepth 20000 in
theorem e_X5_nameAtHand_j24 {l : Launch} {d : Nat} (hd : 2 ≤ d) (s : ST) (r : Int32 × ST) (hf : f_X5_nameAtHand_j24 s = some r) : Ev l d mi_X5_nameAtHand 24 [some (.ref 3), none, none] [] (hp s) 0 0 (some (.int r.1), hp r.2) := by
  unfold f_X5_nameAtHand_j24 at hf
  refine Ev.blk (pc' := 30) [(.aload_n 0, 0, 0, 0), (.iconst 1, 0, 0, 0), (.aload_n 0, 0, 0, 0), (.getfield 9, 0, 5, 1)] (by decide +kernel) ⟨kf_5_9, trivial⟩ rfl (And.intro (kc rfl rfl) (?_))
  show Ev l d mi_X5_nameAtHand 30 [some (.ref 3), none, none] [.int (s.1 3 1), .int (Int32.ofInt 1), .ref 3] (hp s) 0 0 _
  obtain ⟨q4, hq4, hf⟩ := bd_some hf
  refine Ev.callV (o := 3) (M' := mi_X5_fail) (d' := d - 1) (As := [.int (Int32.ofInt 1), .int (s.1 3 1)]) (rest := []) (r' := (none, hp q4)) (e_X5_fail (d := d - 1) (by omega) (Int32.ofInt 1) (s.1 3 1) s _ hq4) (by omega) wm_X5_fail wi_X5_fail wv_X5_fail km_5_37 (kc rfl rfl) (Nat.le_of_ble_eq_true rfl) rfl rfl rfl (Nat.le_of_ble_eq_true rfl) ⟨Nat.le_of_ble_eq_true rfl, Nat.le_of_ble_eq_true rfl⟩ (by decide +kernel) ?_
  show Ev l d mi_X5_nameAtHand 33 [some (.ref 3), none, none] [] (hp q4) 0 0 _
  refine Ev.blk (pc' := 34) [(.iconst (-1), 0, 0, 0)] (by decide +kernel) trivial rfl (?_)
  show Ev l d mi_X5_nameAtHand 34 [some (.ref 3), none, none] [.int (Int32.ofInt (-1))] (hp q4) 0 0 _
  cases hf
  exact Ev.iret .int rfl rfl (by decide +kernel) (Nat.le_refl _) (Nat.le_refl _)
def f_X5_nameAtHand (s : ST) : Option (Int32 × ST) := (if (s.1 3 3) = (Int32.ofInt 1) then (if (s.1 3 4) < 0 then f_X5_nameAtHand_j35 s else (if ((Int8.ofInt 33).toInt32) ≤ (s.1 3 4) then f_X5_nameAtHand_j35 s else f_X5_nameAtHand_j24 s)) else f_X5_nameAtHand_j24 s)
set_option maxHeartbeats 2000000 in
set_option maxRecDepth 20000 in
theorem e_X5_nameAtHand {l : Launch} {d : Nat} (hd : 2 ≤ d) (s : ST) (r : Int32 × ST) (hf : f_X5_nameAtHand s = some r) : Cl l d mi_X5_nameAtHand [.ref 3] (hp s) (some (.int r.1), hp r.2) := by
  refine Ev.entry (by decide +kernel) rfl rfl ?_
  show Ev l d mi_X5_nameAtHand 0 [some (.ref 3), none, none] [] (hp s) 0 0 _
  unfold f_X5_nameAtHand at hf
  refine Ev.blk (pc' := 5) [(.aload_n 0, 0, 0, 0), (.getfield 18, 0, 5, 3), (.iconst 1, 0, 0, 0)] (by decide +kernel) ⟨kf_5_18, trivial⟩ rfl (And.intro (kc rfl rfl) (?_))
  show Ev l d mi_X5_nameAtHand 5 [some (.ref 3), none, none] [.int (Int32.ofInt 1), .int (s.1 3 3)] (hp s) 0 0 _
  refine Ev.icmp_ne (off := 19) (tgt := 24) (by decide +kernel) (by decide) (fun b1 => ?_) (fun b1 => ?_)
  · have hf := (if_neg b1).symm.trans hf
    exact (e_X5_nameAtHand_j24 hd) s _ hf
  · have hf := (if_pos b1).symm.trans hf
    refine Ev.blk (pc' := 12) [(.aload_n 0, 0, 0, 0), (.getfield 21, 0, 5, 4)] (by decide +kernel) ⟨kf_5_21, trivial⟩ rfl (And.intro (kc rfl rfl) (?_))
    show Ev l d mi_X5_nameAtHand 12 [some (.ref 3), none, none] [.int (s.1 3 4)] (hp s) 0 0 _
    refine Ev.if_lt (off := 23) (tgt := 35) (by decide +kernel) (by decide) (fun b2 => ?_) (fun b2 => ?_)
    · have hf := (if_pos b2).symm.trans hf
      exact (e_X5_nameAtHand_j35 hd) s _ hf
    · have hf := (if_neg b2).symm.trans hf
      refine Ev.blk (pc' := 21) [(.aload_n 0, 0, 0, 0), (.getfield 21, 0, 5, 4), (.bipush 33, 0, 0, 0)] (by decide +kernel) ⟨kf_5_21, trivial⟩ rfl (And.intro (kc rfl rfl) (?_))
      show Ev l d mi_X5_nameAtHand 21 [some (.ref 3), none, none] [.int ((Int8.ofInt 33).toInt32), .int (s.1 3 4)] (hp s) 0 0 _
      refine Ev.icmp_ge (off := 14) (tgt := 35) (by decide +kernel) (by decide) (fun b3 => ?_) (fun b3 => ?_)
      · have hf := (if_pos b3).symm.trans hf
        exact (e_X5_nameAtHand_j35 hd) s _ hf
      · have hf := (if_neg b3).symm.trans hf
        exact (e_X5_nameAtHand_j24 hd) s _ hf
def f_X7_add_L3 : Nat → Int32 → Int32 → ST → Option (ST)
  | 0, _, _, _ => none
  | n + 1, x1, x2, s => (if x2 < 0 then some s else (if (Int32.ofNat 1600) ≤ (s.1 1 1) then (f_X7_add_L3 n) x1 (x2 + Int32.ofInt (-8)) s else gd (ib (s.1 1 1) 1600) (lt (uI (uI s 2 (s.1 1 1).toNatClampNeg (vp_nar .byte ((x1 >>> (x2 &&& 31)).toInt8.toInt32))) 1 1 (((uI s 2 (s.1 1 1).toNatClampNeg (vp_nar .byte ((x1 >>> (x2 &&& 31)).toInt8.toInt32))).1 1 1) + (Int32.ofInt 1))) (fun s4 => (f_X7_add_L3 n) x1 (x2 + Int32.ofInt (-8)) s4))))
set_option maxHeartbeats 2000000 in
set_option maxRecDepth 20000 in
theorem e_X7_add_L3 {l : Launch} {d : Nat} (hd : 1 ≤ d) : ∀ (n : Nat) (x1 : Int32) (x2 : Int32) (s : ST) (r : ST), f_X7_add_L3 n x1 x2 s = some r → Ev l d mi_X7_add 3 [some (.ref 1), some (.int x1), some (.int x2)] [] (hp s) 0 0 (none, hp r) := by
  intro n
  induction n with
  | zero =>
    intro x1 x2 s r hf
    cases hf
  | succ n ih =>
    intro x1 x2 s r hf
    unfold f_X7_add_L3 at hf
    refine Ev.blk (pc' := 4) [(.iload_n 2, 0, 0, 0)] (by decide +kernel) trivial rfl (?_)
    show Ev l d mi_X7_add 4 [some (.ref 1), some (.int x1), some (.int x2)] [.int x2] (hp s) 0 0 _
    refine Ev.if_lt (off := 44) (tgt := 48) (by decide +kernel) (by decide) (fun b1 => ?_) (fun b1 => ?_)
    · have hf := (if_pos b1).symm.trans hf
      cases hf
      exact Ev.vret rfl (by decide +kernel) (Nat.le_refl _) (Nat.le_refl _)
    · have hf := (if_neg b1).symm.trans hf
      refine Ev.blk (pc' := 16) [(.aload_n 0, 0, 0, 0), (.getfield 15, 0, 7, 1), (.aload_n 0, 0, 0, 0), (.getfield 9, 0, 7, 0), (.arraylength, 0, 0, 0)] (by decide +kernel) ⟨kf_7_15, ⟨kf_7_9, trivial⟩⟩ rfl (And.intro (kc rfl rfl) (And.intro (kc rfl rfl) (Exists.intro 2 (And.intro rfl (And.intro (kl rfl rfl rfl) (?_))))))
      show Ev l d mi_X7_add 16 [some (.ref 1), some (.int x1), some (.int x2)] [.int (Int32.ofNat 1600), .int (s.1 1 1)] (hp s) 0 0 _
      refine Ev.icmp_ge (off := 26) (tgt := 42) (by decide +kernel) (by decide) (fun b2 => ?_) (fun b2 => ?_)
      · have hf := (if_pos b2).symm.trans hf
        refine Ev.blk (pc' := 45) [(.iinc 2 (-8), 0, 0, 0)] (by decide +kernel) trivial rfl (And.intro (Nat.le_of_ble_eq_true rfl) (?_))
        show Ev l d mi_X7_add 45 [some (.ref 1), some (.int x1), some (.int (x2 + Int32.ofInt (-8)))] [] (hp s) 0 0 _
        refine Ev.goto (off := -42) (tgt := 3) (by decide +kernel) (by decide) ?_
        exact ih x1 (x2 + Int32.ofInt (-8)) s _ hf
      · have hf := (if_neg b2).symm.trans hf
        obtain ⟨c3, hf⟩ := gd_some hf
        obtain ⟨s4, hs4, hf⟩ := lt_some hf
        refine Ev.blk (pc' := 45) [(.aload_n 0, 0, 0, 0), (.getfield 9, 0, 7, 0), (.aload_n 0, 0, 0, 0), (.getfield 15, 0, 7, 1), (.iload_n 1, 0, 0, 0), (.iload_n 2, 0, 0, 0), (.ishr, 0, 0, 0), (.i2b, 0, 0, 0), (.bastore, 0, 0, 0), (.aload_n 0, 0, 0, 0), (.dup, 0, 0, 0), (.getfield 15, 0, 7, 1), (.iconst 1, 0, 0, 0), (.iadd, 0, 0, 0), (.putfield 15, 0, 7, 1), (.iinc 2 (-8), 0, 0, 0)] (by decide +kernel) ⟨kf_7_9, ⟨kf_7_15, ⟨kf_7_15, ⟨⟨kf_7_15, Or.inl rfl⟩, trivial⟩⟩⟩⟩ rfl (And.intro (kc rfl rfl) (Exists.intro 2 (And.intro rfl (And.intro (kc rfl rfl) (And.intro (kc rfl rfl) (And.intro (ib_ok c3) (And.intro rfl (And.intro (kc rfl rfl) (And.intro (kc rfl rfl) (And.intro (Nat.le_of_ble_eq_true rfl) (?_)))))))))))
        show Ev l d mi_X7_add 45 [some (.ref 1), some (.int x1), some (.int (x2 + Int32.ofInt (-8)))] [] (hp (uI (uI s 2 (s.1 1 1).toNatClampNeg (vp_nar .byte ((x1 >>> (x2 &&& 31)).toInt8.toInt32))) 1 1 (((uI s 2 (s.1 1 1).toNatClampNeg (vp_nar .byte ((x1 >>> (x2 &&& 31)).toInt8.toInt32))).1 1 1) + (Int32.ofInt 1)))) 0 0 _
        rw [← hs4]
        refine Ev.goto (off := -42) (tgt := 3) (by decide +kernel) (by decide) ?_
        exact ih x1 (x2 + Int32.ofInt (-8)) s4 _ hf
def f_X7_add (p0 : Int32) (s : ST) : Option (ST) := (f_X7_add_L3 fuel) p0 ((Int8.ofInt 24).toInt32) s
set_option maxHeartbeats 2000000 in
set_option maxRecDepth 20000 in
theorem e_X7_add {l : Launch} {d : Nat} (hd : 1 ≤ d) (p0 : Int32) (s : ST) (r : ST) (hf : f_X7_add p0 s = some r) : Cl l d mi_X7_add [.ref 1, .int p0] (hp s) (none, hp r) := by
  refine Ev.entry (by decide +kernel) rfl rfl ?_
  show Ev l d mi_X7_add 0 [some (.ref 1), some (.int p0), none] [] (hp s) 0 0 _
  unfold f_X7_add at hf
  refine Ev.blk (pc' := 3) [(.bipush 24, 0, 0, 0), (.istore_n 2, 0, 0, 0)] (by decide +kernel) trivial rfl (And.intro (Nat.le_of_ble_eq_true rfl) (?_))
  show Ev l d mi_X7_add 3 [some (.ref 1), some (.int p0), some (.int ((Int8.ofInt 24).toInt32))] [] (hp s) 0 0 _
  exact (e_X7_add_L3 hd fuel) p0 ((Int8.ofInt 24).toInt32) s _ hf
def f_X7_pairAt (p0 : Int32) (s : ST) : Option (Int32 × ST) := (f_X7_byteAt p0 s).bind (fun q1 => (f_X7_byteAt (p0 + (Int32.ofInt 1)) q1.2).bind (fun q2 => some (((((Int16.ofInt 256).toInt32) * q1.1) + q2.1), q2.2)))
set_option maxHeartbeats 2000000 in
set_option maxRecDepth 20000 in
theorem e_X7_pairAt {l : Launch} {d : Nat} (hd : 2 ≤ d) (p0 : Int32) (s : ST) (r : Int32 × ST) (hf : f_X7_pairAt p0 s = some r) : Cl l d mi_X7_pairAt [.ref 1, .int p0] (hp s) (some (.int r.1), hp r.2) := by
  refine Ev.entry (by decide +kernel) rfl rfl ?_
  show Ev l d mi_X7_pairAt 0 [some (.ref 1), some (.int p0)] [] (hp s) 0 0 _
  unfold f_X7_pairAt at hf
  refine Ev.blk (pc' := 5) [(.sipush 256, 0, 0, 0), (.aload_n 0, 0, 0, 0), (.iload_n 1, 0, 0, 0)] (by decide +kernel) trivial rfl (?_)
  show Ev l d mi_X7_pairAt 5 [some (.ref 1), some (.int p0)] [.int p0, .ref 1, .int ((Int16.ofInt 256).toInt32)] (hp s) 0 0 _
  obtain ⟨q1, hq1, hf⟩ := bd_some hf
  refine Ev.callV (o := 1) (M' := mi_X7_byteAt) (d' := d - 1) (As := [.int p0]) (rest := [.int ((Int16.ofInt 256).toInt32)]) (r' := (some (.int q1.1), hp q1.2)) (e_X7_byteAt (d := d - 1) (by omega) p0 s _ hq1) (by omega) wm_X7_byteAt wi_X7_byteAt wv_X7_byteAt km_7_19 (kc rfl rfl) (Nat.le_of_ble_eq_true rfl) rfl rfl rfl (Nat.le_of_ble_eq_true rfl) ⟨Nat.le_of_ble_eq_true rfl, Nat.le_of_ble_eq_true rfl⟩ (by decide +kernel) ?_
  show Ev l d mi_X7_pairAt 8 [some (.ref 1), some (.int p0)] [.int q1.1, .int ((Int16.ofInt 256).toInt32)] (hp q1.2) 0 0 _
  refine Ev.blk (pc' := 13) [(.imul, 0, 0, 0), (.aload_n 0, 0, 0, 0), (.iload_n 1, 0, 0, 0), (.iconst 1, 0, 0, 0), (.iadd, 0, 0, 0)] (by decide +kernel) trivial rfl (?_)
  show Ev l d mi_X7_pairAt 13 [some (.ref 1), some (.int p0)] [.int (p0 + (Int32.ofInt 1)), .ref 1, .int (((Int16.ofInt 256).toInt32) * q1.1)] (hp q1.2) 0 0 _
  obtain ⟨q2, hq2, hf⟩ := bd_some hf
  refine Ev.callV (o := 1) (M' := mi_X7_byteAt) (d' := d - 1) (As := [.int (p0 + (Int32.ofInt 1))]) (rest := [.int (((Int16.ofInt 256).toInt32) * q1.1)]) (r' := (some (.int q2.1), hp q2.2)) (e_X7_byteAt (d := d - 1) (by omega) (p0 + (Int32.ofInt 1)) q1.2 _ hq2) (by omega) wm_X7_byteAt wi_X7_byteAt wv_X7_byteAt km_7_19 (kc rfl rfl) (Nat.le_of_ble_eq_true rfl) rfl rfl rfl (Nat.le_of_ble_eq_true rfl) ⟨Nat.le_of_ble_eq_true rfl, Nat.le_of_ble_eq_true rfl⟩ (by decide +kernel) ?_
  show Ev l d mi_X7_pairAt 16 [some (.ref 1), some (.int p0)] [.int q2.1, .int (((Int16.ofInt 256).toInt32) * q1.1)] (hp q2.2) 0 0 _
  refine Ev.blk (pc' := 17) [(.iadd, 0, 0, 0)] (by decide +kernel) trivial rfl (?_)
  show Ev l d mi_X7_pairAt 17 [some (.ref 1), some (.int p0)] [.int ((((Int16.ofInt 256).toInt32) * q1.1) + q2.1)] (hp q2.2) 0 0 _
  cases hf
  exact Ev.iret .int rfl rfl (by decide +kernel) (Nat.le_refl _) (Nat.le_refl _)
def f_X8_size (p0 : Nat) (s : ST) : Option (ST) := (f_X5_takeWord (Int32.ofInt 0) s).bind (fun q1 => (f_X5_takeNumber (Int32.ofInt 2) (Int32.ofInt 5) q1).bind (fun q2 => gd (kk p0 4) (lt (uI q2.2 p0 0 q2.1) (fun s4 => (f_X5_takeWord (Int32.ofInt 1) s4).bind (fun q5 => (f_X5_takeNumber (Int32.ofInt 2) (Int32.ofInt 5) q5).bind (fun q6 => lt (uI q6.2 p0 1 q6.1) (fun s7 => (f_X5_takeWord (Int32.ofInt 2) s7).bind (fun q8 => (RR q8.2.2 p0 2).bind (fun a9 => (f_X5_takeNumber (Int32.ofInt 1) (Int32.ofInt 2) q8).bind (fun q10 => gd (kk a9 13) (gd (ib (Int32.ofInt 0) (K0 a9).2) (lt (uI q10.2 a9 (Int32.ofInt 0).toNatClampNeg q10.1) (fun s13 => (f_X5_takeWord (Int32.ofInt 3) s13).bind (fun q14 => (RR q14.2.2 p0 2).bind (fun a15 => (f_X5_takeNumber (Int32.ofInt 1) (Int32.ofInt 2) q14).bind (fun q16 => gd (kk a15 13) (gd (ib (Int32.ofInt 1) (K0 a15).2) (lt (uI q16.2 a15 (Int32.ofInt 1).toNatClampNeg q16.1) (fun s19 => some s19)))))))))))))))))))
set_option maxHeartbeats 2000000 in
set_option maxRecDepth 20000 in
theorem e_X8_size {l : Launch} {d : Nat} (hd : 8 ≤ d) (p0 : Nat) (s : ST) (r : ST) (hf : f_X8_size p0 s = some r) : Cl l d mi_X8_size [.ref 4, .ref p0] (hp s) (none, hp r) := by
  refine Ev.entry (by decide +kernel) rfl rfl ?_
  show Ev l d mi_X8_size 0 [some (.ref 4), some (.ref p0)] [] (hp s) 0 0 _
  unfold f_X8_size at hf
  refine Ev.blk (pc' := 5) [(.aload_n 0, 0, 0, 0), (.getfield 9, 0, 8, 0), (.iconst 0, 0, 0, 0)] (by decide +kernel) ⟨kf_8_9, trivial⟩ rfl (And.intro (kc rfl rfl) (Exists.intro 3 (And.intro rfl (?_))))
  show Ev l d mi_X8_size 5 [some (.ref 4), some (.ref p0)] [.int (Int32.ofInt 0), .ref 3] (hp s) 0 0 _
  obtain ⟨q1, hq1, hf⟩ := bd_some hf
  refine Ev.callV (o := 3) (M' := mi_X5_takeWord) (d' := d - 1) (As := [.int (Int32.ofInt 0)]) (rest := []) (r' := (none, hp q1)) (e_X5_takeWord (d := d - 1) (by omega) (Int32.ofInt 0) s _ hq1) (by omega) wm_X5_takeWord wi_X5_takeWord wv_X5_takeWord km_8_62 (kc rfl rfl) (Nat.le_of_ble_eq_true rfl) rfl rfl rfl (Nat.le_of_ble_eq_true rfl) ⟨Nat.le_of_ble_eq_true rfl, Nat.le_of_ble_eq_true rfl⟩ (by decide +kernel) ?_
  show Ev l d mi_X8_size 8 [some (.ref 4), some (.ref p0)] [] (hp q1) 0 0 _
  refine Ev.blk (pc' := 15) [(.aload_n 1, 0, 0, 0), (.aload_n 0, 0, 0, 0), (.getfield 9, 0, 8, 0), (.iconst 2, 0, 0, 0), (.iconst 5, 0, 0, 0)] (by decide +kernel) ⟨kf_8_9, trivial⟩ rfl (And.intro (kc rfl rfl) (Exists.intro 3 (And.intro rfl (?_))))
  show Ev l d mi_X8_size 15 [some (.ref 4), some (.ref p0)] [.int (Int32.ofInt 5), .int (Int32.ofInt 2), .ref 3, .ref p0] (hp q1) 0 0 _
  obtain ⟨q2, hq2, hf⟩ := bd_some hf
  refine Ev.callV (o := 3) (M' := mi_X5_takeNumber) (d' := d - 1) (As := [.int (Int32.ofInt 2), .int (Int32.ofInt 5)]) (rest := [.ref p0]) (r' := (some (.int q2.1), hp q2.2)) (e_X5_takeNumber (d := d - 1) (by omega) (Int32.ofInt 2) (Int32.ofInt 5) q1 _ hq2) (by omega) wm_X5_takeNumber wi_X5_takeNumber wv_X5_takeNumber km_8_66 (kc rfl rfl) (Nat.le_of_ble_eq_true rfl) rfl rfl rfl (Nat.le_of_ble_eq_true rfl) ⟨Nat.le_of_ble_eq_true rfl, Nat.le_of_ble_eq_true rfl⟩ (by decide +kernel) ?_
  show Ev l d mi_X8_size 18 [some (.ref 4), some (.ref p0)] [.int q2.1, .ref p0] (hp q2.2) 0 0 _
  obtain ⟨c3, hf⟩ := gd_some hf
  obtain ⟨s4, hs4, hf⟩ := lt_some hf
  refine Ev.blk (pc' := 26) [(.putfield 70, 0, 4, 0), (.aload_n 0, 0, 0, 0), (.getfield 9, 0, 8, 0), (.iconst 1, 0, 0, 0)] (by decide +kernel) ⟨⟨kf_8_70, Or.inl rfl⟩, ⟨kf_8_9, trivial⟩⟩ rfl (And.intro (kk_ok c3) (And.intro (kc rfl rfl) (Exists.intro 3 (And.intro rfl (?_)))))
  show Ev l d mi_X8_size 26 [some (.ref 4), some (.ref p0)] [.int (Int32.ofInt 1), .ref 3] (hp (uI q2.2 p0 0 q2.1)) 0 0 _
  rw [← hs4]
  obtain ⟨q5, hq5, hf⟩ := bd_some hf
  refine Ev.callV (o := 3) (M' := mi_X5_takeWord) (d' := d - 1) (As := [.int (Int32.ofInt 1)]) (rest := []) (r' := (none, hp q5)) (e_X5_takeWord (d := d - 1) (by omega) (Int32.ofInt 1) s4 _ hq5) (by omega) wm_X5_takeWord wi_X5_takeWord wv_X5_takeWord km_8_62 (kc rfl rfl) (Nat.le_of_ble_eq_true rfl) rfl rfl rfl (Nat.le_of_ble_eq_true rfl) ⟨Nat.le_of_ble_eq_true rfl, Nat.le_of_ble_eq_true rfl⟩ (by decide +kernel) ?_
  show Ev l d mi_X8_size 29 [some (.ref 4), some (.ref p0)] [] (hp q5) 0 0 _
  refine Ev.blk (pc' := 36) [(.aload_n 1, 0, 0, 0), (.aload_n 0, 0, 0, 0), (.getfield 9, 0, 8, 0), (.iconst 2, 0, 0, 0), (.iconst 5, 0, 0, 0)] (by decide +kernel) ⟨kf_8_9, trivial⟩ rfl (And.intro (kc rfl rfl) (Exists.intro 3 (And.intro rfl (?_))))
  show Ev l d mi_X8_size 36 [some (.ref 4), some (.ref p0)] [.int (Int32.ofInt 5), .int (Int32.ofInt 2), .ref 3, .ref p0] (hp q5) 0 0 _
  obtain ⟨q6, hq6, hf⟩ := bd_some hf
  refine Ev.callV (o := 3) (M' := mi_X5_takeNumber) (d' := d - 1) (As := [.int (Int32.ofInt 2), .int (Int32.ofInt 5)]) (rest := [.ref p0]) (r' := (some (.int q6.1), hp q6.2)) (e_X5_takeNumber (d := d - 1) (by omega) (Int32.ofInt 2) (Int32.ofInt 5) q5 _ hq6) (by omega) wm_X5_takeNumber wi_X5_takeNumber wv_X5_takeNumber km_8_66 (kc rfl rfl) (Nat.le_of_ble_eq_true rfl) rfl rfl rfl (Nat.le_of_ble_eq_true rfl) ⟨Nat.le_of_ble_eq_true rfl, Nat.le_of_ble_eq_true rfl⟩ (by decide +kernel) ?_
  show Ev l d mi_X8_size 39 [some (.ref 4), some (.ref p0)] [.int q6.1, .ref p0] (hp q6.2) 0 0 _
  obtain ⟨s7, hs7, hf⟩ := lt_some hf
  refine Ev.blk (pc' := 47) [(.putfield 73, 0, 4, 1), (.aload_n 0, 0, 0, 0), (.getfield 9, 0, 8, 0), (.iconst 2, 0, 0, 0)] (by decide +kernel) ⟨⟨kf_8_73, Or.inl rfl⟩, ⟨kf_8_9, trivial⟩⟩ rfl (And.intro (kk_ok c3) (And.intro (kc rfl rfl) (Exists.intro 3 (And.intro rfl (?_)))))
  show Ev l d mi_X8_size 47 [some (.ref 4), some (.ref p0)] [.int (Int32.ofInt 2), .ref 3] (hp (uI q6.2 p0 1 q6.1)) 0 0 _
  rw [← hs7]
  obtain ⟨q8, hq8, hf⟩ := bd_some hf
  refine Ev.callV (o := 3) (M' := mi_X5_takeWord) (d' := d - 1) (As := [.int (Int32.ofInt 2)]) (rest := []) (r' := (none, hp q8)) (e_X5_takeWord (d := d - 1) (by omega) (Int32.ofInt 2) s7 _ hq8) (by omega) wm_X5_takeWord wi_X5_takeWord wv_X5_takeWord km_8_62 (kc rfl rfl) (Nat.le_of_ble_eq_true rfl) rfl rfl rfl (Nat.le_of_ble_eq_true rfl) ⟨Nat.le_of_ble_eq_true rfl, Nat.le_of_ble_eq_true rfl⟩ (by decide +kernel) ?_
  show Ev l d mi_X8_size 50 [some (.ref 4), some (.ref p0)] [] (hp q8) 0 0 _
  obtain ⟨a9, ha9, hf⟩ := bd_some hf
  refine Ev.blk (pc' := 61) [(.aload_n 1, 0, 0, 0), (.getfield 76, 0, 4, 2), (.iconst 0, 0, 0, 0), (.aload_n 0, 0, 0, 0), (.getfield 9, 0, 8, 0), (.iconst 1, 0, 0, 0), (.iconst 2, 0, 0, 0)] (by decide +kernel) ⟨kf_8_76, ⟨kf_8_9, trivial⟩⟩ rfl (And.intro (kk_ok c3) (Exists.intro a9 (And.intro ha9 (And.intro (kc rfl rfl) (Exists.intro 3 (And.intro rfl (?_)))))))
  show Ev l d mi_X8_size 61 [some (.ref 4), some (.ref p0)] [.int (Int32.ofInt 2), .int (Int32.ofInt 1), .ref 3, .int (Int32.ofInt 0), .ref a9] (hp q8) 0 0 _
  obtain ⟨q10, hq10, hf⟩ := bd_some hf
  refine Ev.callV (o := 3) (M' := mi_X5_takeNumber) (d' := d - 1) (As := [.int (Int32.ofInt 1), .int (Int32.ofInt 2)]) (rest := [.int (Int32.ofInt 0), .ref a9]) (r' := (some (.int q10.1), hp q10.2)) (e_X5_takeNumber (d := d - 1) (by omega) (Int32.ofInt 1) (Int32.ofInt 2) q8 _ hq10) (by omega) wm_X5_takeNumber wi_X5_takeNumber wv_X5_takeNumber km_8_66 (kc rfl rfl) (Nat.le_of_ble_eq_true rfl) rfl rfl rfl (Nat.le_of_ble_eq_true rfl) ⟨Nat.le_of_ble_eq_true rfl, Nat.le_of_ble_eq_true rfl⟩ (by decide +kernel) ?_
  show Ev l d mi_X8_size 64 [some (.ref 4), some (.ref p0)] [.int q10.1, .int (Int32.ofInt 0), .ref a9] (hp q10.2) 0 0 _
  obtain ⟨c11, hf⟩ := gd_some hf
  obtain ⟨c12, hf⟩ := gd_some hf
  obtain ⟨s13, hs13, hf⟩ := lt_some hf
  refine Ev.blk (pc' := 70) [(.iastore, 0, 0, 0), (.aload_n 0, 0, 0, 0), (.getfield 9, 0, 8, 0), (.iconst 3, 0, 0, 0)] (by decide +kernel) ⟨kf_8_9, trivial⟩ rfl (And.intro (kk_ok c11) (And.intro (ib_ok c12) (And.intro (kc rfl rfl) (Exists.intro 3 (And.intro rfl (?_))))))
  show Ev l d mi_X8_size 70 [some (.ref 4), some (.ref p0)] [.int (Int32.ofInt 3), .ref 3] (hp (uI q10.2 a9 (Int32.ofInt 0).toNatClampNeg q10.1)) 0 0 _
  rw [← hs13]
  obtain ⟨q14, hq14, hf⟩ := bd_some hf
  refine Ev.callV (o := 3) (M' := mi_X5_takeWord) (d' := d - 1) (As := [.int (Int32.ofInt 3)]) (rest := []) (r' := (none, hp q14)) (e_X5_takeWord (d := d - 1) (by omega) (Int32.ofInt 3) s13 _ hq14) (by omega) wm_X5_takeWord wi_X5_takeWord wv_X5_takeWord km_8_62 (kc rfl rfl) (Nat.le_of_ble_eq_true rfl) rfl rfl rfl (Nat.le_of_ble_eq_true rfl) ⟨Nat.le_of_ble_eq_true rfl, Nat.le_of_ble_eq_true rfl⟩ (by decide +kernel) ?_
  show Ev l d mi_X8_size 73 [some (.ref 4), some (.ref p0)] [] (hp q14) 0 0 _
  obtain ⟨a15, ha15, hf⟩ := bd_some hf
  refine Ev.blk (pc' := 84) [(.aload_n 1, 0, 0, 0), (.getfield 76, 0, 4, 2), (.iconst 1, 0, 0, 0), (.aload_n 0, 0, 0, 0), (.getfield 9, 0, 8, 0), (.iconst 1, 0, 0, 0), (.iconst 2, 0, 0, 0)] (by decide +kernel) ⟨kf_8_76, ⟨kf_8_9, trivial⟩⟩ rfl (And.intro (kk_ok c3) (Exists.intro a15 (And.intro ha15 (And.intro (kc rfl rfl) (Exists.intro 3 (And.intro rfl (?_)))))))
  show Ev l d mi_X8_size 84 [some (.ref 4), some (.ref p0)] [.int (Int32.ofInt 2), .int (Int32.ofInt 1), .ref 3, .int (Int32.ofInt 1), .ref a15] (hp q14) 0 0 _
  obtain ⟨q16, hq16, hf⟩ := bd_some hf
  refine Ev.callV (o := 3) (M' := mi_X5_takeNumber) (d' := d - 1) (As := [.int (Int32.ofInt 1), .int (Int32.ofInt 2)]) (rest := [.int (Int32.ofInt 1), .ref a15]) (r' := (some (.int q16.1), hp q16.2)) (e_X5_takeNumber (d := d - 1) (by omega) (Int32.ofInt 1) (Int32.ofInt 2) q14 _ hq16) (by omega) wm_X5_takeNumber wi_X5_takeNumber wv_X5_takeNumber km_8_66 (kc rfl rfl) (Nat.le_of_ble_eq_true rfl) rfl rfl rfl (Nat.le_of_ble_eq_true rfl) ⟨Nat.le_of_ble_eq_true rfl, Nat.le_of_ble_eq_true rfl⟩ (by decide +kernel) ?_
  show Ev l d mi_X8_size 87 [some (.ref 4), some (.ref p0)] [.int q16.1, .int (Int32.ofInt 1), .ref a15] (hp q16.2) 0 0 _
  obtain ⟨c17, hf⟩ := gd_some hf
  obtain ⟨c18, hf⟩ := gd_some hf
  obtain ⟨s19, hs19, hf⟩ := lt_some hf
  refine Ev.blk (pc' := 88) [(.iastore, 0, 0, 0)] (by decide +kernel) trivial rfl (And.intro (kk_ok c17) (And.intro (ib_ok c18) (?_)))
  show Ev l d mi_X8_size 88 [some (.ref 4), some (.ref p0)] [] (hp (uI q16.2 a15 (Int32.ofInt 1).toNatClampNeg q16.1)) 0 0 _
  rw [← hs19]
  cases hf
  exact Ev.vret rfl (by decide +kernel) (Nat.le_refl _) (Nat.le_refl _)
def f_X8_begins (p0 : Int32) (p1 : Int32) (s : ST) : Option (Int32 × ST) := (if p0 < p1 then (f_X5_step s).bind (fun q2 => some ((Int32.ofInt 1), q2)) else (f_X5_fail (Int32.ofInt 5) (s.1 3 1) s).bind (fun q3 => some ((Int32.ofInt 0), q3)))
set_option maxHeartbeats 2000000 in
set_option maxRecDepth 20000 in
theorem e_X8_begins {l : Launch} {d : Nat} (hd : 7 ≤ d) (p0 : Int32) (p1 : Int32) (s : ST) (r : Int32 × ST) (hf : f_X8_begins p0 p1 s = some r) : Cl l d mi_X8_begins [.ref 4, .int p0, .int p1] (hp s) (some (.int r.1), hp r.2) := by
  refine Ev.entry (by decide +kernel) rfl rfl ?_
  show Ev l d mi_X8_begins 0 [some (.ref 4), some (.int p0), some (.int p1)] [] (hp s) 0 0 _
  unfold f_X8_begins at hf
  refine Ev.blk (pc' := 2) [(.iload_n 1, 0, 0, 0), (.iload_n 2, 0, 0, 0)] (by decide +kernel) trivial rfl (?_)
  show Ev l d mi_X8_begins 2 [some (.ref 4), some (.int p0), some (.int p1)] [.int p1, .int p0] (hp s) 0 0 _
  refine Ev.icmp_lt (off := 20) (tgt := 22) (by decide +kernel) (by decide) (fun b1 => ?_) (fun b1 => ?_)
  · have hf := (if_pos b1).symm.trans hf
    refine Ev.blk (pc' := 26) [(.aload_n 0, 0, 0, 0), (.getfield 9, 0, 8, 0)] (by decide +kernel) ⟨kf_8_9, trivial⟩ rfl (And.intro (kc rfl rfl) (Exists.intro 3 (And.intro rfl (?_))))
    show Ev l d mi_X8_begins 26 [some (.ref 4), some (.int p0), some (.int p1)] [.ref 3] (hp s) 0 0 _
    obtain ⟨q2, hq2, hf⟩ := bd_some hf
    refine Ev.callV (o := 3) (M' := mi_X5_step) (d' := d - 1) (As := []) (rest := []) (r' := (none, hp q2)) (e_X5_step (d := d - 1) (by omega) s _ hq2) (by omega) wm_X5_step wi_X5_step wv_X5_step km_8_110 (kc rfl rfl) (Nat.le_of_ble_eq_true rfl) rfl rfl rfl (Nat.le_of_ble_eq_true rfl) ⟨Nat.le_of_ble_eq_true rfl, Nat.le_of_ble_eq_true rfl⟩ (by decide +kernel) ?_
    show Ev l d mi_X8_begins 29 [some (.ref 4), some (.int p0), some (.int p1)] [] (hp q2) 0 0 _
    refine Ev.blk (pc' := 30) [(.iconst 1, 0, 0, 0)] (by decide +kernel) trivial rfl (?_)
    show Ev l d mi_X8_begins 30 [some (.ref 4), some (.int p0), some (.int p1)] [.int (Int32.ofInt 1)] (hp q2) 0 0 _
    cases hf
    exact Ev.iret .boolean rfl rfl (by decide +kernel) (Nat.le_refl _) (Nat.le_refl _)
  · have hf := (if_neg b1).symm.trans hf
    refine Ev.blk (pc' := 17) [(.aload_n 0, 0, 0, 0), (.getfield 9, 0, 8, 0), (.iconst 5, 0, 0, 0), (.aload_n 0, 0, 0, 0), (.getfield 9, 0, 8, 0), (.getfield 41, 0, 5, 1)] (by decide +kernel) ⟨kf_8_9, ⟨kf_8_9, ⟨kf_8_41, trivial⟩⟩⟩ rfl (And.intro (kc rfl rfl) (Exists.intro 3 (And.intro rfl (And.intro (kc rfl rfl) (Exists.intro 3 (And.intro rfl (And.intro (kc rfl rfl) (?_))))))))
    show Ev l d mi_X8_begins 17 [some (.ref 4), some (.int p0), some (.int p1)] [.int (s.1 3 1), .int (Int32.ofInt 5), .ref 3] (hp s) 0 0 _
    obtain ⟨q3, hq3, hf⟩ := bd_some hf
    refine Ev.callV (o := 3) (M' := mi_X5_fail) (d' := d - 1) (As := [.int (Int32.ofInt 5), .int (s.1 3 1)]) (rest := []) (r' := (none, hp q3)) (e_X5_fail (d := d - 1) (by omega) (Int32.ofInt 5) (s.1 3 1) s _ hq3) (by omega) wm_X5_fail wi_X5_fail wv_X5_fail km_8_44 (kc rfl rfl) (Nat.le_of_ble_eq_true rfl) rfl rfl rfl (Nat.le_of_ble_eq_true rfl) ⟨Nat.le_of_ble_eq_true rfl, Nat.le_of_ble_eq_true rfl⟩ (by decide +kernel) ?_
    show Ev l d mi_X8_begins 20 [some (.ref 4), some (.int p0), some (.int p1)] [] (hp q3) 0 0 _
    refine Ev.blk (pc' := 21) [(.iconst 0, 0, 0, 0)] (by decide +kernel) trivial rfl (?_)
    show Ev l d mi_X8_begins 21 [some (.ref 4), some (.int p0), some (.int p1)] [.int (Int32.ofInt 0)] (hp q3) 0 0 _
    cases hf
    exact Ev.iret .boolean rfl rfl (by decide +kernel) (Nat.le_refl _) (Nat.le_refl _)
def f_X8_newName_j33 (x1 : Nat) (x2 : Int32) (x3 : Int32) (s : ST) : Option (ST) := gd (kk x1 4) ((RR s.2.2 x1 15).bind (fun a7 => gd (kk a7 13) (gd (ib x2 (K0 a7).2) (lt (uI s a7 x2.toNatClampNeg x3) (fun s10 => (f_X5_step s10).bind (fun q11 => some q11))))))
set_option maxHeartbeats 2000000 in
set_option maxRecDepth 20000 in
theorem e_X8_newName_j33 {l : Launch} {d : Nat} (hd : 7 ≤ d) (x1 : Nat) (x2 : Int32) (x3 : Int32) (s : ST) (r : ST) (hf : f_X8_newName_j33 x1 x2 x3 s = some r) : Ev l d mi_X8_newName 33 [some (.ref 4), some (.ref x1), some (.int x2), some (.int x3)] [] (hp s) 0 0 (none, hp r) := by
  unfold f_X8_newName_j33 at hf
  obtain ⟨c6, hf⟩ := gd_some hf
  obtain ⟨a7, ha7, hf⟩ := bd_some hf
  obtain ⟨c8, hf⟩ := gd_some hf
  obtain ⟨c9, hf⟩ := gd_some hf
  obtain ⟨s10, hs10, hf⟩ := lt_some hf
  refine Ev.blk (pc' := 44) [(.aload_n 1, 0, 0, 0), (.getfield 177, 0, 4, 15), (.iload_n 2, 0, 0, 0), (.iload_n 3, 0, 0, 0), (.iastore, 0, 0, 0), (.aload_n 0, 0, 0, 0), (.getfield 9, 0, 8, 0)] (by decide +kernel) ⟨kf_8_177, ⟨kf_8_9, trivial⟩⟩ rfl (And.intro (kk_ok c6) (Exists.intro a7 (And.intro ha7 (And.intro (kk_ok c8) (And.intro (ib_ok c9) (And.intro (kc rfl rfl) (Exists.intro 3 (And.intro rfl (?_)))))))))
  show Ev l d mi_X8_newName 44 [some (.ref 4), some (.ref x1), some (.int x2), some (.int x3)] [.ref 3] (hp (uI s a7 x2.toNatClampNeg x3)) 0 0 _
  rw [← hs10]
  obtain ⟨q11, hq11, hf⟩ := bd_some hf
  refine Ev.callV (o := 3) (M' := mi_X5_step) (d' := d - 1) (As := []) (rest := []) (r' := (none, hp q11)) (e_X5_step (d := d - 1) (by omega) s10 _ hq11) (by omega) wm_X5_step wi_X5_step wv_X5_step km_8_110 (kc rfl rfl) (Nat.le_of_ble_eq_true rfl) rfl rfl rfl (Nat.le_of_ble_eq_true rfl) ⟨Nat.le_of_ble_eq_true rfl, Nat.le_of_ble_eq_true rfl⟩ (by decide +kernel) ?_
  show Ev l d mi_X8_newName 47 [some (.ref 4), some (.ref x1), some (.int x2), some (.int x3)] [] (hp q11) 0 0 _
  cases hf
  exact Ev.vret rfl (by decide +kernel) (Nat.le_refl _) (Nat.le_refl _)
def f_X8_newName (p0 : Nat) (p1 : Int32) (s : ST) : Option (ST) := (f_X5_nameAtHand s).bind (fun q1 => (f_X4_slotOf p0 q1.1 ((Int8.ofInt 19).toInt32) q1.2).bind (fun q2 => gd (kk p0 4) ((if q2.1 < 0 then f_X8_newName_j33 p0 p1 q1.1 q2.2 else (f_X5_fail (Int32.ofInt 3) (q2.2.1 3 1) q2.2).bind (fun q5 => f_X8_newName_j33 p0 p1 q1.1 q5)))))
set_option maxHeartbeats 2000000 in
set_option maxRecDepth 20000 in
theorem e_X8_newName {l : Launch} {d : Nat} (hd : 7 ≤ d) (p0 : Nat) (p1 : Int32) (s : ST) (r : ST) (hf : f_X8_newName p0 p1 s = some r) : Cl l d mi_X8_newName [.ref 4, .ref p0, .int p1] (hp s) (none, hp r) := by
  refine Ev.entry (by decide +kernel) rfl rfl ?_
  show Ev l d mi_X8_newName 0 [some (.ref 4), some (.ref p0), some (.int p1), none] [] (hp s) 0 0 _
  unfold f_X8_newName at hf
  refine Ev.blk (pc' := 4) [(.aload_n 0, 0, 0, 0), (.getfield 9, 0, 8, 0)] (by decide +kernel) ⟨kf_8_9, trivial⟩ rfl (And.intro (kc rfl rfl) (Exists.intro 3 (And.intro rfl (?_))))
  show Ev l d mi_X8_newName 4 [some (.ref 4), some (.ref p0), some (.int p1), none] [.ref 3] (hp s) 0 0 _
  obtain ⟨q1, hq1, hf⟩ := bd_some hf
  refine Ev.callV (o := 3) (M' := mi_X5_nameAtHand) (d' := d - 1) (As := []) (rest := []) (r' := (some (.int q1.1), hp q1.2)) (e_X5_nameAtHand (d := d - 1) (by omega) s _ hq1) (by omega) wm_X5_nameAtHand wi_X5_nameAtHand wv_X5_nameAtHand km_8_170 (kc rfl rfl) (Nat.le_of_ble_eq_true rfl) rfl rfl rfl (Nat.le_of_ble_eq_true rfl) ⟨Nat.le_of_ble_eq_true rfl, Nat.le_of_ble_eq_true rfl⟩ (by decide +kernel) ?_
  show Ev l d mi_X8_newName 7 [some (.ref 4), some (.ref p0), some (.int p1), none] [.int q1.1] (hp q1.2) 0 0 _
  refine Ev.blk (pc' := 12) [(.istore_n 3, 0, 0, 0), (.aload_n 1, 0, 0, 0), (.iload_n 3, 0, 0, 0), (.bipush 19, 0, 0, 0)] (by decide +kernel) trivial rfl (And.intro (Nat.le_of_ble_eq_true rfl) (?_))
  show Ev l d mi_X8_newName 12 [some (.ref 4), some (.ref p0), some (.int p1), some (.int q1.1)] [.int ((Int8.ofInt 19).toInt32), .int q1.1, .ref p0] (hp q1.2) 0 0 _
  obtain ⟨q2, hq2, hf⟩ := bd_some hf
  obtain ⟨c3, hf⟩ := gd_some hf
  refine Ev.callV (o := p0) (M' := mi_X4_slotOf) (d' := d - 1) (As := [.int q1.1, .int ((Int8.ofInt 19).toInt32)]) (rest := []) (r' := (some (.int q2.1), hp q2.2)) (e_X4_slotOf (d := d - 1) (by omega) p0 q1.1 ((Int8.ofInt 19).toInt32) q1.2 _ hq2) (by omega) wm_X4_slotOf wi_X4_slotOf wv_X4_slotOf km_8_174 (kk_ok c3) (Nat.le_of_ble_eq_true rfl) rfl rfl rfl (Nat.le_of_ble_eq_true rfl) ⟨Nat.le_of_ble_eq_true rfl, Nat.le_of_ble_eq_true rfl⟩ (by decide +kernel) ?_
  show Ev l d mi_X8_newName 15 [some (.ref 4), some (.ref p0), some (.int p1), some (.int q1.1)] [.int q2.1] (hp q2.2) 0 0 _
  refine Ev.if_lt (off := 18) (tgt := 33) (by decide +kernel) (by decide) (fun b4 => ?_) (fun b4 => ?_)
  · have hf := (if_pos b4).symm.trans hf
    exact (e_X8_newName_j33 hd) p0 p1 q1.1 q2.2 _ hf
  · have hf := (if_neg b4).symm.trans hf
    refine Ev.blk (pc' := 30) [(.aload_n 0, 0, 0, 0), (.getfield 9, 0, 8, 0), (.iconst 3, 0, 0, 0), (.aload_n 0, 0, 0, 0), (.getfield 9, 0, 8, 0), (.getfield 41, 0, 5, 1)] (by decide +kernel) ⟨kf_8_9, ⟨kf_8_9, ⟨kf_8_41, trivial⟩⟩⟩ rfl (And.intro (kc rfl rfl) (Exists.intro 3 (And.intro rfl (And.intro (kc rfl rfl) (Exists.intro 3 (And.intro rfl (And.intro (kc rfl rfl) (?_))))))))
    show Ev l d mi_X8_newName 30 [some (.ref 4), some (.ref p0), some (.int p1), some (.int q1.1)] [.int (q2.2.1 3 1), .int (Int32.ofInt 3), .ref 3] (hp q2.2) 0 0 _
    obtain ⟨q5, hq5, hf⟩ := bd_some hf
    refine Ev.callV (o := 3) (M' := mi_X5_fail) (d' := d - 1) (As := [.int (Int32.ofInt 3), .int (q2.2.1 3 1)]) (rest := []) (r' := (none, hp q5)) (e_X5_fail (d := d - 1) (by omega) (Int32.ofInt 3) (q2.2.1 3 1) q2.2 _ hq5) (by omega) wm_X5_fail wi_X5_fail wv_X5_fail km_8_44 (kc rfl rfl) (Nat.le_of_ble_eq_true rfl) rfl rfl rfl (Nat.le_of_ble_eq_true rfl) ⟨Nat.le_of_ble_eq_true rfl, Nat.le_of_ble_eq_true rfl⟩ (by decide +kernel) ?_
    show Ev l d mi_X8_newName 33 [some (.ref 4), some (.ref p0), some (.int p1), some (.int q1.1)] [] (hp q5) 0 0 _
    exact (e_X8_newName_j33 hd) p0 p1 q1.1 q5 _ hf
def f_X8_newField (p0 : Nat) (s : ST) : Option (ST) := gd (kk p0 4) ((f_X8_begins (s.1 p0 12) ((Int8.ofInt 6).toInt32) s).bind (fun q2 => (if q2.1 = 0 then some q2.2 else (f_X8_newName p0 (((Int8.ofInt 13).toInt32) + (s.1 p0 12)) q2.2).bind (fun q4 => (f_X5_takeWord ((Int8.ofInt 12).toInt32) q4).bind (fun q5 => (f_X5_takeNumber (Int32.ofInt 0) ((q5.1 p0 0) - (Int32.ofInt 1)) q5).bind (fun q6 => (f_X5_takeNumber (Int32.ofInt 0) ((q6.2.1 p0 1) - (Int32.ofInt 1)) q6.2).bind (fun q7 => (f_X5_takeWord ((Int8.ofInt 14).toInt32) q7.2).bind (fun q8 => (RR q8.2.2 p0 13).bind (fun a9 => gd (kk a9 13) (gd (ib (s.1 p0 12) (K0 a9).2) ((RR (uI q8 a9 (s.1 p0 12).toNatClampNeg ((q7.1 * (Int32.ofInt 5)) + q6.1)).2.2 p0 14).bind (fun a12 => lt (uI q8 a9 (s.1 p0 12).toNatClampNeg ((q7.1 * (Int32.ofInt 5)) + q6.1)) (fun s13 => (f_X5_takeNumber (Int32.ofInt 1) ((Int16.ofInt 999).toInt32) s13).bind (fun q14 => gd (kk a12 13) (gd (ib (s.1 p0 12) (K0 a12).2) (lt (uI (uI q14.2 a12 (s.1 p0 12).toNatClampNeg q14.1) p0 12 ((s.1 p0 12) + (Int32.ofInt 1))) (fun s17 => some s17)))))))))))))))))
set_option maxHeartbeats 2000000 in
set_option maxRecDepth 20000 in
theorem e_X8_newField {l : Launch} {d : Nat} (hd : 8 ≤ d) (p0 : Nat) (s : ST) (r : ST) (hf : f_X8_newField p0 s = some r) : Cl l d mi_X8_newField [.ref 4, .ref p0] (hp s) (none, hp r) := by
  refine Ev.entry (by decide +kernel) rfl rfl ?_
  show Ev l d mi_X8_newField 0 [some (.ref 4), some (.ref p0), none, none, none] [] (hp s) 0 0 _
  unfold f_X8_newField at hf
  obtain ⟨c1, hf⟩ := gd_some hf
  refine Ev.blk (pc' := 9) [(.aload_n 1, 0, 0, 0), (.getfield 161, 0, 4, 12), (.istore_n 2, 0, 0, 0), (.aload_n 0, 0, 0, 0), (.iload_n 2, 0, 0, 0), (.bipush 6, 0, 0, 0)] (by decide +kernel) ⟨kf_8_161, trivial⟩ rfl (And.intro (kk_ok c1) (And.intro (Nat.le_of_ble_eq_true rfl) (?_)))
  show Ev l d mi_X8_newField 9 [some (.ref 4), some (.ref p0), some (.int (s.1 p0 12)), none, none] [.int ((Int8.ofInt 6).toInt32), .int (s.1 p0 12), .ref 4] (hp s) 0 0 _
  obtain ⟨q2, hq2, hf⟩ := bd_some hf
  refine Ev.callV (o := 4) (M' := mi_X8_begins) (d' := d - 1) (As := [.int (s.1 p0 12), .int ((Int8.ofInt 6).toInt32)]) (rest := []) (r' := (some (.int q2.1), hp q2.2)) (e_X8_begins (d := d - 1) (by omega) (s.1 p0 12) ((Int8.ofInt 6).toInt32) s _ hq2) (by omega) wm_X8_begins wi_X8_begins wv_X8_begins km_8_95 (kc rfl rfl) (Nat.le_of_ble_eq_true rfl) rfl rfl rfl (Nat.le_of_ble_eq_true rfl) ⟨Nat.le_of_ble_eq_true rfl, Nat.le_of_ble_eq_true rfl⟩ (by decide +kernel) ?_
  show Ev l d mi_X8_newField 12 [some (.ref 4), some (.ref p0), some (.int (s.1 p0 12)), none, none] [.int q2.1] (hp q2.2) 0 0 _
  refine Ev.if_ne (off := 4) (tgt := 16) (by decide +kernel) (by decide) (fun b3 => ?_) (fun b3 => ?_)
  · have hf := (if_neg b3).symm.trans hf
    refine Ev.blk (pc' := 22) [(.aload_n 0, 0, 0, 0), (.aload_n 1, 0, 0, 0), (.bipush 13, 0, 0, 0), (.iload_n 2, 0, 0, 0), (.iadd, 0, 0, 0)] (by decide +kernel) trivial rfl (?_)
    show Ev l d mi_X8_newField 22 [some (.ref 4), some (.ref p0), some (.int (s.1 p0 12)), none, none] [.int (((Int8.ofInt 13).toInt32) + (s.1 p0 12)), .ref p0, .ref 4] (hp q2.2) 0 0 _
    obtain ⟨q4, hq4, hf⟩ := bd_some hf
    refine Ev.callV (o := 4) (M' := mi_X8_newName) (d' := d - 1) (As := [.ref p0, .int (((Int8.ofInt 13).toInt32) + (s.1 p0 12))]) (rest := []) (r' := (none, hp q4)) (e_X8_newName (d := d - 1) (by omega) p0 (((Int8.ofInt 13).toInt32) + (s.1 p0 12)) q2.2 _ hq4) (by omega) wm_X8_newName wi_X8_newName wv_X8_newName km_8_122 (kc rfl rfl) (Nat.le_of_ble_eq_true rfl) rfl rfl rfl (Nat.le_of_ble_eq_true rfl) ⟨Nat.le_of_ble_eq_true rfl, Nat.le_of_ble_eq_true rfl⟩ (by decide +kernel) ?_
    show Ev l d mi_X8_newField 25 [some (.ref 4), some (.ref p0), some (.int (s.1 p0 12)), none, none] [] (hp q4) 0 0 _
    refine Ev.blk (pc' := 31) [(.aload_n 0, 0, 0, 0), (.getfield 9, 0, 8, 0), (.bipush 12, 0, 0, 0)] (by decide +kernel) ⟨kf_8_9, trivial⟩ rfl (And.intro (kc rfl rfl) (Exists.intro 3 (And.intro rfl (?_))))
    show Ev l d mi_X8_newField 31 [some (.ref 4), some (.ref p0), some (.int (s.1 p0 12)), none, none] [.int ((Int8.ofInt 12).toInt32), .ref 3] (hp q4) 0 0 _
    obtain ⟨q5, hq5, hf⟩ := bd_some hf
    refine Ev.callV (o := 3) (M' := mi_X5_takeWord) (d' := d - 1) (As := [.int ((Int8.ofInt 12).toInt32)]) (rest := []) (r' := (none, hp q5)) (e_X5_takeWord (d := d - 1) (by omega) ((Int8.ofInt 12).toInt32) q4 _ hq5) (by omega) wm_X5_takeWord wi_X5_takeWord wv_X5_takeWord km_8_62 (kc rfl rfl) (Nat.le_of_ble_eq_true rfl) rfl rfl rfl (Nat.le_of_ble_eq_true rfl) ⟨Nat.le_of_ble_eq_true rfl, Nat.le_of_ble_eq_true rfl⟩ (by decide +kernel) ?_
    show Ev l d mi_X8_newField 34 [some (.ref 4), some (.ref p0), some (.int (s.1 p0 12)), none, none] [] (hp q5) 0 0 _
    refine Ev.blk (pc' := 45) [(.aload_n 0, 0, 0, 0), (.getfield 9, 0, 8, 0), (.iconst 0, 0, 0, 0), (.aload_n 1, 0, 0, 0), (.getfield 70, 0, 4, 0), (.iconst 1, 0, 0, 0), (.isub, 0, 0, 0)] (by decide +kernel) ⟨kf_8_9, ⟨kf_8_70, trivial⟩⟩ rfl (And.intro (kc rfl rfl) (Exists.intro 3 (And.intro rfl (And.intro (kk_ok c1) (?_)))))
    show Ev l d mi_X8_newField 45 [some (.ref 4), some (.ref p0), some (.int (s.1 p0 12)), none, none] [.int ((q5.1 p0 0) - (Int32.ofInt 1)), .int (Int32.ofInt 0), .ref 3] (hp q5) 0 0 _
    obtain ⟨q6, hq6, hf⟩ := bd_some hf
    refine Ev.callV (o := 3) (M' := mi_X5_takeNumber) (d' := d - 1) (As := [.int (Int32.ofInt 0), .int ((q5.1 p0 0) - (Int32.ofInt 1))]) (rest := []) (r' := (some (.int q6.1), hp q6.2)) (e_X5_takeNumber (d := d - 1) (by omega) (Int32.ofInt 0) ((q5.1 p0 0) - (Int32.ofInt 1)) q5 _ hq6) (by omega) wm_X5_takeNumber wi_X5_takeNumber wv_X5_takeNumber km_8_66 (kc rfl rfl) (Nat.le_of_ble_eq_true rfl) rfl rfl rfl (Nat.le_of_ble_eq_true rfl) ⟨Nat.le_of_ble_eq_true rfl, Nat.le_of_ble_eq_true rfl⟩ (by decide +kernel) ?_
    show Ev l d mi_X8_newField 48 [some (.ref 4), some (.ref p0), some (.int (s.1 p0 12)), none, none] [.int q6.1] (hp q6.2) 0 0 _
    refine Ev.blk (pc' := 60) [(.istore_n 3, 0, 0, 0), (.aload_n 0, 0, 0, 0), (.getfield 9, 0, 8, 0), (.iconst 0, 0, 0, 0), (.aload_n 1, 0, 0, 0), (.getfield 73, 0, 4, 1), (.iconst 1, 0, 0, 0), (.isub, 0, 0, 0)] (by decide +kernel) ⟨kf_8_9, ⟨kf_8_73, trivial⟩⟩ rfl (And.intro (Nat.le_of_ble_eq_true rfl) (And.intro (kc rfl rfl) (Exists.intro 3 (And.intro rfl (And.intro (kk_ok c1) (?_))))))
    show Ev l d mi_X8_newField 60 [some (.ref 4), some (.ref p0), some (.int (s.1 p0 12)), some (.int q6.1), none] [.int ((q6.2.1 p0 1) - (Int32.ofInt 1)), .int (Int32.ofInt 0), .ref 3] (hp q6.2) 0 0 _
    obtain ⟨q7, hq7, hf⟩ := bd_some hf
    refine Ev.callV (o := 3) (M' := mi_X5_takeNumber) (d' := d - 1) (As := [.int (Int32.ofInt 0), .int ((q6.2.1 p0 1) - (Int32.ofInt 1))]) (rest := []) (r' := (some (.int q7.1), hp q7.2)) (e_X5_takeNumber (d := d - 1) (by omega) (Int32.ofInt 0) ((q6.2.1 p0 1) - (Int32.ofInt 1)) q6.2 _ hq7) (by omega) wm_X5_takeNumber wi_X5_takeNumber wv_X5_takeNumber km_8_66 (kc rfl rfl) (Nat.le_of_ble_eq_true rfl) rfl rfl rfl (Nat.le_of_ble_eq_true rfl) ⟨Nat.le_of_ble_eq_true rfl, Nat.le_of_ble_eq_true rfl⟩ (by decide +kernel) ?_
    show Ev l d mi_X8_newField 63 [some (.ref 4), some (.ref p0), some (.int (s.1 p0 12)), some (.int q6.1), none] [.int q7.1] (hp q7.2) 0 0 _
    refine Ev.blk (pc' := 71) [(.istore 4, 0, 0, 0), (.aload_n 0, 0, 0, 0), (.getfield 9, 0, 8, 0), (.bipush 14, 0, 0, 0)] (by decide +kernel) ⟨kf_8_9, trivial⟩ rfl (And.intro (Nat.le_of_ble_eq_true rfl) (And.intro (kc rfl rfl) (Exists.intro 3 (And.intro rfl (?_)))))
    show Ev l d mi_X8_newField 71 [some (.ref 4), some (.ref p0), some (.int (s.1 p0 12)), some (.int q6.1), some (.int q7.1)] [.int ((Int8.ofInt 14).toInt32), .ref 3] (hp q7.2) 0 0 _
    obtain ⟨q8, hq8, hf⟩ := bd_some hf
    refine Ev.callV (o := 3) (M' := mi_X5_takeWord) (d' := d - 1) (As := [.int ((Int8.ofInt 14).toInt32)]) (rest := []) (r' := (none, hp q8)) (e_X5_takeWord (d := d - 1) (by omega) ((Int8.ofInt 14).toInt32) q7.2 _ hq8) (by omega) wm_X5_takeWord wi_X5_takeWord wv_X5_takeWord km_8_62 (kc rfl rfl) (Nat.le_of_ble_eq_true rfl) rfl rfl rfl (Nat.le_of_ble_eq_true rfl) ⟨Nat.le_of_ble_eq_true rfl, Nat.le_of_ble_eq_true rfl⟩ (by decide +kernel) ?_
    show Ev l d mi_X8_newField 74 [some (.ref 4), some (.ref p0), some (.int (s.1 p0 12)), some (.int q6.1), some (.int q7.1)] [] (hp q8) 0 0 _
    obtain ⟨a9, ha9, hf⟩ := bd_some hf
    obtain ⟨c10, hf⟩ := gd_some hf
    obtain ⟨c11, hf⟩ := gd_some hf
    obtain ⟨a12, ha12, hf⟩ := bd_some hf
    obtain ⟨s13, hs13, hf⟩ := lt_some hf
    refine Ev.blk (pc' := 99) [(.aload_n 1, 0, 0, 0), (.getfield 164, 0, 4, 13), (.iload_n 2, 0, 0, 0), (.iload 4, 0, 0, 0), (.iconst 5, 0, 0, 0), (.imul, 0, 0, 0), (.iload_n 3, 0, 0, 0), (.iadd, 0, 0, 0), (.iastore, 0, 0, 0), (.aload_n 1, 0, 0, 0), (.getfield 167, 0, 4, 14), (.iload_n 2, 0, 0, 0), (.aload_n 0, 0, 0, 0), (.getfield 9, 0, 8, 0), (.iconst 1, 0, 0, 0), (.sipush 999, 0, 0, 0)] (by decide +kernel) ⟨kf_8_164, ⟨kf_8_167, ⟨kf_8_9, trivial⟩⟩⟩ rfl (And.intro (kk_ok c1) (Exists.intro a9 (And.intro ha9 (And.intro (kk_ok c10) (And.intro (ib_ok c11) (And.intro (kk_ok c1) (Exists.intro a12 (And.intro ha12 (And.intro (kc rfl rfl) (Exists.intro 3 (And.intro rfl (?_))))))))))))
    show Ev l d mi_X8_newField 99 [some (.ref 4), some (.ref p0), some (.int (s.1 p0 12)), some (.int q6.1), some (.int q7.1)] [.int ((Int16.ofInt 999).toInt32), .int (Int32.ofInt 1), .ref 3, .int (s.1 p0 12), .ref a12] (hp (uI q8 a9 (s.1 p0 12).toNatClampNeg ((q7.1 * (Int32.ofInt 5)) + q6.1))) 0 0 _
    rw [← hs13]
    obtain ⟨q14, hq14, hf⟩ := bd_some hf
    refine Ev.callV (o := 3) (M' := mi_X5_takeNumber) (d' := d - 1) (As := [.int (Int32.ofInt 1), .int ((Int16.ofInt 999).toInt32)]) (rest := [.int (s.1 p0 12), .ref a12]) (r' := (some (.int q14.1), hp q14.2)) (e_X5_takeNumber (d := d - 1) (by omega) (Int32.ofInt 1) ((Int16.ofInt 999).toInt32) s13 _ hq14) (by omega) wm_X5_takeNumber wi_X5_takeNumber wv_X5_takeNumber km_8_66 (kc rfl rfl) (Nat.le_of_ble_eq_true rfl) rfl rfl rfl (Nat.le_of_ble_eq_true rfl) ⟨Nat.le_of_ble_eq_true rfl, Nat.le_of_ble_eq_true rfl⟩ (by decide +kernel) ?_
    show Ev l d mi_X8_newField 102 [some (.ref 4), some (.ref p0), some (.int (s.1 p0 12)), some (.int q6.1), some (.int q7.1)] [.int q14.1, .int (s.1 p0 12), .ref a12] (hp q14.2) 0 0 _
    obtain ⟨c15, hf⟩ := gd_some hf
    obtain ⟨c16, hf⟩ := gd_some hf
    obtain ⟨s17, hs17, hf⟩ := lt_some hf
    refine Ev.blk (pc' := 110) [(.iastore, 0, 0, 0), (.aload_n 1, 0, 0, 0), (.iload_n 2, 0, 0, 0), (.iconst 1, 0, 0, 0), (.iadd, 0, 0, 0), (.putfield 161, 0, 4, 12)] (by decide +kernel) ⟨⟨kf_8_161, Or.inl rfl⟩, trivial⟩ rfl (And.intro (kk_ok c15) (And.intro (ib_ok c16) (And.intro (kk_ok c1) (?_))))
    show Ev l d mi_X8_newField 110 [some (.ref 4), some (.ref p0), some (.int (s.1 p0 12)), some (.int q6.1), some (.int q7.1)] [] (hp (uI (uI q14.2 a12 (s.1 p0 12).toNatClampNeg q14.1) p0 12 ((s.1 p0 12) + (Int32.ofInt 1)))) 0 0 _
    rw [← hs17]
    cases hf
    exact Ev.vret rfl (by decide +kernel) (Nat.le_refl _) (Nat.le_refl _)
  · have hf := (if_pos b3).symm.trans hf
    cases hf
    exact Ev.vret rfl (by decide +kernel) (Nat.le_refl _) (Nat.le_refl _)
def f_X8_newKind_j128 (x1 : Nat) (x2 : Int32) (y0 : Nat) (y1 : Int32) (y2 : Int32) (s : ST) : Option (ST) := gd (kk y0 13) (gd (ib y1 (K0 y0).2) (gd (kk x1 4) (lt (uI (uI s y0 y1.toNatClampNeg y2) x1 3 (x2 + (Int32.ofInt 1))) (fun s32 => some s32))))
set_option maxHeartbeats 2000000 in
set_option maxRecDepth 20000 in
theorem e_X8_newKind_j128 {l : Launch} {d : Nat} (hd : 8 ≤ d) (x1 : Nat) (x2 : Int32) (y0 : Nat) (y1 : Int32) (y2 : Int32) (s : ST) (r : ST) (hf : f_X8_newKind_j128 x1 x2 y0 y1 y2 s = some r) : Ev l d mi_X8_newKind 128 [none, some (.ref x1), some (.int x2), none] [.int y2, .int y1, .ref y0] (hp s) 0 0 (none, hp r) := by
  unfold f_X8_newKind_j128 at hf
  obtain ⟨c29, hf⟩ := gd_some hf
  obtain ⟨c30, hf⟩ := gd_some hf
  obtain ⟨c31, hf⟩ := gd_some hf
  obtain ⟨s32, hs32, hf⟩ := lt_some hf
  refine Ev.blk (pc' := 136) [(.iastore, 0, 0, 0), (.aload_n 1, 0, 0, 0), (.iload_n 2, 0, 0, 0), (.iconst 1, 0, 0, 0), (.iadd, 0, 0, 0), (.putfield 119, 0, 4, 3)] (by decide +kernel) ⟨⟨kf_8_119, Or.inl rfl⟩, trivial⟩ rfl (And.intro (kk_ok c29) (And.intro (ib_ok c30) (And.intro (kk_ok c31) (?_))))
  show Ev l d mi_X8_newKind 136 [none, some (.ref x1), some (.int x2), none] [] (hp (uI (uI s y0 y1.toNatClampNeg y2) x1 3 (x2 + (Int32.ofInt 1)))) 0 0 _
  rw [← hs32]
  cases hf
  exact Ev.vret rfl (by decide +kernel) (Nat.le_refl _) (Nat.le_refl _)
def f_X8_newKind_j114 (x1 : Nat) (x2 : Int32) (x3 : Int32) (s : ST) : Option (ST) := gd (kk x1 4) ((RR s.2.2 x1 7).bind (fun a27 => (if x3 = 0 then f_X8_newKind_j128 x1 x2 a27 x2 (Int32.ofInt 0) s else f_X8_newKind_j128 x1 x2 a27 x2 (Int32.ofInt 1) s)))
set_option maxHeartbeats 2000000 in
set_option maxRecDepth 20000 in
theorem e_X8_newKind_j114 {l : Launch} {d : Nat} (hd : 8 ≤ d) (x1 : Nat) (x2 : Int32) (x3 : Int32) (s : ST) (r : ST) (hf : f_X8_newKind_j114 x1 x2 x3 s = some r) : Ev l d mi_X8_newKind 114 [none, some (.ref x1), some (.int x2), some (.int x3)] [] (hp s) 0 0 (none, hp r) := by
  unfold f_X8_newKind_j114 at hf
  obtain ⟨c26, hf⟩ := gd_some hf
  obtain ⟨a27, ha27, hf⟩ := bd_some hf
  refine Ev.blk (pc' := 120) [(.aload_n 1, 0, 0, 0), (.getfield 139, 0, 4, 7), (.iload_n 2, 0, 0, 0), (.iload_n 3, 0, 0, 0)] (by decide +kernel) ⟨kf_8_139, trivial⟩ rfl (And.intro (kk_ok c26) (Exists.intro a27 (And.intro ha27 (?_))))
  show Ev l d mi_X8_newKind 120 [none, some (.ref x1), some (.int x2), some (.int x3)] [.int x3, .int x2, .ref a27] (hp s) 0 0 _
  refine Ev.if_eq (off := 7) (tgt := 127) (by decide +kernel) (by decide) (fun b28 => ?_) (fun b28 => ?_)
  · have hf := (if_pos b28).symm.trans hf
    refine Ev.blk (pc' := 128) [(.iconst 0, 0, 0, 0)] (by decide +kernel) trivial rfl (?_)
    show Ev l d mi_X8_newKind 128 [none, some (.ref x1), some (.int x2), some (.int x3)] [.int (Int32.ofInt 0), .int x2, .ref a27] (hp s) 0 0 _
    exact Ev.wk ((e_X8_newKind_j128 hd) x1 x2 a27 x2 (Int32.ofInt 0) s _ hf) (And.intro (Or.inr rfl) (And.intro (Or.inr rfl) (And.intro (Or.inr rfl) (And.intro (Or.inl rfl) (trivial)))))
  · have hf := (if_neg b28).symm.trans hf
    refine Ev.blk (pc' := 124) [(.iconst 1, 0, 0, 0)] (by decide +kernel) trivial rfl (?_)
    show Ev l d mi_X8_newKind 124 [none, some (.ref x1), some (.int x2), some (.int x3)] [.int (Int32.ofInt 1), .int x2, .ref a27] (hp s) 0 0 _
    refine Ev.goto (off := 4) (tgt := 128) (by decide +kernel) (by decide) ?_
    exact Ev.wk ((e_X8_newKind_j128 hd) x1 x2 a27 x2 (Int32.ofInt 1) s _ hf) (And.intro (Or.inr rfl) (And.intro (Or.inr rfl) (And.intro (Or.inr rfl) (And.intro (Or.inl rfl) (trivial)))))
def f_X8_newKind (p0 : Nat) (s : ST) : Option (ST) := gd (kk p0 4) ((f_X8_begins (s.1 p0 3) (Int32.ofInt 5) s).bind (fun q2 => (if q2.1 = 0 then some q2.2 else (f_X8_newName p0 (s.1 p0 3) q2.2).bind (fun q4 => (f_X5_takeWord (Int32.ofInt 5) q4).bind (fun q5 => (RR q5.2.2 p0 4).bind (fun a6 => (f_X5_takeNumber (Int32.ofInt 1) (Int32.ofInt 4) q5).bind (fun q7 => gd (kk a6 13) (gd (ib (s.1 p0 3) (K0 a6).2) (lt (uI q7.2 a6 (s.1 p0 3).toNatClampNeg q7.1) (fun s10 => (f_X5_takeWord ((Int8.ofInt 6).toInt32) s10).bind (fun q11 => (RR q11.2.2 p0 5).bind (fun a12 => (f_X5_takeNumber (Int32.ofInt 1) (Int32.ofInt 4) q11).bind (fun q13 => gd (kk a12 13) (gd (ib (s.1 p0 3) (K0 a12).2) (lt (uI q13.2 a12 (s.1 p0 3).toNatClampNeg q13.1) (fun s16 => (f_X5_takeWord ((Int8.ofInt 7).toInt32) s16).bind (fun q17 => (RR q17.2.2 p0 6).bind (fun a18 => (f_X5_takeNumber (Int32.ofInt 0) ((Int8.ofInt 99).toInt32) q17).bind (fun q19 => gd (kk a18 13) (gd (ib (s.1 p0 3) (K0 a18).2) (lt (uI q19.2 a18 (s.1 p0 3).toNatClampNeg q19.1) (fun s22 => (f_X5_isWord ((Int8.ofInt 8).toInt32) s22).bind (fun q23 => (if q23.1 = 0 then f_X8_newKind_j114 p0 (s.1 p0 3) q23.1 q23.2 else (f_X5_step q23.2).bind (fun q25 => f_X8_newKind_j114 p0 (s.1 p0 3) q23.1 q25)))))))))))))))))))))))))
set_option maxHeartbeats 2000000 in
set_option maxRecDepth 20000 in
theorem e_X8_newKind {l : Launch} {d : Nat} (hd : 8 ≤ d) (p0 : Nat) (s : ST) (r : ST) (hf : f_X8_newKind p0 s = some r) : Cl l d mi_X8_newKind [.ref 4, .ref p0] (hp s) (none, hp r) := by
  refine Ev.entry (by decide +kernel) rfl rfl ?_
  show Ev l d mi_X8_newKind 0 [some (.ref 4), some (.ref p0), none, none] [] (hp s) 0 0 _
  unfold f_X8_newKind at hf
  obtain ⟨c1, hf⟩ := gd_some hf
  refine Ev.blk (pc' := 8) [(.aload_n 1, 0, 0, 0), (.getfield 119, 0, 4, 3), (.istore_n 2, 0, 0, 0), (.aload_n 0, 0, 0, 0), (.iload_n 2, 0, 0, 0), (.iconst 5, 0, 0, 0)] (by decide +kernel) ⟨kf_8_119, trivial⟩ rfl (And.intro (kk_ok c1) (And.intro (Nat.le_of_ble_eq_true rfl) (?_)))
  show Ev l d mi_X8_newKind 8 [some (.ref 4), some (.ref p0), some (.int (s.1 p0 3)), none] [.int (Int32.ofInt 5), .int (s.1 p0 3), .ref 4] (hp s) 0 0 _
  obtain ⟨q2, hq2, hf⟩ := bd_some hf
  refine Ev.callV (o := 4) (M' := mi_X8_begins) (d' := d - 1) (As := [.int (s.1 p0 3), .int (Int32.ofInt 5)]) (rest := []) (r' := (some (.int q2.1), hp q2.2)) (e_X8_begins (d := d - 1) (by omega) (s.1 p0 3) (Int32.ofInt 5) s _ hq2) (by omega) wm_X8_begins wi_X8_begins wv_X8_begins km_8_95 (kc rfl rfl) (Nat.le_of_ble_eq_true rfl) rfl rfl rfl (Nat.le_of_ble_eq_true rfl) ⟨Nat.le_of_ble_eq_true rfl, Nat.le_of_ble_eq_true rfl⟩ (by decide +kernel) ?_
  show Ev l d mi_X8_newKind 11 [some (.ref 4), some (.ref p0), some (.int (s.1 p0 3)), none] [.int q2.1] (hp q2.2) 0 0 _
  refine Ev.if_ne (off := 4) (tgt := 15) (by decide +kernel) (by decide) (fun b3 => ?_) (fun b3 => ?_)
  · have hf := (if_neg b3).symm.trans hf
    refine Ev.blk (pc' := 18) [(.aload_n 0, 0, 0, 0), (.aload_n 1, 0, 0, 0), (.iload_n 2, 0, 0, 0)] (by decide +kernel) trivial rfl (?_)
    show Ev l d mi_X8_newKind 18 [some (.ref 4), some (.ref p0), some (.int (s.1 p0 3)), none] [.int (s.1 p0 3), .ref p0, .ref 4] (hp q2.2) 0 0 _
    obtain ⟨q4, hq4, hf⟩ := bd_some hf
    refine Ev.callV (o := 4) (M' := mi_X8_newName) (d' := d - 1) (As := [.ref p0, .int (s.1 p0 3)]) (rest := []) (r' := (none, hp q4)) (e_X8_newName (d := d - 1) (by omega) p0 (s.1 p0 3) q2.2 _ hq4) (by omega) wm_X8_newName wi_X8_newName wv_X8_newName km_8_122 (kc rfl rfl) (Nat.le_of_ble_eq_true rfl) rfl rfl rfl (Nat.le_of_ble_eq_true rfl) ⟨Nat.le_of_ble_eq_true rfl, Nat.le_of_ble_eq_true rfl⟩ (by decide +kernel) ?_
    show Ev l d mi_X8_newKind 21 [some (.ref 4), some (.ref p0), some (.int (s.1 p0 3)), none] [] (hp q4) 0 0 _
    refine Ev.blk (pc' := 26) [(.aload_n 0, 0, 0, 0), (.getfield 9, 0, 8, 0), (.iconst 5, 0, 0, 0)] (by decide +kernel) ⟨kf_8_9, trivial⟩ rfl (And.intro (kc rfl rfl) (Exists.intro 3 (And.intro rfl (?_))))
    show Ev l d mi_X8_newKind 26 [some (.ref 4), some (.ref p0), some (.int (s.1 p0 3)), none] [.int (Int32.ofInt 5), .ref 3] (hp q4) 0 0 _
    obtain ⟨q5, hq5, hf⟩ := bd_some hf
    refine Ev.callV (o := 3) (M' := mi_X5_takeWord) (d' := d - 1) (As := [.int (Int32.ofInt 5)]) (rest := []) (r' := (none, hp q5)) (e_X5_takeWord (d := d - 1) (by omega) (Int32.ofInt 5) q4 _ hq5) (by omega) wm_X5_takeWord wi_X5_takeWord wv_X5_takeWord km_8_62 (kc rfl rfl) (Nat.le_of_ble_eq_true rfl) rfl rfl rfl (Nat.le_of_ble_eq_true rfl) ⟨Nat.le_of_ble_eq_true rfl, Nat.le_of_ble_eq_true rfl⟩ (by decide +kernel) ?_
    show Ev l d mi_X8_newKind 29 [some (.ref 4), some (.ref p0), some (.int (s.1 p0 3)), none] [] (hp q5) 0 0 _
    obtain ⟨a6, ha6, hf⟩ := bd_some hf
    refine Ev.blk (pc' := 40) [(.aload_n 1, 0, 0, 0), (.getfield 126, 0, 4, 4), (.iload_n 2, 0, 0, 0), (.aload_n 0, 0, 0, 0), (.getfield 9, 0, 8, 0), (.iconst 1, 0, 0, 0), (.iconst 4, 0, 0, 0)] (by decide +kernel) ⟨kf_8_126, ⟨kf_8_9, trivial⟩⟩ rfl (And.intro (kk_ok c1) (Exists.intro a6 (And.intro ha6 (And.intro (kc rfl rfl) (Exists.intro 3 (And.intro rfl (?_)))))))
    show Ev l d mi_X8_newKind 40 [some (.ref 4), some (.ref p0), some (.int (s.1 p0 3)), none] [.int (Int32.ofInt 4), .int (Int32.ofInt 1), .ref 3, .int (s.1 p0 3), .ref a6] (hp q5) 0 0 _
    obtain ⟨q7, hq7, hf⟩ := bd_some hf
    refine Ev.callV (o := 3) (M' := mi_X5_takeNumber) (d' := d - 1) (As := [.int (Int32.ofInt 1), .int (Int32.ofInt 4)]) (rest := [.int (s.1 p0 3), .ref a6]) (r' := (some (.int q7.1), hp q7.2)) (e_X5_takeNumber (d := d - 1) (by omega) (Int32.ofInt 1) (Int32.ofInt 4) q5 _ hq7) (by omega) wm_X5_takeNumber wi_X5_takeNumber wv_X5_takeNumber km_8_66 (kc rfl rfl) (Nat.le_of_ble_eq_true rfl) rfl rfl rfl (Nat.le_of_ble_eq_true rfl) ⟨Nat.le_of_ble_eq_true rfl, Nat.le_of_ble_eq_true rfl⟩ (by decide +kernel) ?_
    show Ev l d mi_X8_newKind 43 [some (.ref 4), some (.ref p0), some (.int (s.1 p0 3)), none] [.int q7.1, .int (s.1 p0 3), .ref a6] (hp q7.2) 0 0 _
    obtain ⟨c8, hf⟩ := gd_some hf
    obtain ⟨c9, hf⟩ := gd_some hf
    obtain ⟨s10, hs10, hf⟩ := lt_some hf
    refine Ev.blk (pc' := 50) [(.iastore, 0, 0, 0), (.aload_n 0, 0, 0, 0), (.getfield 9, 0, 8, 0), (.bipush 6, 0, 0, 0)] (by decide +kernel) ⟨kf_8_9, trivial⟩ rfl (And.intro (kk_ok c8) (And.intro (ib_ok c9) (And.intro (kc rfl rfl) (Exists.intro 3 (And.intro rfl (?_))))))
    show Ev l d mi_X8_newKind 50 [some (.ref 4), some (.ref p0), some (.int (s.1 p0 3)), none] [.int ((Int8.ofInt 6).toInt32), .ref 3] (hp (uI q7.2 a6 (s.1 p0 3).toNatClampNeg q7.1)) 0 0 _
    rw [← hs10]
    obtain ⟨q11, hq11, hf⟩ := bd_some hf
    refine Ev.callV (o := 3) (M' := mi_X5_takeWord) (d' := d - 1) (As := [.int ((Int8.ofInt 6).toInt32)]) (rest := []) (r' := (none, hp q11)) (e_X5_takeWord (d := d - 1) (by omega) ((Int8.ofInt 6).toInt32) s10 _ hq11) (by omega) wm_X5_takeWord wi_X5_takeWord wv_X5_takeWord km_8_62 (kc rfl rfl) (Nat.le_of_ble_eq_true rfl) rfl rfl rfl (Nat.le_of_ble_eq_true rfl) ⟨Nat.le_of_ble_eq_true rfl, Nat.le_of_ble_eq_true rfl⟩ (by decide +kernel) ?_
    show Ev l d mi_X8_newKind 53 [some (.ref 4), some (.ref p0), some (.int (s.1 p0 3)), none] [] (hp q11) 0 0 _
    obtain ⟨a12, ha12, hf⟩ := bd_some hf
    refine Ev.blk (pc' := 64) [(.aload_n 1, 0, 0, 0), (.getfield 129, 0, 4, 5), (.iload_n 2, 0, 0, 0), (.aload_n 0, 0, 0, 0), (.getfield 9, 0, 8, 0), (.iconst 1, 0, 0, 0), (.iconst 4, 0, 0, 0)] (by decide +kernel) ⟨kf_8_129, ⟨kf_8_9, trivial⟩⟩ rfl (And.intro (kk_ok c1) (Exists.intro a12 (And.intro ha12 (And.intro (kc rfl rfl) (Exists.intro 3 (And.intro rfl (?_)))))))
    show Ev l d mi_X8_newKind 64 [some (.ref 4), some (.ref p0), some (.int (s.1 p0 3)), none] [.int (Int32.ofInt 4), .int (Int32.ofInt 1), .ref 3, .int (s.1 p0 3), .ref a12] (hp q11) 0 0 _
    obtain ⟨q13, hq13, hf⟩ := bd_some hf
    refine Ev.callV (o := 3) (M' := mi_X5_takeNumber) (d' := d - 1) (As := [.int (Int32.ofInt 1), .int (Int32.ofInt 4)]) (rest := [.int (s.1 p0 3), .ref a12]) (r' := (some (.int q13.1), hp q13.2)) (e_X5_takeNumber (d := d - 1) (by omega) (Int32.ofInt 1) (Int32.ofInt 4) q11 _ hq13) (by omega) wm_X5_takeNumber wi_X5_takeNumber wv_X5_takeNumber km_8_66 (kc rfl rfl) (Nat.le_of_ble_eq_true rfl) rfl rfl rfl (Nat.le_of_ble_eq_true rfl) ⟨Nat.le_of_ble_eq_true rfl, Nat.le_of_ble_eq_true rfl⟩ (by decide +kernel) ?_
    show Ev l d mi_X8_newKind 67 [some (.ref 4), some (.ref p0), some (.int (s.1 p0 3)), none] [.int q13.1, .int (s.1 p0 3), .ref a12] (hp q13.2) 0 0 _
    obtain ⟨c14, hf⟩ := gd_some hf
    obtain ⟨c15, hf⟩ := gd_some hf
    obtain ⟨s16, hs16, hf⟩ := lt_some hf
    refine Ev.blk (pc' := 74) [(.iastore, 0, 0, 0), (.aload_n 0, 0, 0, 0), (.getfield 9, 0, 8, 0), (.bipush 7, 0, 0, 0)] (by decide +kernel) ⟨kf_8_9, trivial⟩ rfl (And.intro (kk_ok c14) (And.intro (ib_ok c15) (And.intro (kc rfl rfl) (Exists.intro 3 (And.intro rfl (?_))))))
    show Ev l d mi_X8_newKind 74 [some (.ref 4), some (.ref p0), some (.int (s.1 p0 3)), none] [.int ((Int8.ofInt 7).toInt32), .ref 3] (hp (uI q13.2 a12 (s.1 p0 3).toNatClampNeg q13.1)) 0 0 _
    rw [← hs16]
    obtain ⟨q17, hq17, hf⟩ := bd_some hf
    refine Ev.callV (o := 3) (M' := mi_X5_takeWord) (d' := d - 1) (As := [.int ((Int8.ofInt 7).toInt32)]) (rest := []) (r' := (none, hp q17)) (e_X5_takeWord (d := d - 1) (by omega) ((Int8.ofInt 7).toInt32) s16 _ hq17) (by omega) wm_X5_takeWord wi_X5_takeWord wv_X5_takeWord km_8_62 (kc rfl rfl) (Nat.le_of_ble_eq_true rfl) rfl rfl rfl (Nat.le_of_ble_eq_true rfl) ⟨Nat.le_of_ble_eq_true rfl, Nat.le_of_ble_eq_true rfl⟩ (by decide +kernel) ?_
    show Ev l d mi_X8_newKind 77 [some (.ref 4), some (.ref p0), some (.int (s.1 p0 3)), none] [] (hp q17) 0 0 _
    obtain ⟨a18, ha18, hf⟩ := bd_some hf
    refine Ev.blk (pc' := 89) [(.aload_n 1, 0, 0, 0), (.getfield 132, 0, 4, 6), (.iload_n 2, 0, 0, 0), (.aload_n 0, 0, 0, 0), (.getfield 9, 0, 8, 0), (.iconst 0, 0, 0, 0), (.bipush 99, 0, 0, 0)] (by decide +kernel) ⟨kf_8_132, ⟨kf_8_9, trivial⟩⟩ rfl (And.intro (kk_ok c1) (Exists.intro a18 (And.intro ha18 (And.intro (kc rfl rfl) (Exists.intro 3 (And.intro rfl (?_)))))))
    show Ev l d mi_X8_newKind 89 [some (.ref 4), some (.ref p0), some (.int (s.1 p0 3)), none] [.int ((Int8.ofInt 99).toInt32), .int (Int32.ofInt 0), .ref 3, .int (s.1 p0 3), .ref a18] (hp q17) 0 0 _
    obtain ⟨q19, hq19, hf⟩ := bd_some hf
    refine Ev.callV (o := 3) (M' := mi_X5_takeNumber) (d' := d - 1) (As := [.int (Int32.ofInt 0), .int ((Int8.ofInt 99).toInt32)]) (rest := [.int (s.1 p0 3), .ref a18]) (r' := (some (.int q19.1), hp q19.2)) (e_X5_takeNumber (d := d - 1) (by omega) (Int32.ofInt 0) ((Int8.ofInt 99).toInt32) q17 _ hq19) (by omega) wm_X5_takeNumber wi_X5_takeNumber wv_X5_takeNumber km_8_66 (kc rfl rfl) (Nat.le_of_ble_eq_true rfl) rfl rfl rfl (Nat.le_of_ble_eq_true rfl) ⟨Nat.le_of_ble_eq_true rfl, Nat.le_of_ble_eq_true rfl⟩ (by decide +kernel) ?_
    show Ev l d mi_X8_newKind 92 [some (.ref 4), some (.ref p0), some (.int (s.1 p0 3)), none] [.int q19.1, .int (s.1 p0 3), .ref a18] (hp q19.2) 0 0 _
    obtain ⟨c20, hf⟩ := gd_some hf
    obtain ⟨c21, hf⟩ := gd_some hf
    obtain ⟨s22, hs22, hf⟩ := lt_some hf
    refine Ev.blk (pc' := 99) [(.iastore, 0, 0, 0), (.aload_n 0, 0, 0, 0), (.getfield 9, 0, 8, 0), (.bipush 8, 0, 0, 0)] (by decide +kernel) ⟨kf_8_9, trivial⟩ rfl (And.intro (kk_ok c20) (And.intro (ib_ok c21) (And.intro (kc rfl rfl) (Exists.intro 3 (And.intro rfl (?_))))))
    show Ev l d mi_X8_newKind 99 [some (.ref 4), some (.ref p0), some (.int (s.1 p0 3)), none] [.int ((Int8.ofInt 8).toInt32), .ref 3] (hp (uI q19.2 a18 (s.1 p0 3).toNatClampNeg q19.1)) 0 0 _
    rw [← hs22]
    obtain ⟨q23, hq23, hf⟩ := bd_some hf
    refine Ev.callV (o := 3) (M' := mi_X5_isWord) (d' := d - 1) (As := [.int ((Int8.ofInt 8).toInt32)]) (rest := []) (r' := (some (.int q23.1), hp q23.2)) (e_X5_isWord (d := d - 1) (by omega) ((Int8.ofInt 8).toInt32) s22 _ hq23) (by omega) wm_X5_isWord wi_X5_isWord wv_X5_isWord km_8_135 (kc rfl rfl) (Nat.le_of_ble_eq_true rfl) rfl rfl rfl (Nat.le_of_ble_eq_true rfl) ⟨Nat.le_of_ble_eq_true rfl, Nat.le_of_ble_eq_true rfl⟩ (by decide +kernel) ?_
    show Ev l d mi_X8_newKind 102 [some (.ref 4), some (.ref p0), some (.int (s.1 p0 3)), none] [.int q23.1] (hp q23.2) 0 0 _
    refine Ev.blk (pc' := 104) [(.istore_n 3, 0, 0, 0), (.iload_n 3, 0, 0, 0)] (by decide +kernel) trivial rfl (And.intro (Nat.le_of_ble_eq_true rfl) (?_))
    show Ev l d mi_X8_newKind 104 [some (.ref 4), some (.ref p0), some (.int (s.1 p0 3)), some (.int q23.1)] [.int q23.1] (hp q23.2) 0 0 _
    refine Ev.if_eq (off := 10) (tgt := 114) (by decide +kernel) (by decide) (fun b24 => ?_) (fun b24 => ?_)
    · have hf := (if_pos b24).symm.trans hf
      exact Ev.wk ((e_X8_newKind_j114 hd) p0 (s.1 p0 3) q23.1 q23.2 _ hf) (And.intro (Or.inl rfl) (And.intro (Or.inr rfl) (And.intro (Or.inr rfl) (And.intro (Or.inr rfl) (trivial)))))
    · have hf := (if_neg b24).symm.trans hf
      refine Ev.blk (pc' := 111) [(.aload_n 0, 0, 0, 0), (.getfield 9, 0, 8, 0)] (by decide +kernel) ⟨kf_8_9, trivial⟩ rfl (And.intro (kc rfl rfl) (Exists.intro 3 (And.intro rfl (?_))))
      show Ev l d mi_X8_newKind 111 [some (.ref 4), some (.ref p0), some (.int (s.1 p0 3)), some (.int q23.1)] [.ref 3] (hp q23.2) 0 0 _
      obtain ⟨q25, hq25, hf⟩ := bd_some hf
      refine Ev.callV (o := 3) (M' := mi_X5_step) (d' := d - 1) (As := []) (rest := []) (r' := (none, hp q25)) (e_X5_step (d := d - 1) (by omega) q23.2 _ hq25) (by omega) wm_X5_step wi_X5_step wv_X5_step km_8_110 (kc rfl rfl) (Nat.le_of_ble_eq_true rfl) rfl rfl rfl (Nat.le_of_ble_eq_true rfl) ⟨Nat.le_of_ble_eq_true rfl, Nat.le_of_ble_eq_true rfl⟩ (by decide +kernel) ?_
      show Ev l d mi_X8_newKind 114 [some (.ref 4), some (.ref p0), some (.int (s.1 p0 3)), some (.int q23.1)] [] (hp q25) 0 0 _
      exact Ev.wk ((e_X8_newKind_j114 hd) p0 (s.1 p0 3) q23.1 q25 _ hf) (And.intro (Or.inl rfl) (And.intro (Or.inr rfl) (And.intro (Or.inr rfl) (And.intro (Or.inr rfl) (trivial)))))
  · have hf := (if_pos b3).symm.trans hf
    cases hf
    exact Ev.vret rfl (by decide +kernel) (Nat.le_refl _) (Nat.le_refl _)
def f_X8_takeKind_j32 (x2 : Int32) (s : ST) : Option (Int32 × ST) := (f_X5_step s).bind (fun q6 => some ((if (Int32.ofInt 0) < x2 then x2 else (Int32.ofInt 0)), q6))
set_option maxHeartbeats 2000000 in
set_option maxRecDepth 20000 in
theorem e_X8_takeKind_j32 {l : Launch} {d : Nat} (hd : 7 ≤ d) (x2 : Int32) (s : ST) (r : Int32 × ST) (hf : f_X8_takeKind_j32 x2 s = some r) : Ev l d mi_X8_takeKind 32 [some (.ref 4), none, some (.int x2)] [] (hp s) 0 0 (some (.int r.1), hp r.2) := by
  unfold f_X8_takeKind_j32 at hf
  refine Ev.blk (pc' := 36) [(.aload_n 0, 0, 0, 0), (.getfield 9, 0, 8, 0)] (by decide +kernel) ⟨kf_8_9, trivial⟩ rfl (And.intro (kc rfl rfl) (Exists.intro 3 (And.intro rfl (?_))))
  show Ev l d mi_X8_takeKind 36 [some (.ref 4), none, some (.int x2)] [.ref 3] (hp s) 0 0 _
  obtain ⟨q6, hq6, hf⟩ := bd_some hf
  refine Ev.callV (o := 3) (M' := mi_X5_step) (d' := d - 1) (As := []) (rest := []) (r' := (none, hp q6)) (e_X5_step (d := d - 1) (by omega) s _ hq6) (by omega) wm_X5_step wi_X5_step wv_X5_step km_8_110 (kc rfl rfl) (Nat.le_of_ble_eq_true rfl) rfl rfl rfl (Nat.le_of_ble_eq_true rfl) ⟨Nat.le_of_ble_eq_true rfl, Nat.le_of_ble_eq_true rfl⟩ (by decide +kernel) ?_
  show Ev l d mi_X8_takeKind 39 [some (.ref 4), none, some (.int x2)] [] (hp q6) 0 0 _
  refine Ev.blk (pc' := 41) [(.iconst 0, 0, 0, 0), (.iload_n 2, 0, 0, 0)] (by decide +kernel) trivial rfl (?_)
  show Ev l d mi_X8_takeKind 41 [some (.ref 4), none, some (.int x2)] [.int x2, .int (Int32.ofInt 0)] (hp q6) 0 0 _
  refine Ev.mmax km_8_180 wt_J9_max_7cf53 wini_12 wm_J9_max_7cf53.1 (by omega) (Nat.le_of_ble_eq_true rfl) ⟨Nat.le_refl _, Nat.le_refl _⟩ (by decide +kernel) ?_
  show Ev l d mi_X8_takeKind 44 [some (.ref 4), none, some (.int x2)] [.int (if (Int32.ofInt 0) < x2 then x2 else (Int32.ofInt 0))] (hp q6) 0 0 _
  cases hf
  exact Ev.iret .int rfl rfl (by decide +kernel) (Nat.le_refl _) (Nat.le_refl _)
def f_X8_takeKind (p0 : Nat) (s : ST) : Option (Int32 × ST) := (f_X5_nameAtHand s).bind (fun q1 => (f_X4_slotOf p0 q1.1 (Int32.ofInt 5) q1.2).bind (fun q2 => gd (kk p0 4) ((if 0 ≤ q2.1 then f_X8_takeKind_j32 q2.1 q2.2 else (f_X5_fail (Int32.ofInt 3) (q2.2.1 3 1) q2.2).bind (fun q5 => f_X8_takeKind_j32 q2.1 q5)))))
set_option maxHeartbeats 2000000 in
set_option maxRecDepth 20000 in
theorem e_X8_takeKind {l : Launch} {d : Nat} (hd : 7 ≤ d) (p0 : Nat) (s : ST) (r : Int32 × ST) (hf : f_X8_takeKind p0 s = some r) : Cl l d mi_X8_takeKind [.ref 4, .ref p0] (hp s) (some (.int r.1), hp r.2) := by
  refine Ev.entry (by decide +kernel) rfl rfl ?_
  show Ev l d mi_X8_takeKind 0 [some (.ref 4), some (.ref p0), none] [] (hp s) 0 0 _
  unfold f_X8_takeKind at hf
  refine Ev.blk (pc' := 5) [(.aload_n 1, 0, 0, 0), (.aload_n 0, 0, 0, 0), (.getfield 9, 0, 8, 0)] (by decide +kernel) ⟨kf_8_9, trivial⟩ rfl (And.intro (kc rfl rfl) (Exists.intro 3 (And.intro rfl (?_))))
  show Ev l d mi_X8_takeKind 5 [some (.ref 4), some (.ref p0), none] [.ref 3, .ref p0] (hp s) 0 0 _
  obtain ⟨q1, hq1, hf⟩ := bd_some hf
  refine Ev.callV (o := 3) (M' := mi_X5_nameAtHand) (d' := d - 1) (As := []) (rest := [.ref p0]) (r' := (some (.int q1.1), hp q1.2)) (e_X5_nameAtHand (d := d - 1) (by omega) s _ hq1) (by omega) wm_X5_nameAtHand wi_X5_nameAtHand wv_X5_nameAtHand km_8_170 (kc rfl rfl) (Nat.le_of_ble_eq_true rfl) rfl rfl rfl (Nat.le_of_ble_eq_true rfl) ⟨Nat.le_of_ble_eq_true rfl, Nat.le_of_ble_eq_true rfl⟩ (by decide +kernel) ?_
  show Ev l d mi_X8_takeKind 8 [some (.ref 4), some (.ref p0), none] [.int q1.1, .ref p0] (hp q1.2) 0 0 _
  refine Ev.blk (pc' := 9) [(.iconst 5, 0, 0, 0)] (by decide +kernel) trivial rfl (?_)
  show Ev l d mi_X8_takeKind 9 [some (.ref 4), some (.ref p0), none] [.int (Int32.ofInt 5), .int q1.1, .ref p0] (hp q1.2) 0 0 _
  obtain ⟨q2, hq2, hf⟩ := bd_some hf
  obtain ⟨c3, hf⟩ := gd_some hf
  refine Ev.callV (o := p0) (M' := mi_X4_slotOf) (d' := d - 1) (As := [.int q1.1, .int (Int32.ofInt 5)]) (rest := []) (r' := (some (.int q2.1), hp q2.2)) (e_X4_slotOf (d := d - 1) (by omega) p0 q1.1 (Int32.ofInt 5) q1.2 _ hq2) (by omega) wm_X4_slotOf wi_X4_slotOf wv_X4_slotOf km_8_174 (kk_ok c3) (Nat.le_of_ble_eq_true rfl) rfl rfl rfl (Nat.le_of_ble_eq_true rfl) ⟨Nat.le_of_ble_eq_true rfl, Nat.le_of_ble_eq_true rfl⟩ (by decide +kernel) ?_
  show Ev l d mi_X8_takeKind 12 [some (.ref 4), some (.ref p0), none] [.int q2.1] (hp q2.2) 0 0 _
  refine Ev.blk (pc' := 14) [(.istore_n 2, 0, 0, 0), (.iload_n 2, 0, 0, 0)] (by decide +kernel) trivial rfl (And.intro (Nat.le_of_ble_eq_true rfl) (?_))
  show Ev l d mi_X8_takeKind 14 [some (.ref 4), some (.ref p0), some (.int q2.1)] [.int q2.1] (hp q2.2) 0 0 _
  refine Ev.if_ge (off := 18) (tgt := 32) (by decide +kernel) (by decide) (fun b4 => ?_) (fun b4 => ?_)
  · have hf := (if_pos b4).symm.trans hf
    exact Ev.wk ((e_X8_takeKind_j32 hd) q2.1 q2.2 _ hf) (And.intro (Or.inr rfl) (And.intro (Or.inl rfl) (And.intro (Or.inr rfl) (trivial))))
  · have hf := (if_neg b4).symm.trans hf
    refine Ev.blk (pc' := 29) [(.aload_n 0, 0, 0, 0), (.getfield 9, 0, 8, 0), (.iconst 3, 0, 0, 0), (.aload_n 0, 0, 0, 0), (.getfield 9, 0, 8, 0), (.getfield 41, 0, 5, 1)] (by decide +kernel) ⟨kf_8_9, ⟨kf_8_9, ⟨kf_8_41, trivial⟩⟩⟩ rfl (And.intro (kc rfl rfl) (Exists.intro 3 (And.intro rfl (And.intro (kc rfl rfl) (Exists.intro 3 (And.intro rfl (And.intro (kc rfl rfl) (?_))))))))
    show Ev l d mi_X8_takeKind 29 [some (.ref 4), some (.ref p0), some (.int q2.1)] [.int (q2.2.1 3 1), .int (Int32.ofInt 3), .ref 3] (hp q2.2) 0 0 _
    obtain ⟨q5, hq5, hf⟩ := bd_some hf
    refine Ev.callV (o := 3) (M' := mi_X5_fail) (d' := d - 1) (As := [.int (Int32.ofInt 3), .int (q2.2.1 3 1)]) (rest := []) (r' := (none, hp q5)) (e_X5_fail (d := d - 1) (by omega) (Int32.ofInt 3) (q2.2.1 3 1) q2.2 _ hq5) (by omega) wm_X5_fail wi_X5_fail wv_X5_fail km_8_44 (kc rfl rfl) (Nat.le_of_ble_eq_true rfl) rfl rfl rfl (Nat.le_of_ble_eq_true rfl) ⟨Nat.le_of_ble_eq_true rfl, Nat.le_of_ble_eq_true rfl⟩ (by decide +kernel) ?_
    show Ev l d mi_X8_takeKind 32 [some (.ref 4), some (.ref p0), some (.int q2.1)] [] (hp q5) 0 0 _
    exact Ev.wk ((e_X8_takeKind_j32 hd) q2.1 q5 _ hf) (And.intro (Or.inr rfl) (And.intro (Or.inl rfl) (And.intro (Or.inr rfl) (trivial))))
def f_X8_newMan_j144 (x1 : Nat) (x2 : Int32) (x6 : Int32) (s : ST) : Option (ST) := gd (kk x1 4) ((RR s.2.2 x1 11).bind (fun a24 => gd (kk a24 13) (gd (ib x2 (K0 a24).2) (lt (uI (uI s a24 x2.toNatClampNeg x6) x1 8 (x2 + (Int32.ofInt 1))) (fun s27 => some s27)))))
set_option maxHeartbeats 2000000 in
set_option maxRecDepth 20000 in
theorem e_X8_newMan_j144 {l : Launch} {d : Nat} (hd : 8 ≤ d) (x1 : Nat) (x2 : Int32) (x6 : Int32) (s : ST) (r : ST) (hf : f_X8_newMan_j144 x1 x2 x6 s = some r) : Ev l d mi_X8_newMan 144 [none, some (.ref x1), some (.int x2), none, none, none, some (.int x6)] [] (hp s) 0 0 (none, hp r) := by
  unfold f_X8_newMan_j144 at hf
  obtain ⟨c23, hf⟩ := gd_some hf
  obtain ⟨a24, ha24, hf⟩ := bd_some hf
  obtain ⟨c25, hf⟩ := gd_some hf
  obtain ⟨c26, hf⟩ := gd_some hf
  obtain ⟨s27, hs27, hf⟩ := lt_some hf
  refine Ev.blk (pc' := 159) [(.aload_n 1, 0, 0, 0), (.getfield 158, 0, 4, 11), (.iload_n 2, 0, 0, 0), (.iload 6, 0, 0, 0), (.iastore, 0, 0, 0), (.aload_n 1, 0, 0, 0), (.iload_n 2, 0, 0, 0), (.iconst 1, 0, 0, 0), (.iadd, 0, 0, 0), (.putfield 142, 0, 4, 8)] (by decide +kernel) ⟨kf_8_158, ⟨⟨kf_8_142, Or.inl rfl⟩, trivial⟩⟩ rfl (And.intro (kk_ok c23) (Exists.intro a24 (And.intro ha24 (And.intro (kk_ok c25) (And.intro (ib_ok c26) (And.intro (kk_ok c23) (?_)))))))
  show Ev l d mi_X8_newMan 159 [none, some (.ref x1), some (.int x2), none, none, none, some (.int x6)] [] (hp (uI (uI s a24 x2.toNatClampNeg x6) x1 8 (x2 + (Int32.ofInt 1)))) 0 0 _
  rw [← hs27]
  cases hf
  exact Ev.vret rfl (by decide +kernel) (Nat.le_refl _) (Nat.le_refl _)
def f_X8_newMan (p0 : Nat) (s : ST) : Option (ST) := gd (kk p0 4) ((f_X8_begins (s.1 p0 8) ((Int8.ofInt 8).toInt32) s).bind (fun q2 => (if q2.1 = 0 then some q2.2 else (f_X8_newName p0 ((Int32.ofInt 5) + (s.1 p0 8)) q2.2).bind (fun q4 => (f_X5_takeWord ((Int8.ofInt 10).toInt32) q4).bind (fun q5 => (RR q5.2.2 p0 9).bind (fun a6 => (f_X8_takeKind p0 q5).bind (fun q7 => gd (kk a6 13) (gd (ib (s.1 p0 8) (K0 a6).2) (lt (uI q7.2 a6 (s.1 p0 8).toNatClampNeg q7.1) (fun s10 => (f_X5_takeWord ((Int8.ofInt 11).toInt32) s10).bind (fun q11 => (RR q11.2.2 p0 10).bind (fun a12 => (f_X5_takeNumber (Int32.ofInt 0) (Int32.ofInt 1) q11).bind (fun q13 => gd (kk a12 13) (gd (ib (s.1 p0 8) (K0 a12).2) (lt (uI q13.2 a12 (s.1 p0 8).toNatClampNeg q13.1) (fun s16 => (f_X5_takeWord ((Int8.ofInt 12).toInt32) s16).bind (fun q17 => (f_X5_takeNumber (Int32.ofInt 0) ((q17.1 p0 0) - (Int32.ofInt 1)) q17).bind (fun q18 => (f_X5_takeNumber (Int32.ofInt 0) ((q18.2.1 p0 1) - (Int32.ofInt 1)) q18.2).bind (fun q19 => (f_X4_isHeld p0 ((q19.1 * (Int32.ofInt 5)) + q18.1) q19.2).bind (fun q20 => (if q20.1 = 0 then f_X8_newMan_j144 p0 (s.1 p0 8) ((q19.1 * (Int32.ofInt 5)) + q18.1) q20.2 else (f_X5_fail (Int32.ofInt 2) (q18.2.1 3 1) q20.2).bind (fun q22 => f_X8_newMan_j144 p0 (s.1 p0 8) ((q19.1 * (Int32.ofInt 5)) + q18.1) q22))))))))))))))))))))))
set_option maxHeartbeats 2000000 in
set_option maxRecDepth 20000 in
theorem e_X8_newMan {l : Launch} {d : Nat} (hd : 8 ≤ d) (p0 : Nat) (s : ST) (r : ST) (hf : f_X8_newMan p0 s = some r) : Cl l d mi_X8_newMan [.ref 4, .ref p0] (hp s) (none, hp r) := by
  refine Ev.entry (by decide +kernel) rfl rfl ?_
  show Ev l d mi_X8_newMan 0 [some (.ref 4), some (.ref p0), none, none, none, none, none] [] (hp s) 0 0 _
  unfold f_X8_newMan at hf
  obtain ⟨c1, hf⟩ := gd_some hf
  refine Ev.blk (pc' := 9) [(.aload_n 1, 0, 0, 0), (.getfield 142, 0, 4, 8), (.istore_n 2, 0, 0, 0), (.aload_n 0, 0, 0, 0), (.iload_n 2, 0, 0, 0), (.bipush 8, 0, 0, 0)] (by decide +kernel) ⟨kf_8_142, trivial⟩ rfl (And.intro (kk_ok c1) (And.intro (Nat.le_of_ble_eq_true rfl) (?_)))
  show Ev l d mi_X8_newMan 9 [some (.ref 4), some (.ref p0), some (.int (s.1 p0 8)), none, none, none, none] [.int ((Int8.ofInt 8).toInt32), .int (s.1 p0 8), .ref 4] (hp s) 0 0 _
  obtain ⟨q2, hq2, hf⟩ := bd_some hf
  refine Ev.callV (o := 4) (M' := mi_X8_begins) (d' := d - 1) (As := [.int (s.1 p0 8), .int ((Int8.ofInt 8).toInt32)]) (rest := []) (r' := (some (.int q2.1), hp q2.2)) (e_X8_begins (d := d - 1) (by omega) (s.1 p0 8) ((Int8.ofInt 8).toInt32) s _ hq2) (by omega) wm_X8_begins wi_X8_begins wv_X8_begins km_8_95 (kc rfl rfl) (Nat.le_of_ble_eq_true rfl) rfl rfl rfl (Nat.le_of_ble_eq_true rfl) ⟨Nat.le_of_ble_eq_true rfl, Nat.le_of_ble_eq_true rfl⟩ (by decide +kernel) ?_
  show Ev l d mi_X8_newMan 12 [some (.ref 4), some (.ref p0), some (.int (s.1 p0 8)), none, none, none, none] [.int q2.1] (hp q2.2) 0 0 _
  refine Ev.if_ne (off := 4) (tgt := 16) (by decide +kernel) (by decide) (fun b3 => ?_) (fun b3 => ?_)
  · have hf := (if_neg b3).symm.trans hf
    refine Ev.blk (pc' := 21) [(.aload_n 0, 0, 0, 0), (.aload_n 1, 0, 0, 0), (.iconst 5, 0, 0, 0), (.iload_n 2, 0, 0, 0), (.iadd, 0, 0, 0)] (by decide +kernel) trivial rfl (?_)
    show Ev l d mi_X8_newMan 21 [some (.ref 4), some (.ref p0), some (.int (s.1 p0 8)), none, none, none, none] [.int ((Int32.ofInt 5) + (s.1 p0 8)), .ref p0, .ref 4] (hp q2.2) 0 0 _
    obtain ⟨q4, hq4, hf⟩ := bd_some hf
    refine Ev.callV (o := 4) (M' := mi_X8_newName) (d' := d - 1) (As := [.ref p0, .int ((Int32.ofInt 5) + (s.1 p0 8))]) (rest := []) (r' := (none, hp q4)) (e_X8_newName (d := d - 1) (by omega) p0 ((Int32.ofInt 5) + (s.1 p0 8)) q2.2 _ hq4) (by omega) wm_X8_newName wi_X8_newName wv_X8_newName km_8_122 (kc rfl rfl) (Nat.le_of_ble_eq_true rfl) rfl rfl rfl (Nat.le_of_ble_eq_true rfl) ⟨Nat.le_of_ble_eq_true rfl, Nat.le_of_ble_eq_true rfl⟩ (by decide +kernel) ?_
    show Ev l d mi_X8_newMan 24 [some (.ref 4), some (.ref p0), some (.int (s.1 p0 8)), none, none, none, none] [] (hp q4) 0 0 _
    refine Ev.blk (pc' := 30) [(.aload_n 0, 0, 0, 0), (.getfield 9, 0, 8, 0), (.bipush 10, 0, 0, 0)] (by decide +kernel) ⟨kf_8_9, trivial⟩ rfl (And.intro (kc rfl rfl) (Exists.intro 3 (And.intro rfl (?_))))
    show Ev l d mi_X8_newMan 30 [some (.ref 4), some (.ref p0), some (.int (s.1 p0 8)), none, none, none, none] [.int ((Int8.ofInt 10).toInt32), .ref 3] (hp q4) 0 0 _
    obtain ⟨q5, hq5, hf⟩ := bd_some hf
    refine Ev.callV (o := 3) (M' := mi_X5_takeWord) (d' := d - 1) (As := [.int ((Int8.ofInt 10).toInt32)]) (rest := []) (r' := (none, hp q5)) (e_X5_takeWord (d := d - 1) (by omega) ((Int8.ofInt 10).toInt32) q4 _ hq5) (by omega) wm_X5_takeWord wi_X5_takeWord wv_X5_takeWord km_8_62 (kc rfl rfl) (Nat.le_of_ble_eq_true rfl) rfl rfl rfl (Nat.le_of_ble_eq_true rfl) ⟨Nat.le_of_ble_eq_true rfl, Nat.le_of_ble_eq_true rfl⟩ (by decide +kernel) ?_
    show Ev l d mi_X8_newMan 33 [some (.ref 4), some (.ref p0), some (.int (s.1 p0 8)), none, none, none, none] [] (hp q5) 0 0 _
    obtain ⟨a6, ha6, hf⟩ := bd_some hf
    refine Ev.blk (pc' := 40) [(.aload_n 1, 0, 0, 0), (.getfield 145, 0, 4, 9), (.iload_n 2, 0, 0, 0), (.aload_n 0, 0, 0, 0), (.aload_n 1, 0, 0, 0)] (by decide +kernel) ⟨kf_8_145, trivial⟩ rfl (And.intro (kk_ok c1) (Exists.intro a6 (And.intro ha6 (?_))))
    show Ev l d mi_X8_newMan 40 [some (.ref 4), some (.ref p0), some (.int (s.1 p0 8)), none, none, none, none] [.ref p0, .ref 4, .int (s.1 p0 8), .ref a6] (hp q5) 0 0 _
    obtain ⟨q7, hq7, hf⟩ := bd_some hf
    refine Ev.callV (o := 4) (M' := mi_X8_takeKind) (d' := d - 1) (As := [.ref p0]) (rest := [.int (s.1 p0 8), .ref a6]) (r' := (some (.int q7.1), hp q7.2)) (e_X8_takeKind (d := d - 1) (by omega) p0 q5 _ hq7) (by omega) wm_X8_takeKind wi_X8_takeKind wv_X8_takeKind km_8_148 (kc rfl rfl) (Nat.le_of_ble_eq_true rfl) rfl rfl rfl (Nat.le_of_ble_eq_true rfl) ⟨Nat.le_of_ble_eq_true rfl, Nat.le_of_ble_eq_true rfl⟩ (by decide +kernel) ?_
    show Ev l d mi_X8_newMan 43 [some (.ref 4), some (.ref p0), some (.int (s.1 p0 8)), none, none, none, none] [.int q7.1, .int (s.1 p0 8), .ref a6] (hp q7.2) 0 0 _
    obtain ⟨c8, hf⟩ := gd_some hf
    obtain ⟨c9, hf⟩ := gd_some hf
    obtain ⟨s10, hs10, hf⟩ := lt_some hf
    refine Ev.blk (pc' := 50) [(.iastore, 0, 0, 0), (.aload_n 0, 0, 0, 0), (.getfield 9, 0, 8, 0), (.bipush 11, 0, 0, 0)] (by decide +kernel) ⟨kf_8_9, trivial⟩ rfl (And.intro (kk_ok c8) (And.intro (ib_ok c9) (And.intro (kc rfl rfl) (Exists.intro 3 (And.intro rfl (?_))))))
    show Ev l d mi_X8_newMan 50 [some (.ref 4), some (.ref p0), some (.int (s.1 p0 8)), none, none, none, none] [.int ((Int8.ofInt 11).toInt32), .ref 3] (hp (uI q7.2 a6 (s.1 p0 8).toNatClampNeg q7.1)) 0 0 _
    rw [← hs10]
    obtain ⟨q11, hq11, hf⟩ := bd_some hf
    refine Ev.callV (o := 3) (M' := mi_X5_takeWord) (d' := d - 1) (As := [.int ((Int8.ofInt 11).toInt32)]) (rest := []) (r' := (none, hp q11)) (e_X5_takeWord (d := d - 1) (by omega) ((Int8.ofInt 11).toInt32) s10 _ hq11) (by omega) wm_X5_takeWord wi_X5_takeWord wv_X5_takeWord km_8_62 (kc rfl rfl) (Nat.le_of_ble_eq_true rfl) rfl rfl rfl (Nat.le_of_ble_eq_true rfl) ⟨Nat.le_of_ble_eq_true rfl, Nat.le_of_ble_eq_true rfl⟩ (by decide +kernel) ?_
    show Ev l d mi_X8_newMan 53 [some (.ref 4), some (.ref p0), some (.int (s.1 p0 8)), none, none, none, none] [] (hp q11) 0 0 _
    obtain ⟨a12, ha12, hf⟩ := bd_some hf
    refine Ev.blk (pc' := 64) [(.aload_n 1, 0, 0, 0), (.getfield 152, 0, 4, 10), (.iload_n 2, 0, 0, 0), (.aload_n 0, 0, 0, 0), (.getfield 9, 0, 8, 0), (.iconst 0, 0, 0, 0), (.iconst 1, 0, 0, 0)] (by decide +kernel) ⟨kf_8_152, ⟨kf_8_9, trivial⟩⟩ rfl (And.intro (kk_ok c1) (Exists.intro a12 (And.intro ha12 (And.intro (kc rfl rfl) (Exists.intro 3 (And.intro rfl (?_)))))))
    show Ev l d mi_X8_newMan 64 [some (.ref 4), some (.ref p0), some (.int (s.1 p0 8)), none, none, none, none] [.int (Int32.ofInt 1), .int (Int32.ofInt 0), .ref 3, .int (s.1 p0 8), .ref a12] (hp q11) 0 0 _
    obtain ⟨q13, hq13, hf⟩ := bd_some hf
    refine Ev.callV (o := 3) (M' := mi_X5_takeNumber) (d' := d - 1) (As := [.int (Int32.ofInt 0), .int (Int32.ofInt 1)]) (rest := [.int (s.1 p0 8), .ref a12]) (r' := (some (.int q13.1), hp q13.2)) (e_X5_takeNumber (d := d - 1) (by omega) (Int32.ofInt 0) (Int32.ofInt 1) q11 _ hq13) (by omega) wm_X5_takeNumber wi_X5_takeNumber wv_X5_takeNumber km_8_66 (kc rfl rfl) (Nat.le_of_ble_eq_true rfl) rfl rfl rfl (Nat.le_of_ble_eq_true rfl) ⟨Nat.le_of_ble_eq_true rfl, Nat.le_of_ble_eq_true rfl⟩ (by decide +kernel) ?_
    show Ev l d mi_X8_newMan 67 [some (.ref 4), some (.ref p0), some (.int (s.1 p0 8)), none, none, none, none] [.int q13.1, .int (s.1 p0 8), .ref a12] (hp q13.2) 0 0 _
    obtain ⟨c14, hf⟩ := gd_some hf
    obtain ⟨c15, hf⟩ := gd_some hf
    obtain ⟨s16, hs16, hf⟩ := lt_some hf
    refine Ev.blk (pc' := 74) [(.iastore, 0, 0, 0), (.aload_n 0, 0, 0, 0), (.getfield 9, 0, 8, 0), (.bipush 12, 0, 0, 0)] (by decide +kernel) ⟨kf_8_9, trivial⟩ rfl (And.intro (kk_ok c14) (And.intro (ib_ok c15) (And.intro (kc rfl rfl) (Exists.intro 3 (And.intro rfl (?_))))))
    show Ev l d mi_X8_newMan 74 [some (.ref 4), some (.ref p0), some (.int (s.1 p0 8)), none, none, none, none] [.int ((Int8.ofInt 12).toInt32), .ref 3] (hp (uI q13.2 a12 (s.1 p0 8).toNatClampNeg q13.1)) 0 0 _
    rw [← hs16]
    obtain ⟨q17, hq17, hf⟩ := bd_some hf
    refine Ev.callV (o := 3) (M' := mi_X5_takeWord) (d' := d - 1) (As := [.int ((Int8.ofInt 12).toInt32)]) (rest := []) (r' := (none, hp q17)) (e_X5_takeWord (d := d - 1) (by omega) ((Int8.ofInt 12).toInt32) s16 _ hq17) (by omega) wm_X5_takeWord wi_X5_takeWord wv_X5_takeWord km_8_62 (kc rfl rfl) (Nat.le_of_ble_eq_true rfl) rfl rfl rfl (Nat.le_of_ble_eq_true rfl) ⟨Nat.le_of_ble_eq_true rfl, Nat.le_of_ble_eq_true rfl⟩ (by decide +kernel) ?_
    show Ev l d mi_X8_newMan 77 [some (.ref 4), some (.ref p0), some (.int (s.1 p0 8)), none, none, none, none] [] (hp q17) 0 0 _
    refine Ev.blk (pc' := 88) [(.aload_n 0, 0, 0, 0), (.getfield 9, 0, 8, 0), (.iconst 0, 0, 0, 0), (.aload_n 1, 0, 0, 0), (.getfield 70, 0, 4, 0), (.iconst 1, 0, 0, 0), (.isub, 0, 0, 0)] (by decide +kernel) ⟨kf_8_9, ⟨kf_8_70, trivial⟩⟩ rfl (And.intro (kc rfl rfl) (Exists.intro 3 (And.intro rfl (And.intro (kk_ok c1) (?_)))))
    show Ev l d mi_X8_newMan 88 [some (.ref 4), some (.ref p0), some (.int (s.1 p0 8)), none, none, none, none] [.int ((q17.1 p0 0) - (Int32.ofInt 1)), .int (Int32.ofInt 0), .ref 3] (hp q17) 0 0 _
    obtain ⟨q18, hq18, hf⟩ := bd_some hf
    refine Ev.callV (o := 3) (M' := mi_X5_takeNumber) (d' := d - 1) (As := [.int (Int32.ofInt 0), .int ((q17.1 p0 0) - (Int32.ofInt 1))]) (rest := []) (r' := (some (.int q18.1), hp q18.2)) (e_X5_takeNumber (d := d - 1) (by omega) (Int32.ofInt 0) ((q17.1 p0 0) - (Int32.ofInt 1)) q17 _ hq18) (by omega) wm_X5_takeNumber wi_X5_takeNumber wv_X5_takeNumber km_8_66 (kc rfl rfl) (Nat.le_of_ble_eq_true rfl) rfl rfl rfl (Nat.le_of_ble_eq_true rfl) ⟨Nat.le_of_ble_eq_true rfl, Nat.le_of_ble_eq_true rfl⟩ (by decide +kernel) ?_
    show Ev l d mi_X8_newMan 91 [some (.ref 4), some (.ref p0), some (.int (s.1 p0 8)), none, none, none, none] [.int q18.1] (hp q18.2) 0 0 _
    refine Ev.blk (pc' := 112) [(.istore_n 3, 0, 0, 0), (.aload_n 0, 0, 0, 0), (.getfield 9, 0, 8, 0), (.getfield 41, 0, 5, 1), (.istore 4, 0, 0, 0), (.aload_n 0, 0, 0, 0), (.getfield 9, 0, 8, 0), (.iconst 0, 0, 0, 0), (.aload_n 1, 0, 0, 0), (.getfield 73, 0, 4, 1), (.iconst 1, 0, 0, 0), (.isub, 0, 0, 0)] (by decide +kernel) ⟨kf_8_9, ⟨kf_8_41, ⟨kf_8_9, ⟨kf_8_73, trivial⟩⟩⟩⟩ rfl (And.intro (Nat.le_of_ble_eq_true rfl) (And.intro (kc rfl rfl) (Exists.intro 3 (And.intro rfl (And.intro (kc rfl rfl) (And.intro (Nat.le_of_ble_eq_true rfl) (And.intro (kc rfl rfl) (Exists.intro 3 (And.intro rfl (And.intro (kk_ok c1) (?_)))))))))))
    show Ev l d mi_X8_newMan 112 [some (.ref 4), some (.ref p0), some (.int (s.1 p0 8)), some (.int q18.1), some (.int (q18.2.1 3 1)), none, none] [.int ((q18.2.1 p0 1) - (Int32.ofInt 1)), .int (Int32.ofInt 0), .ref 3] (hp q18.2) 0 0 _
    obtain ⟨q19, hq19, hf⟩ := bd_some hf
    refine Ev.callV (o := 3) (M' := mi_X5_takeNumber) (d' := d - 1) (As := [.int (Int32.ofInt 0), .int ((q18.2.1 p0 1) - (Int32.ofInt 1))]) (rest := []) (r' := (some (.int q19.1), hp q19.2)) (e_X5_takeNumber (d := d - 1) (by omega) (Int32.ofInt 0) ((q18.2.1 p0 1) - (Int32.ofInt 1)) q18.2 _ hq19) (by omega) wm_X5_takeNumber wi_X5_takeNumber wv_X5_takeNumber km_8_66 (kc rfl rfl) (Nat.le_of_ble_eq_true rfl) rfl rfl rfl (Nat.le_of_ble_eq_true rfl) ⟨Nat.le_of_ble_eq_true rfl, Nat.le_of_ble_eq_true rfl⟩ (by decide +kernel) ?_
    show Ev l d mi_X8_newMan 115 [some (.ref 4), some (.ref p0), some (.int (s.1 p0 8)), some (.int q18.1), some (.int (q18.2.1 3 1)), none, none] [.int q19.1] (hp q19.2) 0 0 _
    refine Ev.blk (pc' := 128) [(.istore 5, 0, 0, 0), (.iload 5, 0, 0, 0), (.iconst 5, 0, 0, 0), (.imul, 0, 0, 0), (.iload_n 3, 0, 0, 0), (.iadd, 0, 0, 0), (.istore 6, 0, 0, 0), (.aload_n 1, 0, 0, 0), (.iload 6, 0, 0, 0)] (by decide +kernel) trivial rfl (And.intro (Nat.le_of_ble_eq_true rfl) (And.intro (Nat.le_of_ble_eq_true rfl) (?_)))
    show Ev l d mi_X8_newMan 128 [some (.ref 4), some (.ref p0), some (.int (s.1 p0 8)), some (.int q18.1), some (.int (q18.2.1 3 1)), some (.int q19.1), some (.int ((q19.1 * (Int32.ofInt 5)) + q18.1))] [.int ((q19.1 * (Int32.ofInt 5)) + q18.1), .ref p0] (hp q19.2) 0 0 _
    obtain ⟨q20, hq20, hf⟩ := bd_some hf
    refine Ev.callV (o := p0) (M' := mi_X4_isHeld) (d' := d - 1) (As := [.int ((q19.1 * (Int32.ofInt 5)) + q18.1)]) (rest := []) (r' := (some (.int q20.1), hp q20.2)) (e_X4_isHeld (d := d - 1) (by omega) p0 ((q19.1 * (Int32.ofInt 5)) + q18.1) q19.2 _ hq20) (by omega) wm_X4_isHeld wi_X4_isHeld wv_X4_isHeld km_8_155 (kk_ok c1) (Nat.le_of_ble_eq_true rfl) rfl rfl rfl (Nat.le_of_ble_eq_true rfl) ⟨Nat.le_of_ble_eq_true rfl, Nat.le_of_ble_eq_true rfl⟩ (by decide +kernel) ?_
    show Ev l d mi_X8_newMan 131 [some (.ref 4), some (.ref p0), some (.int (s.1 p0 8)), some (.int q18.1), some (.int (q18.2.1 3 1)), some (.int q19.1), some (.int ((q19.1 * (Int32.ofInt 5)) + q18.1))] [.int q20.1] (hp q20.2) 0 0 _
    refine Ev.if_eq (off := 13) (tgt := 144) (by decide +kernel) (by decide) (fun b21 => ?_) (fun b21 => ?_)
    · have hf := (if_pos b21).symm.trans hf
      exact Ev.wk ((e_X8_newMan_j144 hd) p0 (s.1 p0 8) ((q19.1 * (Int32.ofInt 5)) + q18.1) q20.2 _ hf) (And.intro (Or.inl rfl) (And.intro (Or.inr rfl) (And.intro (Or.inr rfl) (And.intro (Or.inl rfl) (And.intro (Or.inl rfl) (And.intro (Or.inl rfl) (And.intro (Or.inr rfl) (trivial))))))))
    · have hf := (if_neg b21).symm.trans hf
      refine Ev.blk (pc' := 141) [(.aload_n 0, 0, 0, 0), (.getfield 9, 0, 8, 0), (.iconst 2, 0, 0, 0), (.iload 4, 0, 0, 0)] (by decide +kernel) ⟨kf_8_9, trivial⟩ rfl (And.intro (kc rfl rfl) (Exists.intro 3 (And.intro rfl (?_))))
      show Ev l d mi_X8_newMan 141 [some (.ref 4), some (.ref p0), some (.int (s.1 p0 8)), some (.int q18.1), some (.int (q18.2.1 3 1)), some (.int q19.1), some (.int ((q19.1 * (Int32.ofInt 5)) + q18.1))] [.int (q18.2.1 3 1), .int (Int32.ofInt 2), .ref 3] (hp q20.2) 0 0 _
      obtain ⟨q22, hq22, hf⟩ := bd_some hf
      refine Ev.callV (o := 3) (M' := mi_X5_fail) (d' := d - 1) (As := [.int (Int32.ofInt 2), .int (q18.2.1 3 1)]) (rest := []) (r' := (none, hp q22)) (e_X5_fail (d := d - 1) (by omega) (Int32.ofInt 2) (q18.2.1 3 1) q20.2 _ hq22) (by omega) wm_X5_fail wi_X5_fail wv_X5_fail km_8_44 (kc rfl rfl) (Nat.le_of_ble_eq_true rfl) rfl rfl rfl (Nat.le_of_ble_eq_true rfl) ⟨Nat.le_of_ble_eq_true rfl, Nat.le_of_ble_eq_true rfl⟩ (by decide +kernel) ?_
      show Ev l d mi_X8_newMan 144 [some (.ref 4), some (.ref p0), some (.int (s.1 p0 8)), some (.int q18.1), some (.int (q18.2.1 3 1)), some (.int q19.1), some (.int ((q19.1 * (Int32.ofInt 5)) + q18.1))] [] (hp q22) 0 0 _
      exact Ev.wk ((e_X8_newMan_j144 hd) p0 (s.1 p0 8) ((q19.1 * (Int32.ofInt 5)) + q18.1) q22 _ hf) (And.intro (Or.inl rfl) (And.intro (Or.inr rfl) (And.intro (Or.inr rfl) (And.intro (Or.inl rfl) (And.intro (Or.inl rfl) (And.intro (Or.inl rfl) (And.intro (Or.inr rfl) (trivial))))))))
  · have hf := (if_pos b3).symm.trans hf
    cases hf
    exact Ev.vret rfl (by decide +kernel) (Nat.le_refl _) (Nat.le_refl _)
