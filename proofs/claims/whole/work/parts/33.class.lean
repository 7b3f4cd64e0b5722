/-! THE LANDED CLASS: functions and proofs, by program (wip/gen_class.py): X8_statement X8_tell X8_question X9_refuse X9_feed X9_end X9_noteFault X9_board X9_fault X9_isTold X9_has X9_letterOf X9_letter X9_kind X9_man X9_isField X9_field X9_at X9_byteOfMan X9_option X9_kept X9_isSide X9_balance X9_value X9_best X9_forced X9_canCome X9_later X9_crop X9_spare X9_addHarm X9_gatherHarm X9_leastHarmed -/
def f_X8_statement_j22 (x1 : Nat) (y0 : Int32) (s : ST) : Option (ST) := (if y0 = 4 then (f_X8_newKind x1 s).bind (fun q3 => some q3) else (if y0 = 5 then (f_X5_failForm s).bind (fun q5 => some q5) else (if y0 = 6 then (f_X5_failForm s).bind (fun q7 => some q7) else (if y0 = 7 then (f_X5_failForm s).bind (fun q9 => some q9) else (if y0 = 8 then (f_X5_failForm s).bind (fun q11 => some q11) else (if y0 = 9 then (f_X8_newMan x1 s).bind (fun q13 => some q13) else (if y0 = 10 then (f_X5_failForm s).bind (fun q15 => some q15) else (if y0 = 11 then (f_X5_failForm s).bind (fun q17 => some q17) else (if y0 = 12 then (f_X5_failForm s).bind (fun q19 => some q19) else (if y0 = 13 then (f_X8_newField x1 s).bind (fun q21 => some q21) else (if y0 = 14 then (f_X5_failForm s).bind (fun q23 => some q23) else (if y0 = 15 then gd (kk x1 4) ((f_X8_begins (s.1 x1 17) (Int32.ofInt 1) s).bind (fun q26 => (if q26.1 = 0 then some q26.2 else (RR (uI q26.2 x1 17 (Int32.ofInt 1)).2.2 x1 16).bind (fun a28 => lt (uI q26.2 x1 17 (Int32.ofInt 1)) (fun s29 => (f_X1_start a28 (Int32.ofInt 0) s29).bind (fun q30 => (t_X1_sum (Int32.ofInt 0) q30).bind (fun q31 => some q31))))))) else (if y0 = 16 then (f_X5_step s).bind (fun q33 => (f_X5_takeNumber (Int32.ofInt 0) ((Int8.ofInt 99).toInt32) q33).bind (fun q34 => gd (kk x1 4) (lt (uI q34.2 x1 18 q34.1) (fun s36 => some s36)))) else (if y0 = 17 then (f_X5_step s).bind (fun q38 => (f_X5_takeNumber (Int32.ofInt 0) ((Int8.ofInt 100).toInt32) q38).bind (fun q39 => gd (kk x1 4) (lt (uI q39.2 x1 19 q39.1) (fun s41 => some s41)))) else ((f_X5_failForm s).bind (fun q42 => some q42))))))))))))))))
set_option maxHeartbeats 2000000 in
set_option maxRecDepth 20000 in
theorem e_X8_statement_j22 {l : Launch} {d : Nat} (hd : 68 ≤ d) (x1 : Nat) (y0 : Int32) (s : ST) (r : ST) (hf : f_X8_statement_j22 x1 y0 s = some r) : Ev l d mi_X8_statement 22 [some (.ref 4), some (.ref x1)] [.int y0] (hp s) 0 0 (none, hp r) := by
  unfold f_X8_statement_j22 at hf
  by_cases b2 : y0 = 4
  · have hf := (if_pos b2).symm.trans hf
    refine Ev.tswitch (dflt := 182) (lo := 4) (hi := 17) (offs := #[70, 182, 182, 182, 182, 78, 182, 182, 182, 86, 182, 94, 134, 158]) (len := 70) (tgt := 92) (by decide +kernel) (by rw [b2]; decide) (by decide) ?_
    refine Ev.blk (pc' := 94) [(.aload_n 0, 0, 0, 0), (.aload_n 1, 0, 0, 0)] (by decide +kernel) trivial rfl (?_)
    show Ev l d mi_X8_statement 94 [some (.ref 4), some (.ref x1)] [.ref x1, .ref 4] (hp s) 0 0 _
    obtain ⟨q3, hq3, hf⟩ := bd_some hf
    refine Ev.callV (o := 4) (M' := mi_X8_newKind) (d' := d - 1) (As := [.ref x1]) (rest := []) (r' := (none, hp q3)) (e_X8_newKind (d := d - 1) (by omega) x1 s _ hq3) (by omega) wm_X8_newKind wi_X8_newKind wv_X8_newKind km_8_83 (kc rfl rfl) (Nat.le_of_ble_eq_true rfl) rfl rfl rfl (Nat.le_of_ble_eq_true rfl) ⟨Nat.le_of_ble_eq_true rfl, Nat.le_of_ble_eq_true rfl⟩ (by decide +kernel) ?_
    show Ev l d mi_X8_statement 97 [some (.ref 4), some (.ref x1)] [] (hp q3) 0 0 _
    refine Ev.goto (off := 114) (tgt := 211) (by decide +kernel) (by decide) ?_
    cases hf
    exact Ev.vret rfl (by decide +kernel) (Nat.le_refl _) (Nat.le_refl _)
  · have hf := (if_neg b2).symm.trans hf
    by_cases b4 : y0 = 5
    · have hf := (if_pos b4).symm.trans hf
      refine Ev.tswitch (dflt := 182) (lo := 4) (hi := 17) (offs := #[70, 182, 182, 182, 182, 78, 182, 182, 182, 86, 182, 94, 134, 158]) (len := 70) (tgt := 204) (by decide +kernel) (by rw [b4]; decide) (by decide) ?_
      refine Ev.blk (pc' := 208) [(.aload_n 0, 0, 0, 0), (.getfield 9, 0, 8, 0)] (by decide +kernel) ⟨kf_8_9, trivial⟩ rfl (And.intro (kc rfl rfl) (Exists.intro 3 (And.intro rfl (?_))))
      show Ev l d mi_X8_statement 208 [some (.ref 4), some (.ref x1)] [.ref 3] (hp s) 0 0 _
      obtain ⟨q5, hq5, hf⟩ := bd_some hf
      refine Ev.callV (o := 3) (M' := mi_X5_failForm) (d' := d - 1) (As := []) (rest := []) (r' := (none, hp q5)) (e_X5_failForm (d := d - 1) (by omega) s _ hq5) (by omega) wm_X5_failForm wi_X5_failForm wv_X5_failForm km_8_59 (kc rfl rfl) (Nat.le_of_ble_eq_true rfl) rfl rfl rfl (Nat.le_of_ble_eq_true rfl) ⟨Nat.le_of_ble_eq_true rfl, Nat.le_of_ble_eq_true rfl⟩ (by decide +kernel) ?_
      show Ev l d mi_X8_statement 211 [some (.ref 4), some (.ref x1)] [] (hp q5) 0 0 _
      cases hf
      exact Ev.vret rfl (by decide +kernel) (Nat.le_refl _) (Nat.le_refl _)
    · have hf := (if_neg b4).symm.trans hf
      by_cases b6 : y0 = 6
      · have hf := (if_pos b6).symm.trans hf
        refine Ev.tswitch (dflt := 182) (lo := 4) (hi := 17) (offs := #[70, 182, 182, 182, 182, 78, 182, 182, 182, 86, 182, 94, 134, 158]) (len := 70) (tgt := 204) (by decide +kernel) (by rw [b6]; decide) (by decide) ?_
        refine Ev.blk (pc' := 208) [(.aload_n 0, 0, 0, 0), (.getfield 9, 0, 8, 0)] (by decide +kernel) ⟨kf_8_9, trivial⟩ rfl (And.intro (kc rfl rfl) (Exists.intro 3 (And.intro rfl (?_))))
        show Ev l d mi_X8_statement 208 [some (.ref 4), some (.ref x1)] [.ref 3] (hp s) 0 0 _
        obtain ⟨q7, hq7, hf⟩ := bd_some hf
        refine Ev.callV (o := 3) (M' := mi_X5_failForm) (d' := d - 1) (As := []) (rest := []) (r' := (none, hp q7)) (e_X5_failForm (d := d - 1) (by omega) s _ hq7) (by omega) wm_X5_failForm wi_X5_failForm wv_X5_failForm km_8_59 (kc rfl rfl) (Nat.le_of_ble_eq_true rfl) rfl rfl rfl (Nat.le_of_ble_eq_true rfl) ⟨Nat.le_of_ble_eq_true rfl, Nat.le_of_ble_eq_true rfl⟩ (by decide +kernel) ?_
        show Ev l d mi_X8_statement 211 [some (.ref 4), some (.ref x1)] [] (hp q7) 0 0 _
        cases hf
        exact Ev.vret rfl (by decide +kernel) (Nat.le_refl _) (Nat.le_refl _)
      · have hf := (if_neg b6).symm.trans hf
        by_cases b8 : y0 = 7
        · have hf := (if_pos b8).symm.trans hf
          refine Ev.tswitch (dflt := 182) (lo := 4) (hi := 17) (offs := #[70, 182, 182, 182, 182, 78, 182, 182, 182, 86, 182, 94, 134, 158]) (len := 70) (tgt := 204) (by decide +kernel) (by rw [b8]; decide) (by decide) ?_
          refine Ev.blk (pc' := 208) [(.aload_n 0, 0, 0, 0), (.getfield 9, 0, 8, 0)] (by decide +kernel) ⟨kf_8_9, trivial⟩ rfl (And.intro (kc rfl rfl) (Exists.intro 3 (And.intro rfl (?_))))
          show Ev l d mi_X8_statement 208 [some (.ref 4), some (.ref x1)] [.ref 3] (hp s) 0 0 _
          obtain ⟨q9, hq9, hf⟩ := bd_some hf
          refine Ev.callV (o := 3) (M' := mi_X5_failForm) (d' := d - 1) (As := []) (rest := []) (r' := (none, hp q9)) (e_X5_failForm (d := d - 1) (by omega) s _ hq9) (by omega) wm_X5_failForm wi_X5_failForm wv_X5_failForm km_8_59 (kc rfl rfl) (Nat.le_of_ble_eq_true rfl) rfl rfl rfl (Nat.le_of_ble_eq_true rfl) ⟨Nat.le_of_ble_eq_true rfl, Nat.le_of_ble_eq_true rfl⟩ (by decide +kernel) ?_
          show Ev l d mi_X8_statement 211 [some (.ref 4), some (.ref x1)] [] (hp q9) 0 0 _
          cases hf
          exact Ev.vret rfl (by decide +kernel) (Nat.le_refl _) (Nat.le_refl _)
        · have hf := (if_neg b8).symm.trans hf
          by_cases b10 : y0 = 8
          · have hf := (if_pos b10).symm.trans hf
            refine Ev.tswitch (dflt := 182) (lo := 4) (hi := 17) (offs := #[70, 182, 182, 182, 182, 78, 182, 182, 182, 86, 182, 94, 134, 158]) (len := 70) (tgt := 204) (by decide +kernel) (by rw [b10]; decide) (by decide) ?_
            refine Ev.blk (pc' := 208) [(.aload_n 0, 0, 0, 0), (.getfield 9, 0, 8, 0)] (by decide +kernel) ⟨kf_8_9, trivial⟩ rfl (And.intro (kc rfl rfl) (Exists.intro 3 (And.intro rfl (?_))))
            show Ev l d mi_X8_statement 208 [some (.ref 4), some (.ref x1)] [.ref 3] (hp s) 0 0 _
            obtain ⟨q11, hq11, hf⟩ := bd_some hf
            refine Ev.callV (o := 3) (M' := mi_X5_failForm) (d' := d - 1) (As := []) (rest := []) (r' := (none, hp q11)) (e_X5_failForm (d := d - 1) (by omega) s _ hq11) (by omega) wm_X5_failForm wi_X5_failForm wv_X5_failForm km_8_59 (kc rfl rfl) (Nat.le_of_ble_eq_true rfl) rfl rfl rfl (Nat.le_of_ble_eq_true rfl) ⟨Nat.le_of_ble_eq_true rfl, Nat.le_of_ble_eq_true rfl⟩ (by decide +kernel) ?_
            show Ev l d mi_X8_statement 211 [some (.ref 4), some (.ref x1)] [] (hp q11) 0 0 _
            cases hf
            exact Ev.vret rfl (by decide +kernel) (Nat.le_refl _) (Nat.le_refl _)
          · have hf := (if_neg b10).symm.trans hf
            by_cases b12 : y0 = 9
            · have hf := (if_pos b12).symm.trans hf
              refine Ev.tswitch (dflt := 182) (lo := 4) (hi := 17) (offs := #[70, 182, 182, 182, 182, 78, 182, 182, 182, 86, 182, 94, 134, 158]) (len := 70) (tgt := 100) (by decide +kernel) (by rw [b12]; decide) (by decide) ?_
              refine Ev.blk (pc' := 102) [(.aload_n 0, 0, 0, 0), (.aload_n 1, 0, 0, 0)] (by decide +kernel) trivial rfl (?_)
              show Ev l d mi_X8_statement 102 [some (.ref 4), some (.ref x1)] [.ref x1, .ref 4] (hp s) 0 0 _
              obtain ⟨q13, hq13, hf⟩ := bd_some hf
              refine Ev.callV (o := 4) (M' := mi_X8_newMan) (d' := d - 1) (As := [.ref x1]) (rest := []) (r' := (none, hp q13)) (e_X8_newMan (d := d - 1) (by omega) x1 s _ hq13) (by omega) wm_X8_newMan wi_X8_newMan wv_X8_newMan km_8_86 (kc rfl rfl) (Nat.le_of_ble_eq_true rfl) rfl rfl rfl (Nat.le_of_ble_eq_true rfl) ⟨Nat.le_of_ble_eq_true rfl, Nat.le_of_ble_eq_true rfl⟩ (by decide +kernel) ?_
              show Ev l d mi_X8_statement 105 [some (.ref 4), some (.ref x1)] [] (hp q13) 0 0 _
              refine Ev.goto (off := 106) (tgt := 211) (by decide +kernel) (by decide) ?_
              cases hf
              exact Ev.vret rfl (by decide +kernel) (Nat.le_refl _) (Nat.le_refl _)
            · have hf := (if_neg b12).symm.trans hf
              by_cases b14 : y0 = 10
              · have hf := (if_pos b14).symm.trans hf
                refine Ev.tswitch (dflt := 182) (lo := 4) (hi := 17) (offs := #[70, 182, 182, 182, 182, 78, 182, 182, 182, 86, 182, 94, 134, 158]) (len := 70) (tgt := 204) (by decide +kernel) (by rw [b14]; decide) (by decide) ?_
                refine Ev.blk (pc' := 208) [(.aload_n 0, 0, 0, 0), (.getfield 9, 0, 8, 0)] (by decide +kernel) ⟨kf_8_9, trivial⟩ rfl (And.intro (kc rfl rfl) (Exists.intro 3 (And.intro rfl (?_))))
                show Ev l d mi_X8_statement 208 [some (.ref 4), some (.ref x1)] [.ref 3] (hp s) 0 0 _
                obtain ⟨q15, hq15, hf⟩ := bd_some hf
                refine Ev.callV (o := 3) (M' := mi_X5_failForm) (d' := d - 1) (As := []) (rest := []) (r' := (none, hp q15)) (e_X5_failForm (d := d - 1) (by omega) s _ hq15) (by omega) wm_X5_failForm wi_X5_failForm wv_X5_failForm km_8_59 (kc rfl rfl) (Nat.le_of_ble_eq_true rfl) rfl rfl rfl (Nat.le_of_ble_eq_true rfl) ⟨Nat.le_of_ble_eq_true rfl, Nat.le_of_ble_eq_true rfl⟩ (by decide +kernel) ?_
                show Ev l d mi_X8_statement 211 [some (.ref 4), some (.ref x1)] [] (hp q15) 0 0 _
                cases hf
                exact Ev.vret rfl (by decide +kernel) (Nat.le_refl _) (Nat.le_refl _)
              · have hf := (if_neg b14).symm.trans hf
                by_cases b16 : y0 = 11
                · have hf := (if_pos b16).symm.trans hf
                  refine Ev.tswitch (dflt := 182) (lo := 4) (hi := 17) (offs := #[70, 182, 182, 182, 182, 78, 182, 182, 182, 86, 182, 94, 134, 158]) (len := 70) (tgt := 204) (by decide +kernel) (by rw [b16]; decide) (by decide) ?_
                  refine Ev.blk (pc' := 208) [(.aload_n 0, 0, 0, 0), (.getfield 9, 0, 8, 0)] (by decide +kernel) ⟨kf_8_9, trivial⟩ rfl (And.intro (kc rfl rfl) (Exists.intro 3 (And.intro rfl (?_))))
                  show Ev l d mi_X8_statement 208 [some (.ref 4), some (.ref x1)] [.ref 3] (hp s) 0 0 _
                  obtain ⟨q17, hq17, hf⟩ := bd_some hf
                  refine Ev.callV (o := 3) (M' := mi_X5_failForm) (d' := d - 1) (As := []) (rest := []) (r' := (none, hp q17)) (e_X5_failForm (d := d - 1) (by omega) s _ hq17) (by omega) wm_X5_failForm wi_X5_failForm wv_X5_failForm km_8_59 (kc rfl rfl) (Nat.le_of_ble_eq_true rfl) rfl rfl rfl (Nat.le_of_ble_eq_true rfl) ⟨Nat.le_of_ble_eq_true rfl, Nat.le_of_ble_eq_true rfl⟩ (by decide +kernel) ?_
                  show Ev l d mi_X8_statement 211 [some (.ref 4), some (.ref x1)] [] (hp q17) 0 0 _
                  cases hf
                  exact Ev.vret rfl (by decide +kernel) (Nat.le_refl _) (Nat.le_refl _)
                · have hf := (if_neg b16).symm.trans hf
                  by_cases b18 : y0 = 12
                  · have hf := (if_pos b18).symm.trans hf
                    refine Ev.tswitch (dflt := 182) (lo := 4) (hi := 17) (offs := #[70, 182, 182, 182, 182, 78, 182, 182, 182, 86, 182, 94, 134, 158]) (len := 70) (tgt := 204) (by decide +kernel) (by rw [b18]; decide) (by decide) ?_
                    refine Ev.blk (pc' := 208) [(.aload_n 0, 0, 0, 0), (.getfield 9, 0, 8, 0)] (by decide +kernel) ⟨kf_8_9, trivial⟩ rfl (And.intro (kc rfl rfl) (Exists.intro 3 (And.intro rfl (?_))))
                    show Ev l d mi_X8_statement 208 [some (.ref 4), some (.ref x1)] [.ref 3] (hp s) 0 0 _
                    obtain ⟨q19, hq19, hf⟩ := bd_some hf
                    refine Ev.callV (o := 3) (M' := mi_X5_failForm) (d' := d - 1) (As := []) (rest := []) (r' := (none, hp q19)) (e_X5_failForm (d := d - 1) (by omega) s _ hq19) (by omega) wm_X5_failForm wi_X5_failForm wv_X5_failForm km_8_59 (kc rfl rfl) (Nat.le_of_ble_eq_true rfl) rfl rfl rfl (Nat.le_of_ble_eq_true rfl) ⟨Nat.le_of_ble_eq_true rfl, Nat.le_of_ble_eq_true rfl⟩ (by decide +kernel) ?_
                    show Ev l d mi_X8_statement 211 [some (.ref 4), some (.ref x1)] [] (hp q19) 0 0 _
                    cases hf
                    exact Ev.vret rfl (by decide +kernel) (Nat.le_refl _) (Nat.le_refl _)
                  · have hf := (if_neg b18).symm.trans hf
                    by_cases b20 : y0 = 13
                    · have hf := (if_pos b20).symm.trans hf
                      refine Ev.tswitch (dflt := 182) (lo := 4) (hi := 17) (offs := #[70, 182, 182, 182, 182, 78, 182, 182, 182, 86, 182, 94, 134, 158]) (len := 70) (tgt := 108) (by decide +kernel) (by rw [b20]; decide) (by decide) ?_
                      refine Ev.blk (pc' := 110) [(.aload_n 0, 0, 0, 0), (.aload_n 1, 0, 0, 0)] (by decide +kernel) trivial rfl (?_)
                      show Ev l d mi_X8_statement 110 [some (.ref 4), some (.ref x1)] [.ref x1, .ref 4] (hp s) 0 0 _
                      obtain ⟨q21, hq21, hf⟩ := bd_some hf
                      refine Ev.callV (o := 4) (M' := mi_X8_newField) (d' := d - 1) (As := [.ref x1]) (rest := []) (r' := (none, hp q21)) (e_X8_newField (d := d - 1) (by omega) x1 s _ hq21) (by omega) wm_X8_newField wi_X8_newField wv_X8_newField km_8_89 (kc rfl rfl) (Nat.le_of_ble_eq_true rfl) rfl rfl rfl (Nat.le_of_ble_eq_true rfl) ⟨Nat.le_of_ble_eq_true rfl, Nat.le_of_ble_eq_true rfl⟩ (by decide +kernel) ?_
                      show Ev l d mi_X8_statement 113 [some (.ref 4), some (.ref x1)] [] (hp q21) 0 0 _
                      refine Ev.goto (off := 98) (tgt := 211) (by decide +kernel) (by decide) ?_
                      cases hf
                      exact Ev.vret rfl (by decide +kernel) (Nat.le_refl _) (Nat.le_refl _)
                    · have hf := (if_neg b20).symm.trans hf
                      by_cases b22 : y0 = 14
                      · have hf := (if_pos b22).symm.trans hf
                        refine Ev.tswitch (dflt := 182) (lo := 4) (hi := 17) (offs := #[70, 182, 182, 182, 182, 78, 182, 182, 182, 86, 182, 94, 134, 158]) (len := 70) (tgt := 204) (by decide +kernel) (by rw [b22]; decide) (by decide) ?_
                        refine Ev.blk (pc' := 208) [(.aload_n 0, 0, 0, 0), (.getfield 9, 0, 8, 0)] (by decide +kernel) ⟨kf_8_9, trivial⟩ rfl (And.intro (kc rfl rfl) (Exists.intro 3 (And.intro rfl (?_))))
                        show Ev l d mi_X8_statement 208 [some (.ref 4), some (.ref x1)] [.ref 3] (hp s) 0 0 _
                        obtain ⟨q23, hq23, hf⟩ := bd_some hf
                        refine Ev.callV (o := 3) (M' := mi_X5_failForm) (d' := d - 1) (As := []) (rest := []) (r' := (none, hp q23)) (e_X5_failForm (d := d - 1) (by omega) s _ hq23) (by omega) wm_X5_failForm wi_X5_failForm wv_X5_failForm km_8_59 (kc rfl rfl) (Nat.le_of_ble_eq_true rfl) rfl rfl rfl (Nat.le_of_ble_eq_true rfl) ⟨Nat.le_of_ble_eq_true rfl, Nat.le_of_ble_eq_true rfl⟩ (by decide +kernel) ?_
                        show Ev l d mi_X8_statement 211 [some (.ref 4), some (.ref x1)] [] (hp q23) 0 0 _
                        cases hf
                        exact Ev.vret rfl (by decide +kernel) (Nat.le_refl _) (Nat.le_refl _)
                      · have hf := (if_neg b22).symm.trans hf
                        by_cases b24 : y0 = 15
                        · have hf := (if_pos b24).symm.trans hf
                          refine Ev.tswitch (dflt := 182) (lo := 4) (hi := 17) (offs := #[70, 182, 182, 182, 182, 78, 182, 182, 182, 86, 182, 94, 134, 158]) (len := 70) (tgt := 116) (by decide +kernel) (by rw [b24]; decide) (by decide) ?_
                          obtain ⟨c25, hf⟩ := gd_some hf
                          refine Ev.blk (pc' := 122) [(.aload_n 0, 0, 0, 0), (.aload_n 1, 0, 0, 0), (.getfield 92, 0, 4, 17), (.iconst 1, 0, 0, 0)] (by decide +kernel) ⟨kf_8_92, trivial⟩ rfl (And.intro (kk_ok c25) (?_))
                          show Ev l d mi_X8_statement 122 [some (.ref 4), some (.ref x1)] [.int (Int32.ofInt 1), .int (s.1 x1 17), .ref 4] (hp s) 0 0 _
                          obtain ⟨q26, hq26, hf⟩ := bd_some hf
                          refine Ev.callV (o := 4) (M' := mi_X8_begins) (d' := d - 1) (As := [.int (s.1 x1 17), .int (Int32.ofInt 1)]) (rest := []) (r' := (some (.int q26.1), hp q26.2)) (e_X8_begins (d := d - 1) (by omega) (s.1 x1 17) (Int32.ofInt 1) s _ hq26) (by omega) wm_X8_begins wi_X8_begins wv_X8_begins km_8_95 (kc rfl rfl) (Nat.le_of_ble_eq_true rfl) rfl rfl rfl (Nat.le_of_ble_eq_true rfl) ⟨Nat.le_of_ble_eq_true rfl, Nat.le_of_ble_eq_true rfl⟩ (by decide +kernel) ?_
                          show Ev l d mi_X8_statement 125 [some (.ref 4), some (.ref x1)] [.int q26.1] (hp q26.2) 0 0 _
                          refine Ev.if_eq (off := 86) (tgt := 211) (by decide +kernel) (by decide) (fun b27 => ?_) (fun b27 => ?_)
                          · have hf := (if_pos b27).symm.trans hf
                            cases hf
                            exact Ev.vret rfl (by decide +kernel) (Nat.le_refl _) (Nat.le_refl _)
                          · have hf := (if_neg b27).symm.trans hf
                            obtain ⟨a28, ha28, hf⟩ := bd_some hf
                            obtain ⟨s29, hs29, hf⟩ := lt_some hf
                            refine Ev.blk (pc' := 142) [(.aload_n 1, 0, 0, 0), (.iconst 1, 0, 0, 0), (.putfield 92, 0, 4, 17), (.aload_n 0, 0, 0, 0), (.getfield 20, 0, 8, 1), (.aload_n 1, 0, 0, 0), (.getfield 99, 0, 4, 16), (.iconst 0, 0, 0, 0)] (by decide +kernel) ⟨⟨kf_8_92, Or.inl rfl⟩, ⟨kf_8_20, ⟨kf_8_99, trivial⟩⟩⟩ rfl (And.intro (kk_ok c25) (And.intro (kc rfl rfl) (Exists.intro 5 (And.intro rfl (And.intro (kk_ok c25) (Exists.intro a28 (And.intro ha28 (?_))))))))
                            show Ev l d mi_X8_statement 142 [some (.ref 4), some (.ref x1)] [.int (Int32.ofInt 0), .ref a28, .ref 5] (hp (uI q26.2 x1 17 (Int32.ofInt 1))) 0 0 _
                            rw [← hs29]
                            obtain ⟨q30, hq30, hf⟩ := bd_some hf
                            refine Ev.callV (o := 5) (M' := mi_X1_start) (d' := d - 1) (As := [.ref a28, .int (Int32.ofInt 0)]) (rest := []) (r' := (none, hp q30)) (e_X1_start (d := d - 1) (by omega) a28 (Int32.ofInt 0) s29 _ hq30) (by omega) wm_X1_start wi_X1_start wv_X1_start km_8_103 (kc rfl rfl) (Nat.le_of_ble_eq_true rfl) rfl rfl rfl (Nat.le_of_ble_eq_true rfl) ⟨Nat.le_of_ble_eq_true rfl, Nat.le_of_ble_eq_true rfl⟩ (by decide +kernel) ?_
                            show Ev l d mi_X8_statement 145 [some (.ref 4), some (.ref x1)] [] (hp q30) 0 0 _
                            refine Ev.blk (pc' := 150) [(.aload_n 0, 0, 0, 0), (.getfield 20, 0, 8, 1), (.iconst 0, 0, 0, 0)] (by decide +kernel) ⟨kf_8_20, trivial⟩ rfl (And.intro (kc rfl rfl) (Exists.intro 5 (And.intro rfl (?_))))
                            show Ev l d mi_X8_statement 150 [some (.ref 4), some (.ref x1)] [.int (Int32.ofInt 0), .ref 5] (hp q30) 0 0 _
                            obtain ⟨q31, hq31, hf⟩ := bd_some hf
                            refine Ev.callV (o := 5) (M' := mi_X1_sum) (d' := d - 1) (As := [.int (Int32.ofInt 0)]) (rest := []) (r' := (none, hp q31)) (te_X1_sum (d := d - 1) (by omega) (Int32.ofInt 0) q30 _ hq31) (by omega) wm_X1_sum wi_X1_sum wv_X1_sum km_8_107 (kc rfl rfl) (Nat.le_of_ble_eq_true rfl) rfl rfl rfl (Nat.le_of_ble_eq_true rfl) ⟨Nat.le_of_ble_eq_true rfl, Nat.le_of_ble_eq_true rfl⟩ (by decide +kernel) ?_
                            show Ev l d mi_X8_statement 153 [some (.ref 4), some (.ref x1)] [] (hp q31) 0 0 _
                            refine Ev.goto (off := 58) (tgt := 211) (by decide +kernel) (by decide) ?_
                            cases hf
                            exact Ev.vret rfl (by decide +kernel) (Nat.le_refl _) (Nat.le_refl _)
                        · have hf := (if_neg b24).symm.trans hf
                          by_cases b32 : y0 = 16
                          · have hf := (if_pos b32).symm.trans hf
                            refine Ev.tswitch (dflt := 182) (lo := 4) (hi := 17) (offs := #[70, 182, 182, 182, 182, 78, 182, 182, 182, 86, 182, 94, 134, 158]) (len := 70) (tgt := 156) (by decide +kernel) (by rw [b32]; decide) (by decide) ?_
                            refine Ev.blk (pc' := 160) [(.aload_n 0, 0, 0, 0), (.getfield 9, 0, 8, 0)] (by decide +kernel) ⟨kf_8_9, trivial⟩ rfl (And.intro (kc rfl rfl) (Exists.intro 3 (And.intro rfl (?_))))
                            show Ev l d mi_X8_statement 160 [some (.ref 4), some (.ref x1)] [.ref 3] (hp s) 0 0 _
                            obtain ⟨q33, hq33, hf⟩ := bd_some hf
                            refine Ev.callV (o := 3) (M' := mi_X5_step) (d' := d - 1) (As := []) (rest := []) (r' := (none, hp q33)) (e_X5_step (d := d - 1) (by omega) s _ hq33) (by omega) wm_X5_step wi_X5_step wv_X5_step km_8_110 (kc rfl rfl) (Nat.le_of_ble_eq_true rfl) rfl rfl rfl (Nat.le_of_ble_eq_true rfl) ⟨Nat.le_of_ble_eq_true rfl, Nat.le_of_ble_eq_true rfl⟩ (by decide +kernel) ?_
                            show Ev l d mi_X8_statement 163 [some (.ref 4), some (.ref x1)] [] (hp q33) 0 0 _
                            refine Ev.blk (pc' := 171) [(.aload_n 1, 0, 0, 0), (.aload_n 0, 0, 0, 0), (.getfield 9, 0, 8, 0), (.iconst 0, 0, 0, 0), (.bipush 99, 0, 0, 0)] (by decide +kernel) ⟨kf_8_9, trivial⟩ rfl (And.intro (kc rfl rfl) (Exists.intro 3 (And.intro rfl (?_))))
                            show Ev l d mi_X8_statement 171 [some (.ref 4), some (.ref x1)] [.int ((Int8.ofInt 99).toInt32), .int (Int32.ofInt 0), .ref 3, .ref x1] (hp q33) 0 0 _
                            obtain ⟨q34, hq34, hf⟩ := bd_some hf
                            refine Ev.callV (o := 3) (M' := mi_X5_takeNumber) (d' := d - 1) (As := [.int (Int32.ofInt 0), .int ((Int8.ofInt 99).toInt32)]) (rest := [.ref x1]) (r' := (some (.int q34.1), hp q34.2)) (e_X5_takeNumber (d := d - 1) (by omega) (Int32.ofInt 0) ((Int8.ofInt 99).toInt32) q33 _ hq34) (by omega) wm_X5_takeNumber wi_X5_takeNumber wv_X5_takeNumber km_8_66 (kc rfl rfl) (Nat.le_of_ble_eq_true rfl) rfl rfl rfl (Nat.le_of_ble_eq_true rfl) ⟨Nat.le_of_ble_eq_true rfl, Nat.le_of_ble_eq_true rfl⟩ (by decide +kernel) ?_
                            show Ev l d mi_X8_statement 174 [some (.ref 4), some (.ref x1)] [.int q34.1, .ref x1] (hp q34.2) 0 0 _
                            obtain ⟨c35, hf⟩ := gd_some hf
                            obtain ⟨s36, hs36, hf⟩ := lt_some hf
                            refine Ev.blk (pc' := 177) [(.putfield 113, 0, 4, 18)] (by decide +kernel) ⟨⟨kf_8_113, Or.inl rfl⟩, trivial⟩ rfl (And.intro (kk_ok c35) (?_))
                            show Ev l d mi_X8_statement 177 [some (.ref 4), some (.ref x1)] [] (hp (uI q34.2 x1 18 q34.1)) 0 0 _
                            rw [← hs36]
                            refine Ev.goto (off := 34) (tgt := 211) (by decide +kernel) (by decide) ?_
                            cases hf
                            exact Ev.vret rfl (by decide +kernel) (Nat.le_refl _) (Nat.le_refl _)
                          · have hf := (if_neg b32).symm.trans hf
                            by_cases b37 : y0 = 17
                            · have hf := (if_pos b37).symm.trans hf
                              refine Ev.tswitch (dflt := 182) (lo := 4) (hi := 17) (offs := #[70, 182, 182, 182, 182, 78, 182, 182, 182, 86, 182, 94, 134, 158]) (len := 70) (tgt := 180) (by decide +kernel) (by rw [b37]; decide) (by decide) ?_
                              refine Ev.blk (pc' := 184) [(.aload_n 0, 0, 0, 0), (.getfield 9, 0, 8, 0)] (by decide +kernel) ⟨kf_8_9, trivial⟩ rfl (And.intro (kc rfl rfl) (Exists.intro 3 (And.intro rfl (?_))))
                              show Ev l d mi_X8_statement 184 [some (.ref 4), some (.ref x1)] [.ref 3] (hp s) 0 0 _
                              obtain ⟨q38, hq38, hf⟩ := bd_some hf
                              refine Ev.callV (o := 3) (M' := mi_X5_step) (d' := d - 1) (As := []) (rest := []) (r' := (none, hp q38)) (e_X5_step (d := d - 1) (by omega) s _ hq38) (by omega) wm_X5_step wi_X5_step wv_X5_step km_8_110 (kc rfl rfl) (Nat.le_of_ble_eq_true rfl) rfl rfl rfl (Nat.le_of_ble_eq_true rfl) ⟨Nat.le_of_ble_eq_true rfl, Nat.le_of_ble_eq_true rfl⟩ (by decide +kernel) ?_
                              show Ev l d mi_X8_statement 187 [some (.ref 4), some (.ref x1)] [] (hp q38) 0 0 _
                              refine Ev.blk (pc' := 195) [(.aload_n 1, 0, 0, 0), (.aload_n 0, 0, 0, 0), (.getfield 9, 0, 8, 0), (.iconst 0, 0, 0, 0), (.bipush 100, 0, 0, 0)] (by decide +kernel) ⟨kf_8_9, trivial⟩ rfl (And.intro (kc rfl rfl) (Exists.intro 3 (And.intro rfl (?_))))
                              show Ev l d mi_X8_statement 195 [some (.ref 4), some (.ref x1)] [.int ((Int8.ofInt 100).toInt32), .int (Int32.ofInt 0), .ref 3, .ref x1] (hp q38) 0 0 _
                              obtain ⟨q39, hq39, hf⟩ := bd_some hf
                              refine Ev.callV (o := 3) (M' := mi_X5_takeNumber) (d' := d - 1) (As := [.int (Int32.ofInt 0), .int ((Int8.ofInt 100).toInt32)]) (rest := [.ref x1]) (r' := (some (.int q39.1), hp q39.2)) (e_X5_takeNumber (d := d - 1) (by omega) (Int32.ofInt 0) ((Int8.ofInt 100).toInt32) q38 _ hq39) (by omega) wm_X5_takeNumber wi_X5_takeNumber wv_X5_takeNumber km_8_66 (kc rfl rfl) (Nat.le_of_ble_eq_true rfl) rfl rfl rfl (Nat.le_of_ble_eq_true rfl) ⟨Nat.le_of_ble_eq_true rfl, Nat.le_of_ble_eq_true rfl⟩ (by decide +kernel) ?_
                              show Ev l d mi_X8_statement 198 [some (.ref 4), some (.ref x1)] [.int q39.1, .ref x1] (hp q39.2) 0 0 _
                              obtain ⟨c40, hf⟩ := gd_some hf
                              obtain ⟨s41, hs41, hf⟩ := lt_some hf
                              refine Ev.blk (pc' := 201) [(.putfield 116, 0, 4, 19)] (by decide +kernel) ⟨⟨kf_8_116, Or.inl rfl⟩, trivial⟩ rfl (And.intro (kk_ok c40) (?_))
                              show Ev l d mi_X8_statement 201 [some (.ref 4), some (.ref x1)] [] (hp (uI q39.2 x1 19 q39.1)) 0 0 _
                              rw [← hs41]
                              refine Ev.goto (off := 10) (tgt := 211) (by decide +kernel) (by decide) ?_
                              cases hf
                              exact Ev.vret rfl (by decide +kernel) (Nat.le_refl _) (Nat.le_refl _)
                            · have hf := (if_neg b37).symm.trans hf
                              refine Ev.tswitch (dflt := 182) (lo := 4) (hi := 17) (offs := #[70, 182, 182, 182, 182, 78, 182, 182, 182, 86, 182, 94, 134, 158]) (len := 70) (tgt := 204) (by decide +kernel) (by have e0 := sw_ne b2 (c := (4)) (by decide); have e1 := sw_ne b4 (c := (5)) (by decide); have e2 := sw_ne b6 (c := (6)) (by decide); have e3 := sw_ne b8 (c := (7)) (by decide); have e4 := sw_ne b10 (c := (8)) (by decide); have e5 := sw_ne b12 (c := (9)) (by decide); have e6 := sw_ne b14 (c := (10)) (by decide); have e7 := sw_ne b16 (c := (11)) (by decide); have e8 := sw_ne b18 (c := (12)) (by decide); have e9 := sw_ne b20 (c := (13)) (by decide); have e10 := sw_ne b22 (c := (14)) (by decide); have e11 := sw_ne b24 (c := (15)) (by decide); have e12 := sw_ne b32 (c := (16)) (by decide); have e13 := sw_ne b37 (c := (17)) (by decide); rw [if_pos (by omega)]; decide) (by decide) ?_
                              refine Ev.blk (pc' := 208) [(.aload_n 0, 0, 0, 0), (.getfield 9, 0, 8, 0)] (by decide +kernel) ⟨kf_8_9, trivial⟩ rfl (And.intro (kc rfl rfl) (Exists.intro 3 (And.intro rfl (?_))))
                              show Ev l d mi_X8_statement 208 [some (.ref 4), some (.ref x1)] [.ref 3] (hp s) 0 0 _
                              obtain ⟨q42, hq42, hf⟩ := bd_some hf
                              refine Ev.callV (o := 3) (M' := mi_X5_failForm) (d' := d - 1) (As := []) (rest := []) (r' := (none, hp q42)) (e_X5_failForm (d := d - 1) (by omega) s _ hq42) (by omega) wm_X5_failForm wi_X5_failForm wv_X5_failForm km_8_59 (kc rfl rfl) (Nat.le_of_ble_eq_true rfl) rfl rfl rfl (Nat.le_of_ble_eq_true rfl) ⟨Nat.le_of_ble_eq_true rfl, Nat.le_of_ble_eq_true rfl⟩ (by decide +kernel) ?_
                              show Ev l d mi_X8_statement 211 [some (.ref 4), some (.ref x1)] [] (hp q42) 0 0 _
                              cases hf
                              exact Ev.vret rfl (by decide +kernel) (Nat.le_refl _) (Nat.le_refl _)
def f_X8_statement (p0 : Nat) (s : ST) : Option (ST) := (if (s.1 3 3) = (Int32.ofInt 1) then f_X8_statement_j22 p0 (s.1 3 4) s else f_X8_statement_j22 p0 (Int32.ofInt (-1)) s)
set_option maxHeartbeats 2000000 in
set_option maxRecDepth 20000 in
theorem e_X8_statement {l : Launch} {d : Nat} (hd : 68 ≤ d) (p0 : Nat) (s : ST) (r : ST) (hf : f_X8_statement p0 s = some r) : Cl l d mi_X8_statement [.ref 4, .ref p0] (hp s) (none, hp r) := by
  refine Ev.entry (by decide +kernel) rfl rfl ?_
  show Ev l d mi_X8_statement 0 [some (.ref 4), some (.ref p0)] [] (hp s) 0 0 _
  unfold f_X8_statement at hf
  refine Ev.blk (pc' := 8) [(.aload_n 0, 0, 0, 0), (.getfield 9, 0, 8, 0), (.getfield 34, 0, 5, 3), (.iconst 1, 0, 0, 0)] (by decide +kernel) ⟨kf_8_9, ⟨kf_8_34, trivial⟩⟩ rfl (And.intro (kc rfl rfl) (Exists.intro 3 (And.intro rfl (And.intro (kc rfl rfl) (?_)))))
  show Ev l d mi_X8_statement 8 [some (.ref 4), some (.ref p0)] [.int (Int32.ofInt 1), .int (s.1 3 3)] (hp s) 0 0 _
  refine Ev.icmp_ne (off := 13) (tgt := 21) (by decide +kernel) (by decide) (fun b1 => ?_) (fun b1 => ?_)
  · have hf := (if_neg b1).symm.trans hf
    refine Ev.blk (pc' := 22) [(.iconst (-1), 0, 0, 0)] (by decide +kernel) trivial rfl (?_)
    show Ev l d mi_X8_statement 22 [some (.ref 4), some (.ref p0)] [.int (Int32.ofInt (-1))] (hp s) 0 0 _
    exact (e_X8_statement_j22 hd) p0 (Int32.ofInt (-1)) s _ hf
  · have hf := (if_pos b1).symm.trans hf
    refine Ev.blk (pc' := 18) [(.aload_n 0, 0, 0, 0), (.getfield 9, 0, 8, 0), (.getfield 80, 0, 5, 4)] (by decide +kernel) ⟨kf_8_9, ⟨kf_8_80, trivial⟩⟩ rfl (And.intro (kc rfl rfl) (Exists.intro 3 (And.intro rfl (And.intro (kc rfl rfl) (?_)))))
    show Ev l d mi_X8_statement 18 [some (.ref 4), some (.ref p0)] [.int (s.1 3 4)] (hp s) 0 0 _
    refine Ev.goto (off := 4) (tgt := 22) (by decide +kernel) (by decide) ?_
    exact (e_X8_statement_j22 hd) p0 (s.1 3 4) s _ hf
def f_X8_tell_j82 (k15 : Nat → Int32 → Int32 → ST → Option (Int32 × ST)) (x1 : Nat) (x2 : Int32) (x3 : Int32) (s : ST) : Option (Int32 × ST) := (f_X5_takeSign ((Int8.ofInt 59).toInt32) s).bind (fun q12 => k15 x1 (x2 + Int32.ofInt 1) (x3 + Int32.ofInt 1) q12)
set_option maxHeartbeats 2000000 in
set_option maxRecDepth 20000 in
theorem e_X8_tell_j82 {l : Launch} {d : Nat} (hd : 69 ≤ d) (k15 : Nat → Int32 → Int32 → ST → Option (Int32 × ST)) (hk15 : ∀ (x1 : Nat) (x2 : Int32) (x3 : Int32) (s : ST) (r : Int32 × ST), k15 x1 x2 x3 s = some r → Ev l d mi_X8_tell 15 [some (.ref 4), some (.ref x1), some (.int x2), some (.int x3)] [] (hp s) 0 0 (some (.int r.1), hp r.2)) (x1 : Nat) (x2 : Int32) (x3 : Int32) (s : ST) (r : Int32 × ST) (hf : f_X8_tell_j82 k15 x1 x2 x3 s = some r) : Ev l d mi_X8_tell 82 [some (.ref 4), some (.ref x1), some (.int x2), some (.int x3)] [] (hp s) 0 0 (some (.int r.1), hp r.2) := by
  unfold f_X8_tell_j82 at hf
  refine Ev.blk (pc' := 88) [(.aload_n 0, 0, 0, 0), (.getfield 9, 0, 8, 0), (.bipush 59, 0, 0, 0)] (by decide +kernel) ⟨kf_8_9, trivial⟩ rfl (And.intro (kc rfl rfl) (Exists.intro 3 (And.intro rfl (?_))))
  show Ev l d mi_X8_tell 88 [some (.ref 4), some (.ref x1), some (.int x2), some (.int x3)] [.int ((Int8.ofInt 59).toInt32), .ref 3] (hp s) 0 0 _
  obtain ⟨q12, hq12, hf⟩ := bd_some hf
  refine Ev.callV (o := 3) (M' := mi_X5_takeSign) (d' := d - 1) (As := [.int ((Int8.ofInt 59).toInt32)]) (rest := []) (r' := (none, hp q12)) (e_X5_takeSign (d := d - 1) (by omega) ((Int8.ofInt 59).toInt32) s _ hq12) (by omega) wm_X5_takeSign wi_X5_takeSign wv_X5_takeSign km_8_55 (kc rfl rfl) (Nat.le_of_ble_eq_true rfl) rfl rfl rfl (Nat.le_of_ble_eq_true rfl) ⟨Nat.le_of_ble_eq_true rfl, Nat.le_of_ble_eq_true rfl⟩ (by decide +kernel) ?_
  show Ev l d mi_X8_tell 91 [some (.ref 4), some (.ref x1), some (.int x2), some (.int x3)] [] (hp q12) 0 0 _
  refine Ev.blk (pc' := 97) [(.iinc 2 1, 0, 0, 0), (.iinc 3 1, 0, 0, 0)] (by decide +kernel) trivial rfl (And.intro (Nat.le_of_ble_eq_true rfl) (And.intro (Nat.le_of_ble_eq_true rfl) (?_)))
  show Ev l d mi_X8_tell 97 [some (.ref 4), some (.ref x1), some (.int (x2 + Int32.ofInt 1)), some (.int (x3 + Int32.ofInt 1))] [] (hp q12) 0 0 _
  refine Ev.goto (off := -82) (tgt := 15) (by decide +kernel) (by decide) ?_
  exact hk15 x1 (x2 + Int32.ofInt 1) (x3 + Int32.ofInt 1) q12 _ hf
def f_X8_tell_L15 (k100 : Int32 → ST → Option (Int32 × ST)) : Nat → Nat → Int32 → Int32 → ST → Option (Int32 × ST)
  | 0, _, _, _, _ => none
  | n + 1, x1, x2, x3, s => (if ((Int8.ofInt 60).toInt32) < x3 then k100 x2 s else (if (s.1 3 3) = 0 then k100 x2 s else (if (s.1 3 5) = 0 then (if x3 = ((Int8.ofInt 60).toInt32) then (f_X5_fail (Int32.ofInt 5) (s.1 3 1) s).bind (fun q11 => (f_X8_tell_j82 (f_X8_tell_L15 k100 n)) x1 x2 x3 q11) else (if x3 = 0 then (f_X8_size x1 s).bind (fun q10 => (f_X8_tell_j82 (f_X8_tell_L15 k100 n)) x1 x2 x3 q10) else (f_X8_statement x1 s).bind (fun q9 => (f_X8_tell_j82 (f_X8_tell_L15 k100 n)) x1 x2 x3 q9))) else k100 x2 s)))
set_option maxHeartbeats 2000000 in
set_option maxRecDepth 20000 in
theorem e_X8_tell_L15 {l : Launch} {d : Nat} (hd : 69 ≤ d) (k100 : Int32 → ST → Option (Int32 × ST)) (hk100 : ∀ (x2 : Int32) (s : ST) (r : Int32 × ST), k100 x2 s = some r → Ev l d mi_X8_tell 100 [some (.ref 4), none, some (.int x2), none] [] (hp s) 0 0 (some (.int r.1), hp r.2)) : ∀ (n : Nat) (x1 : Nat) (x2 : Int32) (x3 : Int32) (s : ST) (r : Int32 × ST), f_X8_tell_L15 k100 n x1 x2 x3 s = some r → Ev l d mi_X8_tell 15 [some (.ref 4), some (.ref x1), some (.int x2), some (.int x3)] [] (hp s) 0 0 (some (.int r.1), hp r.2) := by
  intro n
  induction n with
  | zero =>
    intro x1 x2 x3 s r hf
    cases hf
  | succ n ih =>
    intro x1 x2 x3 s r hf
    unfold f_X8_tell_L15 at hf
    refine Ev.blk (pc' := 18) [(.iload_n 3, 0, 0, 0), (.bipush 60, 0, 0, 0)] (by decide +kernel) trivial rfl (?_)
    show Ev l d mi_X8_tell 18 [some (.ref 4), some (.ref x1), some (.int x2), some (.int x3)] [.int ((Int8.ofInt 60).toInt32), .int x3] (hp s) 0 0 _
    refine Ev.icmp_gt (off := 82) (tgt := 100) (by decide +kernel) (by decide) (fun b4 => ?_) (fun b4 => ?_)
    · have hf := (if_pos b4).symm.trans hf
      exact Ev.wk (hk100 x2 s _ hf) (And.intro (Or.inr rfl) (And.intro (Or.inl rfl) (And.intro (Or.inr rfl) (And.intro (Or.inl rfl) (trivial)))))
    · have hf := (if_neg b4).symm.trans hf
      refine Ev.blk (pc' := 28) [(.aload_n 0, 0, 0, 0), (.getfield 9, 0, 8, 0), (.getfield 34, 0, 5, 3)] (by decide +kernel) ⟨kf_8_9, ⟨kf_8_34, trivial⟩⟩ rfl (And.intro (kc rfl rfl) (Exists.intro 3 (And.intro rfl (And.intro (kc rfl rfl) (?_)))))
      show Ev l d mi_X8_tell 28 [some (.ref 4), some (.ref x1), some (.int x2), some (.int x3)] [.int (s.1 3 3)] (hp s) 0 0 _
      refine Ev.if_eq (off := 72) (tgt := 100) (by decide +kernel) (by decide) (fun b5 => ?_) (fun b5 => ?_)
      · have hf := (if_pos b5).symm.trans hf
        exact Ev.wk (hk100 x2 s _ hf) (And.intro (Or.inr rfl) (And.intro (Or.inl rfl) (And.intro (Or.inr rfl) (And.intro (Or.inl rfl) (trivial)))))
      · have hf := (if_neg b5).symm.trans hf
        refine Ev.blk (pc' := 38) [(.aload_n 0, 0, 0, 0), (.getfield 9, 0, 8, 0), (.getfield 38, 0, 5, 5)] (by decide +kernel) ⟨kf_8_9, ⟨kf_8_38, trivial⟩⟩ rfl (And.intro (kc rfl rfl) (Exists.intro 3 (And.intro rfl (And.intro (kc rfl rfl) (?_)))))
        show Ev l d mi_X8_tell 38 [some (.ref 4), some (.ref x1), some (.int x2), some (.int x3)] [.int (s.1 3 5)] (hp s) 0 0 _
        refine Ev.if_ne (off := 62) (tgt := 100) (by decide +kernel) (by decide) (fun b6 => ?_) (fun b6 => ?_)
        · have hf := (if_neg b6).symm.trans hf
          exact Ev.wk (hk100 x2 s _ hf) (And.intro (Or.inr rfl) (And.intro (Or.inl rfl) (And.intro (Or.inr rfl) (And.intro (Or.inl rfl) (trivial)))))
        · have hf := (if_pos b6).symm.trans hf
          refine Ev.blk (pc' := 44) [(.iload_n 3, 0, 0, 0), (.bipush 60, 0, 0, 0)] (by decide +kernel) trivial rfl (?_)
          show Ev l d mi_X8_tell 44 [some (.ref 4), some (.ref x1), some (.int x2), some (.int x3)] [.int ((Int8.ofInt 60).toInt32), .int x3] (hp s) 0 0 _
          refine Ev.icmp_ne (off := 21) (tgt := 65) (by decide +kernel) (by decide) (fun b7 => ?_) (fun b7 => ?_)
          · have hf := (if_neg b7).symm.trans hf
            refine Ev.blk (pc' := 66) [(.iload_n 3, 0, 0, 0)] (by decide +kernel) trivial rfl (?_)
            show Ev l d mi_X8_tell 66 [some (.ref 4), some (.ref x1), some (.int x2), some (.int x3)] [.int x3] (hp s) 0 0 _
            refine Ev.if_ne (off := 11) (tgt := 77) (by decide +kernel) (by decide) (fun b8 => ?_) (fun b8 => ?_)
            · have hf := (if_neg b8).symm.trans hf
              refine Ev.blk (pc' := 79) [(.aload_n 0, 0, 0, 0), (.aload_n 1, 0, 0, 0)] (by decide +kernel) trivial rfl (?_)
              show Ev l d mi_X8_tell 79 [some (.ref 4), some (.ref x1), some (.int x2), some (.int x3)] [.ref x1, .ref 4] (hp s) 0 0 _
              obtain ⟨q9, hq9, hf⟩ := bd_some hf
              refine Ev.callV (o := 4) (M' := mi_X8_statement) (d' := d - 1) (As := [.ref x1]) (rest := []) (r' := (none, hp q9)) (e_X8_statement (d := d - 1) (by omega) x1 s _ hq9) (by omega) wm_X8_statement wi_X8_statement wv_X8_statement km_8_52 (kc rfl rfl) (Nat.le_of_ble_eq_true rfl) rfl rfl rfl (Nat.le_of_ble_eq_true rfl) ⟨Nat.le_of_ble_eq_true rfl, Nat.le_of_ble_eq_true rfl⟩ (by decide +kernel) ?_
              show Ev l d mi_X8_tell 82 [some (.ref 4), some (.ref x1), some (.int x2), some (.int x3)] [] (hp q9) 0 0 _
              exact (e_X8_tell_j82 hd (f_X8_tell_L15 k100 n) ih) x1 x2 x3 q9 _ hf
            · have hf := (if_pos b8).symm.trans hf
              refine Ev.blk (pc' := 71) [(.aload_n 0, 0, 0, 0), (.aload_n 1, 0, 0, 0)] (by decide +kernel) trivial rfl (?_)
              show Ev l d mi_X8_tell 71 [some (.ref 4), some (.ref x1), some (.int x2), some (.int x3)] [.ref x1, .ref 4] (hp s) 0 0 _
              obtain ⟨q10, hq10, hf⟩ := bd_some hf
              refine Ev.callV (o := 4) (M' := mi_X8_size) (d' := d - 1) (As := [.ref x1]) (rest := []) (r' := (none, hp q10)) (e_X8_size (d := d - 1) (by omega) x1 s _ hq10) (by omega) wm_X8_size wi_X8_size wv_X8_size km_8_48 (kc rfl rfl) (Nat.le_of_ble_eq_true rfl) rfl rfl rfl (Nat.le_of_ble_eq_true rfl) ⟨Nat.le_of_ble_eq_true rfl, Nat.le_of_ble_eq_true rfl⟩ (by decide +kernel) ?_
              show Ev l d mi_X8_tell 74 [some (.ref 4), some (.ref x1), some (.int x2), some (.int x3)] [] (hp q10) 0 0 _
              refine Ev.goto (off := 8) (tgt := 82) (by decide +kernel) (by decide) ?_
              exact (e_X8_tell_j82 hd (f_X8_tell_L15 k100 n) ih) x1 x2 x3 q10 _ hf
          · have hf := (if_pos b7).symm.trans hf
            refine Ev.blk (pc' := 59) [(.aload_n 0, 0, 0, 0), (.getfield 9, 0, 8, 0), (.iconst 5, 0, 0, 0), (.aload_n 0, 0, 0, 0), (.getfield 9, 0, 8, 0), (.getfield 41, 0, 5, 1)] (by decide +kernel) ⟨kf_8_9, ⟨kf_8_9, ⟨kf_8_41, trivial⟩⟩⟩ rfl (And.intro (kc rfl rfl) (Exists.intro 3 (And.intro rfl (And.intro (kc rfl rfl) (Exists.intro 3 (And.intro rfl (And.intro (kc rfl rfl) (?_))))))))
            show Ev l d mi_X8_tell 59 [some (.ref 4), some (.ref x1), some (.int x2), some (.int x3)] [.int (s.1 3 1), .int (Int32.ofInt 5), .ref 3] (hp s) 0 0 _
            obtain ⟨q11, hq11, hf⟩ := bd_some hf
            refine Ev.callV (o := 3) (M' := mi_X5_fail) (d' := d - 1) (As := [.int (Int32.ofInt 5), .int (s.1 3 1)]) (rest := []) (r' := (none, hp q11)) (e_X5_fail (d := d - 1) (by omega) (Int32.ofInt 5) (s.1 3 1) s _ hq11) (by omega) wm_X5_fail wi_X5_fail wv_X5_fail km_8_44 (kc rfl rfl) (Nat.le_of_ble_eq_true rfl) rfl rfl rfl (Nat.le_of_ble_eq_true rfl) ⟨Nat.le_of_ble_eq_true rfl, Nat.le_of_ble_eq_true rfl⟩ (by decide +kernel) ?_
            show Ev l d mi_X8_tell 62 [some (.ref 4), some (.ref x1), some (.int x2), some (.int x3)] [] (hp q11) 0 0 _
            refine Ev.goto (off := 20) (tgt := 82) (by decide +kernel) (by decide) ?_
            exact (e_X8_tell_j82 hd (f_X8_tell_L15 k100 n) ih) x1 x2 x3 q11 _ hf
def f_X8_tell_j100 (x2 : Int32) (s : ST) : Option (Int32 × ST) := (if x2 = 0 then (f_X5_failForm s).bind (fun q14 => some (x2, q14)) else some (x2, s))
set_option maxHeartbeats 2000000 in
set_option maxRecDepth 20000 in
theorem e_X8_tell_j100 {l : Launch} {d : Nat} (hd : 69 ≤ d) (x2 : Int32) (s : ST) (r : Int32 × ST) (hf : f_X8_tell_j100 x2 s = some r) : Ev l d mi_X8_tell 100 [some (.ref 4), none, some (.int x2), none] [] (hp s) 0 0 (some (.int r.1), hp r.2) := by
  unfold f_X8_tell_j100 at hf
  refine Ev.blk (pc' := 101) [(.iload_n 2, 0, 0, 0)] (by decide +kernel) trivial rfl (?_)
  show Ev l d mi_X8_tell 101 [some (.ref 4), none, some (.int x2), none] [.int x2] (hp s) 0 0 _
  refine Ev.if_ne (off := 10) (tgt := 111) (by decide +kernel) (by decide) (fun b13 => ?_) (fun b13 => ?_)
  · have hf := (if_neg b13).symm.trans hf
    refine Ev.blk (pc' := 112) [(.iload_n 2, 0, 0, 0)] (by decide +kernel) trivial rfl (?_)
    show Ev l d mi_X8_tell 112 [some (.ref 4), none, some (.int x2), none] [.int x2] (hp s) 0 0 _
    cases hf
    exact Ev.iret .int rfl rfl (by decide +kernel) (Nat.le_refl _) (Nat.le_refl _)
  · have hf := (if_pos b13).symm.trans hf
    refine Ev.blk (pc' := 108) [(.aload_n 0, 0, 0, 0), (.getfield 9, 0, 8, 0)] (by decide +kernel) ⟨kf_8_9, trivial⟩ rfl (And.intro (kc rfl rfl) (Exists.intro 3 (And.intro rfl (?_))))
    show Ev l d mi_X8_tell 108 [some (.ref 4), none, some (.int x2), none] [.ref 3] (hp s) 0 0 _
    obtain ⟨q14, hq14, hf⟩ := bd_some hf
    refine Ev.callV (o := 3) (M' := mi_X5_failForm) (d' := d - 1) (As := []) (rest := []) (r' := (none, hp q14)) (e_X5_failForm (d := d - 1) (by omega) s _ hq14) (by omega) wm_X5_failForm wi_X5_failForm wv_X5_failForm km_8_59 (kc rfl rfl) (Nat.le_of_ble_eq_true rfl) rfl rfl rfl (Nat.le_of_ble_eq_true rfl) ⟨Nat.le_of_ble_eq_true rfl, Nat.le_of_ble_eq_true rfl⟩ (by decide +kernel) ?_
    show Ev l d mi_X8_tell 111 [some (.ref 4), none, some (.int x2), none] [] (hp q14) 0 0 _
    refine Ev.blk (pc' := 112) [(.iload_n 2, 0, 0, 0)] (by decide +kernel) trivial rfl (?_)
    show Ev l d mi_X8_tell 112 [some (.ref 4), none, some (.int x2), none] [.int x2] (hp q14) 0 0 _
    cases hf
    exact Ev.iret .int rfl rfl (by decide +kernel) (Nat.le_refl _) (Nat.le_refl _)
def f_X8_tell (p0 : Nat) (s : ST) : Option (Int32 × ST) := (f_X4_empty p0 s).bind (fun q1 => gd (kk p0 4) ((f_X5_open q1).bind (fun q3 => (f_X8_tell_L15 f_X8_tell_j100 fuel) p0 (Int32.ofInt 0) (Int32.ofInt 0) q3)))
set_option maxHeartbeats 2000000 in
set_option maxRecDepth 20000 in
theorem e_X8_tell {l : Launch} {d : Nat} (hd : 69 ≤ d) (p0 : Nat) (s : ST) (r : Int32 × ST) (hf : f_X8_tell p0 s = some r) : Cl l d mi_X8_tell [.ref 4, .ref p0] (hp s) (some (.int r.1), hp r.2) := by
  refine Ev.entry (by decide +kernel) rfl rfl ?_
  show Ev l d mi_X8_tell 0 [some (.ref 4), some (.ref p0), none, none] [] (hp s) 0 0 _
  unfold f_X8_tell at hf
  refine Ev.blk (pc' := 1) [(.aload_n 1, 0, 0, 0)] (by decide +kernel) trivial rfl (?_)
  show Ev l d mi_X8_tell 1 [some (.ref 4), some (.ref p0), none, none] [.ref p0] (hp s) 0 0 _
  obtain ⟨q1, hq1, hf⟩ := bd_some hf
  obtain ⟨c2, hf⟩ := gd_some hf
  refine Ev.callV (o := p0) (M' := mi_X4_empty) (d' := d - 1) (As := []) (rest := []) (r' := (none, hp q1)) (e_X4_empty (d := d - 1) (by omega) p0 s _ hq1) (by omega) wm_X4_empty wi_X4_empty wv_X4_empty km_8_24 (kk_ok c2) (Nat.le_of_ble_eq_true rfl) rfl rfl rfl (Nat.le_of_ble_eq_true rfl) ⟨Nat.le_of_ble_eq_true rfl, Nat.le_of_ble_eq_true rfl⟩ (by decide +kernel) ?_
  show Ev l d mi_X8_tell 4 [some (.ref 4), some (.ref p0), none, none] [] (hp q1) 0 0 _
  refine Ev.blk (pc' := 8) [(.aload_n 0, 0, 0, 0), (.getfield 9, 0, 8, 0)] (by decide +kernel) ⟨kf_8_9, trivial⟩ rfl (And.intro (kc rfl rfl) (Exists.intro 3 (And.intro rfl (?_))))
  show Ev l d mi_X8_tell 8 [some (.ref 4), some (.ref p0), none, none] [.ref 3] (hp q1) 0 0 _
  obtain ⟨q3, hq3, hf⟩ := bd_some hf
  refine Ev.callV (o := 3) (M' := mi_X5_open) (d' := d - 1) (As := []) (rest := []) (r' := (none, hp q3)) (e_X5_open (d := d - 1) (by omega) q1 _ hq3) (by omega) wm_X5_open wi_X5_open wv_X5_open km_8_29 (kc rfl rfl) (Nat.le_of_ble_eq_true rfl) rfl rfl rfl (Nat.le_of_ble_eq_true rfl) ⟨Nat.le_of_ble_eq_true rfl, Nat.le_of_ble_eq_true rfl⟩ (by decide +kernel) ?_
  show Ev l d mi_X8_tell 11 [some (.ref 4), some (.ref p0), none, none] [] (hp q3) 0 0 _
  refine Ev.blk (pc' := 15) [(.iconst 0, 0, 0, 0), (.istore_n 2, 0, 0, 0), (.iconst 0, 0, 0, 0), (.istore_n 3, 0, 0, 0)] (by decide +kernel) trivial rfl (And.intro (Nat.le_of_ble_eq_true rfl) (And.intro (Nat.le_of_ble_eq_true rfl) (?_)))
  show Ev l d mi_X8_tell 15 [some (.ref 4), some (.ref p0), some (.int (Int32.ofInt 0)), some (.int (Int32.ofInt 0))] [] (hp q3) 0 0 _
  exact (e_X8_tell_L15 hd f_X8_tell_j100 (e_X8_tell_j100 hd) fuel) p0 (Int32.ofInt 0) (Int32.ofInt 0) q3 _ hf
def f_X8_question_j112 (x2 : Int32) (s : ST) : Option (Int32 × ST) := (f_X5_failForm s).bind (fun q14 => some (x2, q14))
set_option maxHeartbeats 2000000 in
set_option maxRecDepth 20000 in
theorem e_X8_question_j112 {l : Launch} {d : Nat} (hd : 118 ≤ d) (x2 : Int32) (s : ST) (r : Int32 × ST) (hf : f_X8_question_j112 x2 s = some r) : Ev l d mi_X8_question 112 [some (.ref 4), none, some (.int x2)] [] (hp s) 0 0 (some (.int r.1), hp r.2) := by
  unfold f_X8_question_j112 at hf
  refine Ev.blk (pc' := 116) [(.aload_n 0, 0, 0, 0), (.getfield 9, 0, 8, 0)] (by decide +kernel) ⟨kf_8_9, trivial⟩ rfl (And.intro (kc rfl rfl) (Exists.intro 3 (And.intro rfl (?_))))
  show Ev l d mi_X8_question 116 [some (.ref 4), none, some (.int x2)] [.ref 3] (hp s) 0 0 _
  obtain ⟨q14, hq14, hf⟩ := bd_some hf
  refine Ev.callV (o := 3) (M' := mi_X5_failForm) (d' := d - 1) (As := []) (rest := []) (r' := (none, hp q14)) (e_X5_failForm (d := d - 1) (by omega) s _ hq14) (by omega) wm_X5_failForm wi_X5_failForm wv_X5_failForm km_8_59 (kc rfl rfl) (Nat.le_of_ble_eq_true rfl) rfl rfl rfl (Nat.le_of_ble_eq_true rfl) ⟨Nat.le_of_ble_eq_true rfl, Nat.le_of_ble_eq_true rfl⟩ (by decide +kernel) ?_
  show Ev l d mi_X8_question 119 [some (.ref 4), none, some (.int x2)] [] (hp q14) 0 0 _
  refine Ev.blk (pc' := 120) [(.iload_n 2, 0, 0, 0)] (by decide +kernel) trivial rfl (?_)
  show Ev l d mi_X8_question 120 [some (.ref 4), none, some (.int x2)] [.int x2] (hp q14) 0 0 _
  cases hf
  exact Ev.iret .int rfl rfl (by decide +kernel) (Nat.le_refl _) (Nat.le_refl _)
def f_X8_question_j96 (x2 : Int32) (s : ST) : Option (Int32 × ST) := (if x2 < ((Int8.ofInt 33).toInt32) then f_X8_question_j112 x2 s else (if (s.1 3 3) = 0 then some (x2, s) else f_X8_question_j112 x2 s))
set_option maxHeartbeats 2000000 in
set_option maxRecDepth 20000 in
theorem e_X8_question_j96 {l : Launch} {d : Nat} (hd : 118 ≤ d) (x2 : Int32) (s : ST) (r : Int32 × ST) (hf : f_X8_question_j96 x2 s = some r) : Ev l d mi_X8_question 96 [some (.ref 4), none, some (.int x2)] [] (hp s) 0 0 (some (.int r.1), hp r.2) := by
  unfold f_X8_question_j96 at hf
  refine Ev.blk (pc' := 99) [(.iload_n 2, 0, 0, 0), (.bipush 33, 0, 0, 0)] (by decide +kernel) trivial rfl (?_)
  show Ev l d mi_X8_question 99 [some (.ref 4), none, some (.int x2)] [.int ((Int8.ofInt 33).toInt32), .int x2] (hp s) 0 0 _
  refine Ev.icmp_lt (off := 13) (tgt := 112) (by decide +kernel) (by decide) (fun b12 => ?_) (fun b12 => ?_)
  · have hf := (if_pos b12).symm.trans hf
    exact (e_X8_question_j112 hd) x2 s _ hf
  · have hf := (if_neg b12).symm.trans hf
    refine Ev.blk (pc' := 109) [(.aload_n 0, 0, 0, 0), (.getfield 9, 0, 8, 0), (.getfield 34, 0, 5, 3)] (by decide +kernel) ⟨kf_8_9, ⟨kf_8_34, trivial⟩⟩ rfl (And.intro (kc rfl rfl) (Exists.intro 3 (And.intro rfl (And.intro (kc rfl rfl) (?_)))))
    show Ev l d mi_X8_question 109 [some (.ref 4), none, some (.int x2)] [.int (s.1 3 3)] (hp s) 0 0 _
    refine Ev.if_eq (off := 10) (tgt := 119) (by decide +kernel) (by decide) (fun b13 => ?_) (fun b13 => ?_)
    · have hf := (if_pos b13).symm.trans hf
      refine Ev.blk (pc' := 120) [(.iload_n 2, 0, 0, 0)] (by decide +kernel) trivial rfl (?_)
      show Ev l d mi_X8_question 120 [some (.ref 4), none, some (.int x2)] [.int x2] (hp s) 0 0 _
      cases hf
      exact Ev.iret .int rfl rfl (by decide +kernel) (Nat.le_refl _) (Nat.le_refl _)
    · have hf := (if_neg b13).symm.trans hf
      exact (e_X8_question_j112 hd) x2 s _ hf
def f_X8_question_j69 (x2 : Int32) (s : ST) : Option (Int32 × ST) := (if x2 < ((Int8.ofInt 36).toInt32) then f_X8_question_j96 x2 s else (if ((Int8.ofInt 38).toInt32) < x2 then f_X8_question_j96 x2 s else (f_X5_step s).bind (fun q10 => (t_X1_sum (Int32.ofInt 0) q10).bind (fun q11 => f_X8_question_j96 x2 q11))))
set_option maxHeartbeats 2000000 in
set_option maxRecDepth 20000 in
theorem e_X8_question_j69 {l : Launch} {d : Nat} (hd : 118 ≤ d) (x2 : Int32) (s : ST) (r : Int32 × ST) (hf : f_X8_question_j69 x2 s = some r) : Ev l d mi_X8_question 69 [some (.ref 4), none, some (.int x2)] [] (hp s) 0 0 (some (.int r.1), hp r.2) := by
  unfold f_X8_question_j69 at hf
  refine Ev.blk (pc' := 72) [(.iload_n 2, 0, 0, 0), (.bipush 36, 0, 0, 0)] (by decide +kernel) trivial rfl (?_)
  show Ev l d mi_X8_question 72 [some (.ref 4), none, some (.int x2)] [.int ((Int8.ofInt 36).toInt32), .int x2] (hp s) 0 0 _
  refine Ev.icmp_lt (off := 24) (tgt := 96) (by decide +kernel) (by decide) (fun b8 => ?_) (fun b8 => ?_)
  · have hf := (if_pos b8).symm.trans hf
    exact (e_X8_question_j96 hd) x2 s _ hf
  · have hf := (if_neg b8).symm.trans hf
    refine Ev.blk (pc' := 78) [(.iload_n 2, 0, 0, 0), (.bipush 38, 0, 0, 0)] (by decide +kernel) trivial rfl (?_)
    show Ev l d mi_X8_question 78 [some (.ref 4), none, some (.int x2)] [.int ((Int8.ofInt 38).toInt32), .int x2] (hp s) 0 0 _
    refine Ev.icmp_gt (off := 18) (tgt := 96) (by decide +kernel) (by decide) (fun b9 => ?_) (fun b9 => ?_)
    · have hf := (if_pos b9).symm.trans hf
      exact (e_X8_question_j96 hd) x2 s _ hf
    · have hf := (if_neg b9).symm.trans hf
      refine Ev.blk (pc' := 85) [(.aload_n 0, 0, 0, 0), (.getfield 9, 0, 8, 0)] (by decide +kernel) ⟨kf_8_9, trivial⟩ rfl (And.intro (kc rfl rfl) (Exists.intro 3 (And.intro rfl (?_))))
      show Ev l d mi_X8_question 85 [some (.ref 4), none, some (.int x2)] [.ref 3] (hp s) 0 0 _
      obtain ⟨q10, hq10, hf⟩ := bd_some hf
      refine Ev.callV (o := 3) (M' := mi_X5_step) (d' := d - 1) (As := []) (rest := []) (r' := (none, hp q10)) (e_X5_step (d := d - 1) (by omega) s _ hq10) (by omega) wm_X5_step wi_X5_step wv_X5_step km_8_110 (kc rfl rfl) (Nat.le_of_ble_eq_true rfl) rfl rfl rfl (Nat.le_of_ble_eq_true rfl) ⟨Nat.le_of_ble_eq_true rfl, Nat.le_of_ble_eq_true rfl⟩ (by decide +kernel) ?_
      show Ev l d mi_X8_question 88 [some (.ref 4), none, some (.int x2)] [] (hp q10) 0 0 _
      refine Ev.blk (pc' := 93) [(.aload_n 0, 0, 0, 0), (.getfield 20, 0, 8, 1), (.iconst 0, 0, 0, 0)] (by decide +kernel) ⟨kf_8_20, trivial⟩ rfl (And.intro (kc rfl rfl) (Exists.intro 5 (And.intro rfl (?_))))
      show Ev l d mi_X8_question 93 [some (.ref 4), none, some (.int x2)] [.int (Int32.ofInt 0), .ref 5] (hp q10) 0 0 _
      obtain ⟨q11, hq11, hf⟩ := bd_some hf
      refine Ev.callV (o := 5) (M' := mi_X1_sum) (d' := d - 1) (As := [.int (Int32.ofInt 0)]) (rest := []) (r' := (none, hp q11)) (te_X1_sum (d := d - 1) (by omega) (Int32.ofInt 0) q10 _ hq11) (by omega) wm_X1_sum wi_X1_sum wv_X1_sum km_8_107 (kc rfl rfl) (Nat.le_of_ble_eq_true rfl) rfl rfl rfl (Nat.le_of_ble_eq_true rfl) ⟨Nat.le_of_ble_eq_true rfl, Nat.le_of_ble_eq_true rfl⟩ (by decide +kernel) ?_
      show Ev l d mi_X8_question 96 [some (.ref 4), none, some (.int x2)] [] (hp q11) 0 0 _
      exact (e_X8_question_j96 hd) x2 q11 _ hf
def f_X8_question_j38 (y0 : Int32) (s : ST) : Option (Int32 × ST) := (if y0 < ((Int8.ofInt 33).toInt32) then f_X8_question_j69 y0 s else (if ((Int8.ofInt 35).toInt32) < y0 then f_X8_question_j69 y0 s else (f_X5_step s).bind (fun q6 => (t_X1_test (Int32.ofInt 0) q6).bind (fun q7 => f_X8_question_j96 y0 q7))))
set_option maxHeartbeats 2000000 in
set_option maxRecDepth 20000 in
theorem e_X8_question_j38 {l : Launch} {d : Nat} (hd : 118 ≤ d) (y0 : Int32) (s : ST) (r : Int32 × ST) (hf : f_X8_question_j38 y0 s = some r) : Ev l d mi_X8_question 38 [some (.ref 4), none, none] [.int y0] (hp s) 0 0 (some (.int r.1), hp r.2) := by
  unfold f_X8_question_j38 at hf
  refine Ev.blk (pc' := 42) [(.istore_n 2, 0, 0, 0), (.iload_n 2, 0, 0, 0), (.bipush 33, 0, 0, 0)] (by decide +kernel) trivial rfl (And.intro (Nat.le_of_ble_eq_true rfl) (?_))
  show Ev l d mi_X8_question 42 [some (.ref 4), none, some (.int y0)] [.int ((Int8.ofInt 33).toInt32), .int y0] (hp s) 0 0 _
  refine Ev.icmp_lt (off := 27) (tgt := 69) (by decide +kernel) (by decide) (fun b4 => ?_) (fun b4 => ?_)
  · have hf := (if_pos b4).symm.trans hf
    exact (e_X8_question_j69 hd) y0 s _ hf
  · have hf := (if_neg b4).symm.trans hf
    refine Ev.blk (pc' := 48) [(.iload_n 2, 0, 0, 0), (.bipush 35, 0, 0, 0)] (by decide +kernel) trivial rfl (?_)
    show Ev l d mi_X8_question 48 [some (.ref 4), none, some (.int y0)] [.int ((Int8.ofInt 35).toInt32), .int y0] (hp s) 0 0 _
    refine Ev.icmp_gt (off := 21) (tgt := 69) (by decide +kernel) (by decide) (fun b5 => ?_) (fun b5 => ?_)
    · have hf := (if_pos b5).symm.trans hf
      exact (e_X8_question_j69 hd) y0 s _ hf
    · have hf := (if_neg b5).symm.trans hf
      refine Ev.blk (pc' := 55) [(.aload_n 0, 0, 0, 0), (.getfield 9, 0, 8, 0)] (by decide +kernel) ⟨kf_8_9, trivial⟩ rfl (And.intro (kc rfl rfl) (Exists.intro 3 (And.intro rfl (?_))))
      show Ev l d mi_X8_question 55 [some (.ref 4), none, some (.int y0)] [.ref 3] (hp s) 0 0 _
      obtain ⟨q6, hq6, hf⟩ := bd_some hf
      refine Ev.callV (o := 3) (M' := mi_X5_step) (d' := d - 1) (As := []) (rest := []) (r' := (none, hp q6)) (e_X5_step (d := d - 1) (by omega) s _ hq6) (by omega) wm_X5_step wi_X5_step wv_X5_step km_8_110 (kc rfl rfl) (Nat.le_of_ble_eq_true rfl) rfl rfl rfl (Nat.le_of_ble_eq_true rfl) ⟨Nat.le_of_ble_eq_true rfl, Nat.le_of_ble_eq_true rfl⟩ (by decide +kernel) ?_
      show Ev l d mi_X8_question 58 [some (.ref 4), none, some (.int y0)] [] (hp q6) 0 0 _
      refine Ev.blk (pc' := 63) [(.aload_n 0, 0, 0, 0), (.getfield 20, 0, 8, 1), (.iconst 0, 0, 0, 0)] (by decide +kernel) ⟨kf_8_20, trivial⟩ rfl (And.intro (kc rfl rfl) (Exists.intro 5 (And.intro rfl (?_))))
      show Ev l d mi_X8_question 63 [some (.ref 4), none, some (.int y0)] [.int (Int32.ofInt 0), .ref 5] (hp q6) 0 0 _
      obtain ⟨q7, hq7, hf⟩ := bd_some hf
      refine Ev.callV (o := 5) (M' := mi_X1_test) (d' := d - 1) (As := [.int (Int32.ofInt 0)]) (rest := []) (r' := (none, hp q7)) (te_X1_test (d := d - 1) (by omega) (Int32.ofInt 0) q6 _ hq7) (by omega) wm_X1_test wi_X1_test wv_X1_test km_8_185 (kc rfl rfl) (Nat.le_of_ble_eq_true rfl) rfl rfl rfl (Nat.le_of_ble_eq_true rfl) ⟨Nat.le_of_ble_eq_true rfl, Nat.le_of_ble_eq_true rfl⟩ (by decide +kernel) ?_
      show Ev l d mi_X8_question 66 [some (.ref 4), none, some (.int y0)] [] (hp q7) 0 0 _
      refine Ev.goto (off := 30) (tgt := 96) (by decide +kernel) (by decide) ?_
      exact (e_X8_question_j96 hd) y0 q7 _ hf
def f_X8_question (p0 : Nat) (s : ST) : Option (Int32 × ST) := (f_X5_open s).bind (fun q1 => (f_X1_start p0 (Int32.ofInt 1) q1).bind (fun q2 => (if (q2.1 3 3) = (Int32.ofInt 1) then f_X8_question_j38 (q2.1 3 4) q2 else f_X8_question_j38 (Int32.ofInt (-1)) q2)))
set_option maxHeartbeats 2000000 in
set_option maxRecDepth 20000 in
theorem e_X8_question {l : Launch} {d : Nat} (hd : 118 ≤ d) (p0 : Nat) (s : ST) (r : Int32 × ST) (hf : f_X8_question p0 s = some r) : Cl l d mi_X8_question [.ref 4, .ref p0] (hp s) (some (.int r.1), hp r.2) := by
  refine Ev.entry (by decide +kernel) rfl rfl ?_
  show Ev l d mi_X8_question 0 [some (.ref 4), some (.ref p0), none] [] (hp s) 0 0 _
  unfold f_X8_question at hf
  refine Ev.blk (pc' := 4) [(.aload_n 0, 0, 0, 0), (.getfield 9, 0, 8, 0)] (by decide +kernel) ⟨kf_8_9, trivial⟩ rfl (And.intro (kc rfl rfl) (Exists.intro 3 (And.intro rfl (?_))))
  show Ev l d mi_X8_question 4 [some (.ref 4), some (.ref p0), none] [.ref 3] (hp s) 0 0 _
  obtain ⟨q1, hq1, hf⟩ := bd_some hf
  refine Ev.callV (o := 3) (M' := mi_X5_open) (d' := d - 1) (As := []) (rest := []) (r' := (none, hp q1)) (e_X5_open (d := d - 1) (by omega) s _ hq1) (by omega) wm_X5_open wi_X5_open wv_X5_open km_8_29 (kc rfl rfl) (Nat.le_of_ble_eq_true rfl) rfl rfl rfl (Nat.le_of_ble_eq_true rfl) ⟨Nat.le_of_ble_eq_true rfl, Nat.le_of_ble_eq_true rfl⟩ (by decide +kernel) ?_
  show Ev l d mi_X8_question 7 [some (.ref 4), some (.ref p0), none] [] (hp q1) 0 0 _
  refine Ev.blk (pc' := 13) [(.aload_n 0, 0, 0, 0), (.getfield 20, 0, 8, 1), (.aload_n 1, 0, 0, 0), (.iconst 1, 0, 0, 0)] (by decide +kernel) ⟨kf_8_20, trivial⟩ rfl (And.intro (kc rfl rfl) (Exists.intro 5 (And.intro rfl (?_))))
  show Ev l d mi_X8_question 13 [some (.ref 4), some (.ref p0), none] [.int (Int32.ofInt 1), .ref p0, .ref 5] (hp q1) 0 0 _
  obtain ⟨q2, hq2, hf⟩ := bd_some hf
  refine Ev.callV (o := 5) (M' := mi_X1_start) (d' := d - 1) (As := [.ref p0, .int (Int32.ofInt 1)]) (rest := []) (r' := (none, hp q2)) (e_X1_start (d := d - 1) (by omega) p0 (Int32.ofInt 1) q1 _ hq2) (by omega) wm_X1_start wi_X1_start wv_X1_start km_8_103 (kc rfl rfl) (Nat.le_of_ble_eq_true rfl) rfl rfl rfl (Nat.le_of_ble_eq_true rfl) ⟨Nat.le_of_ble_eq_true rfl, Nat.le_of_ble_eq_true rfl⟩ (by decide +kernel) ?_
  show Ev l d mi_X8_question 16 [some (.ref 4), some (.ref p0), none] [] (hp q2) 0 0 _
  refine Ev.blk (pc' := 24) [(.aload_n 0, 0, 0, 0), (.getfield 9, 0, 8, 0), (.getfield 34, 0, 5, 3), (.iconst 1, 0, 0, 0)] (by decide +kernel) ⟨kf_8_9, ⟨kf_8_34, trivial⟩⟩ rfl (And.intro (kc rfl rfl) (Exists.intro 3 (And.intro rfl (And.intro (kc rfl rfl) (?_)))))
  show Ev l d mi_X8_question 24 [some (.ref 4), some (.ref p0), none] [.int (Int32.ofInt 1), .int (q2.1 3 3)] (hp q2) 0 0 _
  refine Ev.icmp_ne (off := 13) (tgt := 37) (by decide +kernel) (by decide) (fun b3 => ?_) (fun b3 => ?_)
  · have hf := (if_neg b3).symm.trans hf
    refine Ev.blk (pc' := 38) [(.iconst (-1), 0, 0, 0)] (by decide +kernel) trivial rfl (?_)
    show Ev l d mi_X8_question 38 [some (.ref 4), some (.ref p0), none] [.int (Int32.ofInt (-1))] (hp q2) 0 0 _
    exact Ev.wk ((e_X8_question_j38 hd) (Int32.ofInt (-1)) q2 _ hf) (And.intro (Or.inr rfl) (And.intro (Or.inl rfl) (And.intro (Or.inr rfl) (trivial))))
  · have hf := (if_pos b3).symm.trans hf
    refine Ev.blk (pc' := 34) [(.aload_n 0, 0, 0, 0), (.getfield 9, 0, 8, 0), (.getfield 80, 0, 5, 4)] (by decide +kernel) ⟨kf_8_9, ⟨kf_8_80, trivial⟩⟩ rfl (And.intro (kc rfl rfl) (Exists.intro 3 (And.intro rfl (And.intro (kc rfl rfl) (?_)))))
    show Ev l d mi_X8_question 34 [some (.ref 4), some (.ref p0), none] [.int (q2.1 3 4)] (hp q2) 0 0 _
    refine Ev.goto (off := 4) (tgt := 38) (by decide +kernel) (by decide) ?_
    exact Ev.wk ((e_X8_question_j38 hd) (q2.1 3 4) q2 _ hf) (And.intro (Or.inr rfl) (And.intro (Or.inl rfl) (And.intro (Or.inr rfl) (trivial))))
def f_X9_refuse (p0 : Int32) (s : ST) : Option (Int32 × ST) := gd (ib p0 6) (gd (ib p0 6) (lt (uI s 61 p0.toNatClampNeg ((s.1 61 p0.toNatClampNeg) + (Int32.ofInt 1))) (fun s3 => some ((Int32.ofInt (-1)), s3))))
set_option maxHeartbeats 2000000 in
set_option maxRecDepth 20000 in
theorem e_X9_refuse {l : Launch} {d : Nat} (hd : 1 ≤ d) (p0 : Int32) (s : ST) (r : Int32 × ST) (hf : f_X9_refuse p0 s = some r) : Cl l d mi_X9_refuse [.ref 0, .int p0] (hp s) (some (.int r.1), hp r.2) := by
  refine Ev.entry (by decide +kernel) rfl rfl ?_
  show Ev l d mi_X9_refuse 0 [some (.ref 0), some (.int p0)] [] (hp s) 0 0 _
  unfold f_X9_refuse at hf
  obtain ⟨c1, hf⟩ := gd_some hf
  obtain ⟨c2, hf⟩ := gd_some hf
  obtain ⟨s3, hs3, hf⟩ := lt_some hf
  refine Ev.blk (pc' := 11) [(.aload_n 0, 0, 0, 0), (.getfield 90, 0, 9, 15), (.iload_n 1, 0, 0, 0), (.dup2, 0, 0, 0), (.iaload, 0, 0, 0), (.iconst 1, 0, 0, 0), (.iadd, 0, 0, 0), (.iastore, 0, 0, 0), (.iconst (-1), 0, 0, 0)] (by decide +kernel) ⟨kf_9_90, trivial⟩ rfl (And.intro (kc rfl rfl) (Exists.intro 61 (And.intro rfl (And.intro (And.intro rfl rfl) (And.intro (kc rfl rfl) (And.intro (ib_ok c1) (And.intro (kc rfl rfl) (And.intro (ib_ok c2) (?_)))))))))
  show Ev l d mi_X9_refuse 11 [some (.ref 0), some (.int p0)] [.int (Int32.ofInt (-1))] (hp (uI s 61 p0.toNatClampNeg ((s.1 61 p0.toNatClampNeg) + (Int32.ofInt 1)))) 0 0 _
  rw [← hs3]
  cases hf
  exact Ev.iret .int rfl rfl (by decide +kernel) (Nat.le_refl _) (Nat.le_refl _)
def f_X9_feed (p0 : Int32) (p1 : Int32) (p2 : Int32) (p3 : Int32) (p4 : Int32) (s : ST) : Option (Int32 × ST) := (if ((s.1 1 1) + ((Int8.ofInt 20).toInt32)) ≤ ((Int16.ofInt 1600).toInt32) then (f_X7_add p0 s).bind (fun q2 => (f_X7_add p1 q2).bind (fun q3 => (f_X7_add p2 q3).bind (fun q4 => (f_X7_add p3 q4).bind (fun q5 => (f_X7_add p4 q5).bind (fun q6 => some ((q6.1 1 1), q6)))))) else (f_X9_refuse (Int32.ofInt 0) s).bind (fun q7 => some (q7.1, q7.2)))
set_option maxHeartbeats 2000000 in
set_option maxRecDepth 20000 in
theorem e_X9_feed {l : Launch} {d : Nat} (hd : 2 ≤ d) (p0 : Int32) (p1 : Int32) (p2 : Int32) (p3 : Int32) (p4 : Int32) (s : ST) (r : Int32 × ST) (hf : f_X9_feed p0 p1 p2 p3 p4 s = some r) : Cl l d mi_X9_feed [.ref 0, .int p0, .int p1, .int p2, .int p3, .int p4] (hp s) (some (.int r.1), hp r.2) := by
  refine Ev.entry (by decide +kernel) rfl rfl ?_
  show Ev l d mi_X9_feed 0 [some (.ref 0), some (.int p0), some (.int p1), some (.int p2), some (.int p3), some (.int p4)] [] (hp s) 0 0 _
  unfold f_X9_feed at hf
  refine Ev.blk (pc' := 13) [(.aload_n 0, 0, 0, 0), (.getfield 12, 0, 9, 0), (.getfield 105, 0, 7, 1), (.bipush 20, 0, 0, 0), (.iadd, 0, 0, 0), (.sipush 1600, 0, 0, 0)] (by decide +kernel) ⟨kf_9_12, ⟨kf_9_105, trivial⟩⟩ rfl (And.intro (kc rfl rfl) (Exists.intro 1 (And.intro rfl (And.intro (kc rfl rfl) (?_)))))
  show Ev l d mi_X9_feed 13 [some (.ref 0), some (.int p0), some (.int p1), some (.int p2), some (.int p3), some (.int p4)] [.int ((Int16.ofInt 1600).toInt32), .int ((s.1 1 1) + ((Int8.ofInt 20).toInt32))] (hp s) 0 0 _
  refine Ev.icmp_le (off := 9) (tgt := 22) (by decide +kernel) (by decide) (fun b1 => ?_) (fun b1 => ?_)
  · have hf := (if_pos b1).symm.trans hf
    refine Ev.blk (pc' := 27) [(.aload_n 0, 0, 0, 0), (.getfield 12, 0, 9, 0), (.iload_n 1, 0, 0, 0)] (by decide +kernel) ⟨kf_9_12, trivial⟩ rfl (And.intro (kc rfl rfl) (Exists.intro 1 (And.intro rfl (?_))))
    show Ev l d mi_X9_feed 27 [some (.ref 0), some (.int p0), some (.int p1), some (.int p2), some (.int p3), some (.int p4)] [.int p0, .ref 1] (hp s) 0 0 _
    obtain ⟨q2, hq2, hf⟩ := bd_some hf
    refine Ev.callV (o := 1) (M' := mi_X7_add) (d' := d - 1) (As := [.int p0]) (rest := []) (r' := (none, hp q2)) (e_X7_add (d := d - 1) (by omega) p0 s _ hq2) (by omega) wm_X7_add wi_X7_add wv_X7_add km_9_112 (kc rfl rfl) (Nat.le_of_ble_eq_true rfl) rfl rfl rfl (Nat.le_of_ble_eq_true rfl) ⟨Nat.le_of_ble_eq_true rfl, Nat.le_of_ble_eq_true rfl⟩ (by decide +kernel) ?_
    show Ev l d mi_X9_feed 30 [some (.ref 0), some (.int p0), some (.int p1), some (.int p2), some (.int p3), some (.int p4)] [] (hp q2) 0 0 _
    refine Ev.blk (pc' := 35) [(.aload_n 0, 0, 0, 0), (.getfield 12, 0, 9, 0), (.iload_n 2, 0, 0, 0)] (by decide +kernel) ⟨kf_9_12, trivial⟩ rfl (And.intro (kc rfl rfl) (Exists.intro 1 (And.intro rfl (?_))))
    show Ev l d mi_X9_feed 35 [some (.ref 0), some (.int p0), some (.int p1), some (.int p2), some (.int p3), some (.int p4)] [.int p1, .ref 1] (hp q2) 0 0 _
    obtain ⟨q3, hq3, hf⟩ := bd_some hf
    refine Ev.callV (o := 1) (M' := mi_X7_add) (d' := d - 1) (As := [.int p1]) (rest := []) (r' := (none, hp q3)) (e_X7_add (d := d - 1) (by omega) p1 q2 _ hq3) (by omega) wm_X7_add wi_X7_add wv_X7_add km_9_112 (kc rfl rfl) (Nat.le_of_ble_eq_true rfl) rfl rfl rfl (Nat.le_of_ble_eq_true rfl) ⟨Nat.le_of_ble_eq_true rfl, Nat.le_of_ble_eq_true rfl⟩ (by decide +kernel) ?_
    show Ev l d mi_X9_feed 38 [some (.ref 0), some (.int p0), some (.int p1), some (.int p2), some (.int p3), some (.int p4)] [] (hp q3) 0 0 _
    refine Ev.blk (pc' := 43) [(.aload_n 0, 0, 0, 0), (.getfield 12, 0, 9, 0), (.iload_n 3, 0, 0, 0)] (by decide +kernel) ⟨kf_9_12, trivial⟩ rfl (And.intro (kc rfl rfl) (Exists.intro 1 (And.intro rfl (?_))))
    show Ev l d mi_X9_feed 43 [some (.ref 0), some (.int p0), some (.int p1), some (.int p2), some (.int p3), some (.int p4)] [.int p2, .ref 1] (hp q3) 0 0 _
    obtain ⟨q4, hq4, hf⟩ := bd_some hf
    refine Ev.callV (o := 1) (M' := mi_X7_add) (d' := d - 1) (As := [.int p2]) (rest := []) (r' := (none, hp q4)) (e_X7_add (d := d - 1) (by omega) p2 q3 _ hq4) (by omega) wm_X7_add wi_X7_add wv_X7_add km_9_112 (kc rfl rfl) (Nat.le_of_ble_eq_true rfl) rfl rfl rfl (Nat.le_of_ble_eq_true rfl) ⟨Nat.le_of_ble_eq_true rfl, Nat.le_of_ble_eq_true rfl⟩ (by decide +kernel) ?_
    show Ev l d mi_X9_feed 46 [some (.ref 0), some (.int p0), some (.int p1), some (.int p2), some (.int p3), some (.int p4)] [] (hp q4) 0 0 _
    refine Ev.blk (pc' := 52) [(.aload_n 0, 0, 0, 0), (.getfield 12, 0, 9, 0), (.iload 4, 0, 0, 0)] (by decide +kernel) ⟨kf_9_12, trivial⟩ rfl (And.intro (kc rfl rfl) (Exists.intro 1 (And.intro rfl (?_))))
    show Ev l d mi_X9_feed 52 [some (.ref 0), some (.int p0), some (.int p1), some (.int p2), some (.int p3), some (.int p4)] [.int p3, .ref 1] (hp q4) 0 0 _
    obtain ⟨q5, hq5, hf⟩ := bd_some hf
    refine Ev.callV (o := 1) (M' := mi_X7_add) (d' := d - 1) (As := [.int p3]) (rest := []) (r' := (none, hp q5)) (e_X7_add (d := d - 1) (by omega) p3 q4 _ hq5) (by omega) wm_X7_add wi_X7_add wv_X7_add km_9_112 (kc rfl rfl) (Nat.le_of_ble_eq_true rfl) rfl rfl rfl (Nat.le_of_ble_eq_true rfl) ⟨Nat.le_of_ble_eq_true rfl, Nat.le_of_ble_eq_true rfl⟩ (by decide +kernel) ?_
    show Ev l d mi_X9_feed 55 [some (.ref 0), some (.int p0), some (.int p1), some (.int p2), some (.int p3), some (.int p4)] [] (hp q5) 0 0 _
    refine Ev.blk (pc' := 61) [(.aload_n 0, 0, 0, 0), (.getfield 12, 0, 9, 0), (.iload 5, 0, 0, 0)] (by decide +kernel) ⟨kf_9_12, trivial⟩ rfl (And.intro (kc rfl rfl) (Exists.intro 1 (And.intro rfl (?_))))
    show Ev l d mi_X9_feed 61 [some (.ref 0), some (.int p0), some (.int p1), some (.int p2), some (.int p3), some (.int p4)] [.int p4, .ref 1] (hp q5) 0 0 _
    obtain ⟨q6, hq6, hf⟩ := bd_some hf
    refine Ev.callV (o := 1) (M' := mi_X7_add) (d' := d - 1) (As := [.int p4]) (rest := []) (r' := (none, hp q6)) (e_X7_add (d := d - 1) (by omega) p4 q5 _ hq6) (by omega) wm_X7_add wi_X7_add wv_X7_add km_9_112 (kc rfl rfl) (Nat.le_of_ble_eq_true rfl) rfl rfl rfl (Nat.le_of_ble_eq_true rfl) ⟨Nat.le_of_ble_eq_true rfl, Nat.le_of_ble_eq_true rfl⟩ (by decide +kernel) ?_
    show Ev l d mi_X9_feed 64 [some (.ref 0), some (.int p0), some (.int p1), some (.int p2), some (.int p3), some (.int p4)] [] (hp q6) 0 0 _
    refine Ev.blk (pc' := 71) [(.aload_n 0, 0, 0, 0), (.getfield 12, 0, 9, 0), (.getfield 105, 0, 7, 1)] (by decide +kernel) ⟨kf_9_12, ⟨kf_9_105, trivial⟩⟩ rfl (And.intro (kc rfl rfl) (Exists.intro 1 (And.intro rfl (And.intro (kc rfl rfl) (?_)))))
    show Ev l d mi_X9_feed 71 [some (.ref 0), some (.int p0), some (.int p1), some (.int p2), some (.int p3), some (.int p4)] [.int (q6.1 1 1)] (hp q6) 0 0 _
    cases hf
    exact Ev.iret .int rfl rfl (by decide +kernel) (Nat.le_refl _) (Nat.le_refl _)
  · have hf := (if_neg b1).symm.trans hf
    refine Ev.blk (pc' := 18) [(.aload_n 0, 0, 0, 0), (.iconst 0, 0, 0, 0)] (by decide +kernel) trivial rfl (?_)
    show Ev l d mi_X9_feed 18 [some (.ref 0), some (.int p0), some (.int p1), some (.int p2), some (.int p3), some (.int p4)] [.int (Int32.ofInt 0), .ref 0] (hp s) 0 0 _
    obtain ⟨q7, hq7, hf⟩ := bd_some hf
    refine Ev.callV (o := 0) (M' := mi_X9_refuse) (d' := d - 1) (As := [.int (Int32.ofInt 0)]) (rest := []) (r' := (some (.int q7.1), hp q7.2)) (e_X9_refuse (d := d - 1) (by omega) (Int32.ofInt 0) s _ hq7) (by omega) wm_X9_refuse wi_X9_refuse wv_X9_refuse km_9_108 (kc rfl rfl) (Nat.le_of_ble_eq_true rfl) rfl rfl rfl (Nat.le_of_ble_eq_true rfl) ⟨Nat.le_of_ble_eq_true rfl, Nat.le_of_ble_eq_true rfl⟩ (by decide +kernel) ?_
    show Ev l d mi_X9_feed 21 [some (.ref 0), some (.int p0), some (.int p1), some (.int p2), some (.int p3), some (.int p4)] [.int q7.1] (hp q7.2) 0 0 _
    cases hf
    exact Ev.iret .int rfl rfl (by decide +kernel) (Nat.le_refl _) (Nat.le_refl _)
def f_X9_end_j15 (s : ST) : Option (Int32 × ST) := (f_X9_refuse (Int32.ofInt 0) s).bind (fun q4 => some ((Int32.ofInt 0), q4.2))
set_option maxHeartbeats 2000000 in
set_option maxRecDepth 20000 in
theorem e_X9_end_j15 {l : Launch} {d : Nat} (hd : 2 ≤ d) (s : ST) (r : Int32 × ST) (hf : f_X9_end_j15 s = some r) : Ev l d mi_X9_end 15 [some (.ref 0), none] [] (hp s) 0 0 (some (.int r.1), hp r.2) := by
  unfold f_X9_end_j15 at hf
  refine Ev.blk (pc' := 17) [(.aload_n 0, 0, 0, 0), (.iconst 0, 0, 0, 0)] (by decide +kernel) trivial rfl (?_)
  show Ev l d mi_X9_end 17 [some (.ref 0), none] [.int (Int32.ofInt 0), .ref 0] (hp s) 0 0 _
  obtain ⟨q4, hq4, hf⟩ := bd_some hf
  refine Ev.callV (o := 0) (M' := mi_X9_refuse) (d' := d - 1) (As := [.int (Int32.ofInt 0)]) (rest := []) (r' := (some (.int q4.1), hp q4.2)) (e_X9_refuse (d := d - 1) (by omega) (Int32.ofInt 0) s _ hq4) (by omega) wm_X9_refuse wi_X9_refuse wv_X9_refuse km_9_108 (kc rfl rfl) (Nat.le_of_ble_eq_true rfl) rfl rfl rfl (Nat.le_of_ble_eq_true rfl) ⟨Nat.le_of_ble_eq_true rfl, Nat.le_of_ble_eq_true rfl⟩ (by decide +kernel) ?_
  show Ev l d mi_X9_end 20 [some (.ref 0), none] [.int q4.1] (hp q4.2) 0 0 _
  refine Ev.blk (pc' := 22) [(.pop, 0, 0, 0), (.iconst 0, 0, 0, 0)] (by decide +kernel) trivial rfl (And.intro rfl (?_))
  show Ev l d mi_X9_end 22 [some (.ref 0), none] [.int (Int32.ofInt 0)] (hp q4.2) 0 0 _
  cases hf
  exact Ev.iret .boolean rfl rfl (by decide +kernel) (Nat.le_refl _) (Nat.le_refl _)
def f_X9_end (p0 : Int32) (s : ST) : Option (Int32 × ST) := (if p0 < 0 then f_X9_end_j15 s else (if p0 ≤ (s.1 1 1) then lt (uI s 1 1 p0) (fun s3 => some ((Int32.ofInt 1), s3)) else f_X9_end_j15 s))
set_option maxHeartbeats 2000000 in
set_option maxRecDepth 20000 in
theorem e_X9_end {l : Launch} {d : Nat} (hd : 2 ≤ d) (p0 : Int32) (s : ST) (r : Int32 × ST) (hf : f_X9_end p0 s = some r) : Cl l d mi_X9_end [.ref 0, .int p0] (hp s) (some (.int r.1), hp r.2) := by
  refine Ev.entry (by decide +kernel) rfl rfl ?_
  show Ev l d mi_X9_end 0 [some (.ref 0), some (.int p0)] [] (hp s) 0 0 _
  unfold f_X9_end at hf
  refine Ev.blk (pc' := 1) [(.iload_n 1, 0, 0, 0)] (by decide +kernel) trivial rfl (?_)
  show Ev l d mi_X9_end 1 [some (.ref 0), some (.int p0)] [.int p0] (hp s) 0 0 _
  refine Ev.if_lt (off := 14) (tgt := 15) (by decide +kernel) (by decide) (fun b1 => ?_) (fun b1 => ?_)
  · have hf := (if_pos b1).symm.trans hf
    exact Ev.wk ((e_X9_end_j15 hd) s _ hf) (And.intro (Or.inr rfl) (And.intro (Or.inl rfl) (trivial)))
  · have hf := (if_neg b1).symm.trans hf
    refine Ev.blk (pc' := 12) [(.iload_n 1, 0, 0, 0), (.aload_n 0, 0, 0, 0), (.getfield 12, 0, 9, 0), (.getfield 105, 0, 7, 1)] (by decide +kernel) ⟨kf_9_12, ⟨kf_9_105, trivial⟩⟩ rfl (And.intro (kc rfl rfl) (Exists.intro 1 (And.intro rfl (And.intro (kc rfl rfl) (?_)))))
    show Ev l d mi_X9_end 12 [some (.ref 0), some (.int p0)] [.int (s.1 1 1), .int p0] (hp s) 0 0 _
    refine Ev.icmp_le (off := 11) (tgt := 23) (by decide +kernel) (by decide) (fun b2 => ?_) (fun b2 => ?_)
    · have hf := (if_pos b2).symm.trans hf
      obtain ⟨s3, hs3, hf⟩ := lt_some hf
      refine Ev.blk (pc' := 32) [(.aload_n 0, 0, 0, 0), (.getfield 12, 0, 9, 0), (.iload_n 1, 0, 0, 0), (.putfield 105, 0, 7, 1), (.iconst 1, 0, 0, 0)] (by decide +kernel) ⟨kf_9_12, ⟨⟨kf_9_105, Or.inl rfl⟩, trivial⟩⟩ rfl (And.intro (kc rfl rfl) (Exists.intro 1 (And.intro rfl (And.intro (kc rfl rfl) (?_)))))
      show Ev l d mi_X9_end 32 [some (.ref 0), some (.int p0)] [.int (Int32.ofInt 1)] (hp (uI s 1 1 p0)) 0 0 _
      rw [← hs3]
      cases hf
      exact Ev.iret .boolean rfl rfl (by decide +kernel) (Nat.le_refl _) (Nat.le_refl _)
    · have hf := (if_neg b2).symm.trans hf
      exact Ev.wk ((e_X9_end_j15 hd) s _ hf) (And.intro (Or.inr rfl) (And.intro (Or.inl rfl) (trivial)))
def f_X9_noteFault (s : ST) : Option (ST) := lt (uI (uI s 0 13 (s.1 3 5)) 0 14 ((uI s 0 13 (s.1 3 5)).1 3 6)) (fun s1 => some s1)
set_option maxHeartbeats 2000000 in
set_option maxRecDepth 20000 in
theorem e_X9_noteFault {l : Launch} {d : Nat} (hd : 1 ≤ d) (s : ST) (r : ST) (hf : f_X9_noteFault s = some r) : Cl l d mi_X9_noteFault [.ref 0] (hp s) (none, hp r) := by
  refine Ev.entry (by decide +kernel) rfl rfl ?_
  show Ev l d mi_X9_noteFault 0 [some (.ref 0)] [] (hp s) 0 0 _
  unfold f_X9_noteFault at hf
  obtain ⟨s1, hs1, hf⟩ := lt_some hf
  refine Ev.blk (pc' := 22) [(.aload_n 0, 0, 0, 0), (.aload_n 0, 0, 0, 0), (.getfield 21, 0, 9, 1), (.getfield 352, 0, 5, 5), (.putfield 84, 0, 9, 13), (.aload_n 0, 0, 0, 0), (.aload_n 0, 0, 0, 0), (.getfield 21, 0, 9, 1), (.getfield 353, 0, 5, 6), (.putfield 87, 0, 9, 14)] (by decide +kernel) ⟨kf_9_21, ⟨kf_9_352, ⟨⟨kf_9_84, Or.inl rfl⟩, ⟨kf_9_21, ⟨kf_9_353, ⟨⟨kf_9_87, Or.inl rfl⟩, trivial⟩⟩⟩⟩⟩⟩ rfl (And.intro (kc rfl rfl) (Exists.intro 3 (And.intro rfl (And.intro (kc rfl rfl) (And.intro (kc rfl rfl) (And.intro (kc rfl rfl) (Exists.intro 3 (And.intro rfl (And.intro (kc rfl rfl) (And.intro (kc rfl rfl) (?_)))))))))))
  show Ev l d mi_X9_noteFault 22 [some (.ref 0)] [] (hp (uI (uI s 0 13 (s.1 3 5)) 0 14 ((uI s 0 13 (s.1 3 5)).1 3 6))) 0 0 _
  rw [← hs1]
  cases hf
  exact Ev.vret rfl (by decide +kernel) (Nat.le_refl _) (Nat.le_refl _)
def f_X9_board (s : ST) : Option (Int32 × ST) := (RR s.2.2 0 4).bind (fun a1 => (f_X8_tell a1 s).bind (fun q2 => lt (uI q2.2 1 1 (Int32.ofInt 0)) (fun s3 => (f_X9_noteFault s3).bind (fun q4 => (if (q4.1 0 13) = 0 then (RR q4.2.2 0 4).bind (fun a6 => (RR q4.2.2 0 3).bind (fun a7 => lt (uR (uR q4 0 4 a7) 0 3 a6) (fun s8 => (f_X3_begin 36 a6 s8).bind (fun q9 => (f_X3_begin 46 a6 q9).bind (fun q10 => (f_X0_forget q10).bind (fun q11 => lt (uI q11 0 11 (Int32.ofInt 0)) (fun s12 => some (q2.1, s12)))))))) else (f_X9_refuse (Int32.ofInt 1) q4).bind (fun q13 => some (q13.1, q13.2)))))))
set_option maxHeartbeats 2000000 in
set_option maxRecDepth 20000 in
theorem e_X9_board {l : Launch} {d : Nat} (hd : 70 ≤ d) (s : ST) (r : Int32 × ST) (hf : f_X9_board s = some r) : Cl l d mi_X9_board [.ref 0] (hp s) (some (.int r.1), hp r.2) := by
  refine Ev.entry (by decide +kernel) rfl rfl ?_
  show Ev l d mi_X9_board 0 [some (.ref 0), none, none] [] (hp s) 0 0 _
  unfold f_X9_board at hf
  obtain ⟨a1, ha1, hf⟩ := bd_some hf
  refine Ev.blk (pc' := 8) [(.aload_n 0, 0, 0, 0), (.getfield 30, 0, 9, 2), (.aload_n 0, 0, 0, 0), (.getfield 41, 0, 9, 4)] (by decide +kernel) ⟨kf_9_30, ⟨kf_9_41, trivial⟩⟩ rfl (And.intro (kc rfl rfl) (Exists.intro 4 (And.intro rfl (And.intro (kc rfl rfl) (Exists.intro a1 (And.intro ha1 (?_)))))))
  show Ev l d mi_X9_board 8 [some (.ref 0), none, none] [.ref a1, .ref 4] (hp s) 0 0 _
  obtain ⟨q2, hq2, hf⟩ := bd_some hf
  refine Ev.callV (o := 4) (M' := mi_X8_tell) (d' := d - 1) (As := [.ref a1]) (rest := []) (r' := (some (.int q2.1), hp q2.2)) (e_X8_tell (d := d - 1) (by omega) a1 s _ hq2) (by omega) wm_X8_tell wi_X8_tell wv_X8_tell km_9_116 (kc rfl rfl) (Nat.le_of_ble_eq_true rfl) rfl rfl rfl (Nat.le_of_ble_eq_true rfl) ⟨Nat.le_of_ble_eq_true rfl, Nat.le_of_ble_eq_true rfl⟩ (by decide +kernel) ?_
  show Ev l d mi_X9_board 11 [some (.ref 0), none, none] [.int q2.1] (hp q2.2) 0 0 _
  obtain ⟨s3, hs3, hf⟩ := lt_some hf
  refine Ev.blk (pc' := 21) [(.istore_n 1, 0, 0, 0), (.aload_n 0, 0, 0, 0), (.getfield 12, 0, 9, 0), (.iconst 0, 0, 0, 0), (.putfield 105, 0, 7, 1), (.aload_n 0, 0, 0, 0)] (by decide +kernel) ⟨kf_9_12, ⟨⟨kf_9_105, Or.inl rfl⟩, trivial⟩⟩ rfl (And.intro (Nat.le_of_ble_eq_true rfl) (And.intro (kc rfl rfl) (Exists.intro 1 (And.intro rfl (And.intro (kc rfl rfl) (?_))))))
  show Ev l d mi_X9_board 21 [some (.ref 0), some (.int q2.1), none] [.ref 0] (hp (uI q2.2 1 1 (Int32.ofInt 0))) 0 0 _
  rw [← hs3]
  obtain ⟨q4, hq4, hf⟩ := bd_some hf
  refine Ev.callV (o := 0) (M' := mi_X9_noteFault) (d' := d - 1) (As := []) (rest := []) (r' := (none, hp q4)) (e_X9_noteFault (d := d - 1) (by omega) s3 _ hq4) (by omega) wm_X9_noteFault wi_X9_noteFault wv_X9_noteFault km_9_120 (kc rfl rfl) (Nat.le_of_ble_eq_true rfl) rfl rfl rfl (Nat.le_of_ble_eq_true rfl) ⟨Nat.le_of_ble_eq_true rfl, Nat.le_of_ble_eq_true rfl⟩ (by decide +kernel) ?_
  show Ev l d mi_X9_board 24 [some (.ref 0), some (.int q2.1), none] [] (hp q4) 0 0 _
  refine Ev.blk (pc' := 28) [(.aload_n 0, 0, 0, 0), (.getfield 84, 0, 9, 13)] (by decide +kernel) ⟨kf_9_84, trivial⟩ rfl (And.intro (kc rfl rfl) (?_))
  show Ev l d mi_X9_board 28 [some (.ref 0), some (.int q2.1), none] [.int (q4.1 0 13)] (hp q4) 0 0 _
  refine Ev.if_eq (off := 9) (tgt := 37) (by decide +kernel) (by decide) (fun b5 => ?_) (fun b5 => ?_)
  · have hf := (if_pos b5).symm.trans hf
    obtain ⟨a6, ha6, hf⟩ := bd_some hf
    obtain ⟨a7, ha7, hf⟩ := bd_some hf
    refine Ev.blk (pc' := 50) [(.aload_n 0, 0, 0, 0), (.getfield 41, 0, 9, 4), (.astore_n 2, 0, 0, 0), (.aload_n 0, 0, 0, 0), (.aload_n 0, 0, 0, 0), (.getfield 37, 0, 9, 3), (.putfield 41, 0, 9, 4)] (by decide +kernel) ⟨kf_9_41, ⟨kf_9_37, ⟨⟨kf_9_41, Or.inl rfl⟩, trivial⟩⟩⟩ rfl (And.intro (kc rfl rfl) (Exists.intro a6 (And.intro ha6 (And.intro (Nat.le_of_ble_eq_true rfl) (And.intro (kc rfl rfl) (Exists.intro a7 (And.intro ha7 (And.intro (kc rfl rfl) (?_)))))))))
    show Ev l d mi_X9_board 50 [some (.ref 0), some (.int q2.1), some (.ref a6)] [] (sm_R (hp q4) 0 4 (some a7)) 0 0 _
    rw [hp_R rfl]
    refine Ev.blk (pc' := 55) [(.aload_n 0, 0, 0, 0), (.aload_n 2, 0, 0, 0), (.putfield 37, 0, 9, 3)] (by decide +kernel) ⟨⟨kf_9_37, Or.inl rfl⟩, trivial⟩ rfl (And.intro (kc rfl rfl) (?_))
    show Ev l d mi_X9_board 55 [some (.ref 0), some (.int q2.1), some (.ref a6)] [] (sm_R (hp (uR q4 0 4 a7)) 0 3 (some a6)) 0 0 _
    rw [hp_R rfl]
    obtain ⟨s8, hs8, hf⟩ := lt_some hf
    refine Ev.blk (pc' := 60) [(.aload_n 0, 0, 0, 0), (.getfield 56, 0, 9, 6), (.aload_n 2, 0, 0, 0)] (by decide +kernel) ⟨kf_9_56, trivial⟩ rfl (And.intro (kc rfl rfl) (Exists.intro 36 (And.intro rfl (?_))))
    show Ev l d mi_X9_board 60 [some (.ref 0), some (.int q2.1), some (.ref a6)] [.ref a6, .ref 36] (hp (uR (uR q4 0 4 a7) 0 3 a6)) 0 0 _
    rw [← hs8]
    obtain ⟨q9, hq9, hf⟩ := bd_some hf
    refine Ev.callV (o := 36) (M' := mi_X3_begin) (d' := d - 1) (As := [.ref a6]) (rest := []) (r' := (none, hp q9)) (e_X3_begin (d := d - 1) (by omega) 36 a6 s8 _ hq9) (by omega) wm_X3_begin wi_X3_begin wv_X3_begin km_9_123 (kc rfl rfl) (Nat.le_of_ble_eq_true rfl) rfl rfl rfl (Nat.le_of_ble_eq_true rfl) ⟨Nat.le_of_ble_eq_true rfl, Nat.le_of_ble_eq_true rfl⟩ (by decide +kernel) ?_
    show Ev l d mi_X9_board 63 [some (.ref 0), some (.int q2.1), some (.ref a6)] [] (hp q9) 0 0 _
    refine Ev.blk (pc' := 68) [(.aload_n 0, 0, 0, 0), (.getfield 60, 0, 9, 7), (.aload_n 2, 0, 0, 0)] (by decide +kernel) ⟨kf_9_60, trivial⟩ rfl (And.intro (kc rfl rfl) (Exists.intro 46 (And.intro rfl (?_))))
    show Ev l d mi_X9_board 68 [some (.ref 0), some (.int q2.1), some (.ref a6)] [.ref a6, .ref 46] (hp q9) 0 0 _
    obtain ⟨q10, hq10, hf⟩ := bd_some hf
    refine Ev.callV (o := 46) (M' := mi_X3_begin) (d' := d - 1) (As := [.ref a6]) (rest := []) (r' := (none, hp q10)) (e_X3_begin (d := d - 1) (by omega) 46 a6 q9 _ hq10) (by omega) wm_X3_begin wi_X3_begin wv_X3_begin km_9_123 (kc rfl rfl) (Nat.le_of_ble_eq_true rfl) rfl rfl rfl (Nat.le_of_ble_eq_true rfl) ⟨Nat.le_of_ble_eq_true rfl, Nat.le_of_ble_eq_true rfl⟩ (by decide +kernel) ?_
    show Ev l d mi_X9_board 71 [some (.ref 0), some (.int q2.1), some (.ref a6)] [] (hp q10) 0 0 _
    refine Ev.blk (pc' := 75) [(.aload_n 0, 0, 0, 0), (.getfield 66, 0, 9, 8)] (by decide +kernel) ⟨kf_9_66, trivial⟩ rfl (And.intro (kc rfl rfl) (Exists.intro 56 (And.intro rfl (?_))))
    show Ev l d mi_X9_board 75 [some (.ref 0), some (.int q2.1), some (.ref a6)] [.ref 56] (hp q10) 0 0 _
    obtain ⟨q11, hq11, hf⟩ := bd_some hf
    refine Ev.callV (o := 56) (M' := mi_X0_forget) (d' := d - 1) (As := []) (rest := []) (r' := (none, hp q11)) (e_X0_forget (d := d - 1) (by omega) q10 _ hq11) (by omega) wm_X0_forget wi_X0_forget wv_X0_forget km_9_126 (kc rfl rfl) (Nat.le_of_ble_eq_true rfl) rfl rfl rfl (Nat.le_of_ble_eq_true rfl) ⟨Nat.le_of_ble_eq_true rfl, Nat.le_of_ble_eq_true rfl⟩ (by decide +kernel) ?_
    show Ev l d mi_X9_board 78 [some (.ref 0), some (.int q2.1), some (.ref a6)] [] (hp q11) 0 0 _
    obtain ⟨s12, hs12, hf⟩ := lt_some hf
    refine Ev.blk (pc' := 84) [(.aload_n 0, 0, 0, 0), (.iconst 0, 0, 0, 0), (.putfield 77, 0, 9, 11), (.iload_n 1, 0, 0, 0)] (by decide +kernel) ⟨⟨kf_9_77, Or.inl rfl⟩, trivial⟩ rfl (And.intro (kc rfl rfl) (?_))
    show Ev l d mi_X9_board 84 [some (.ref 0), some (.int q2.1), some (.ref a6)] [.int q2.1] (hp (uI q11 0 11 (Int32.ofInt 0))) 0 0 _
    rw [← hs12]
    cases hf
    exact Ev.iret .int rfl rfl (by decide +kernel) (Nat.le_refl _) (Nat.le_refl _)
  · have hf := (if_neg b5).symm.trans hf
    refine Ev.blk (pc' := 33) [(.aload_n 0, 0, 0, 0), (.iconst 1, 0, 0, 0)] (by decide +kernel) trivial rfl (?_)
    show Ev l d mi_X9_board 33 [some (.ref 0), some (.int q2.1), none] [.int (Int32.ofInt 1), .ref 0] (hp q4) 0 0 _
    obtain ⟨q13, hq13, hf⟩ := bd_some hf
    refine Ev.callV (o := 0) (M' := mi_X9_refuse) (d' := d - 1) (As := [.int (Int32.ofInt 1)]) (rest := []) (r' := (some (.int q13.1), hp q13.2)) (e_X9_refuse (d := d - 1) (by omega) (Int32.ofInt 1) q4 _ hq13) (by omega) wm_X9_refuse wi_X9_refuse wv_X9_refuse km_9_108 (kc rfl rfl) (Nat.le_of_ble_eq_true rfl) rfl rfl rfl (Nat.le_of_ble_eq_true rfl) ⟨Nat.le_of_ble_eq_true rfl, Nat.le_of_ble_eq_true rfl⟩ (by decide +kernel) ?_
    show Ev l d mi_X9_board 36 [some (.ref 0), some (.int q2.1), none] [.int q13.1] (hp q13.2) 0 0 _
    cases hf
    exact Ev.iret .int rfl rfl (by decide +kernel) (Nat.le_refl _) (Nat.le_refl _)
def f_X9_fault (p0 : Int32) (s : ST) : Option (Int32 × ST) := (if p0 = 0 then some ((s.1 0 13), s) else (if p0 = (Int32.ofInt 1) then some ((s.1 0 14), s) else some ((Int32.ofInt (-1)), s)))
set_option maxHeartbeats 2000000 in
set_option maxRecDepth 20000 in
theorem e_X9_fault {l : Launch} {d : Nat} (hd : 1 ≤ d) (p0 : Int32) (s : ST) (r : Int32 × ST) (hf : f_X9_fault p0 s = some r) : Cl l d mi_X9_fault [.ref 0, .int p0] (hp s) (some (.int r.1), hp r.2) := by
  refine Ev.entry (by decide +kernel) rfl rfl ?_
  show Ev l d mi_X9_fault 0 [some (.ref 0), some (.int p0)] [] (hp s) 0 0 _
  unfold f_X9_fault at hf
  refine Ev.blk (pc' := 1) [(.iload_n 1, 0, 0, 0)] (by decide +kernel) trivial rfl (?_)
  show Ev l d mi_X9_fault 1 [some (.ref 0), some (.int p0)] [.int p0] (hp s) 0 0 _
  refine Ev.if_ne (off := 8) (tgt := 9) (by decide +kernel) (by decide) (fun b1 => ?_) (fun b1 => ?_)
  · have hf := (if_neg b1).symm.trans hf
    refine Ev.blk (pc' := 11) [(.iload_n 1, 0, 0, 0), (.iconst 1, 0, 0, 0)] (by decide +kernel) trivial rfl (?_)
    show Ev l d mi_X9_fault 11 [some (.ref 0), some (.int p0)] [.int (Int32.ofInt 1), .int p0] (hp s) 0 0 _
    refine Ev.icmp_ne (off := 10) (tgt := 21) (by decide +kernel) (by decide) (fun b2 => ?_) (fun b2 => ?_)
    · have hf := (if_neg b2).symm.trans hf
      refine Ev.blk (pc' := 22) [(.iconst (-1), 0, 0, 0)] (by decide +kernel) trivial rfl (?_)
      show Ev l d mi_X9_fault 22 [some (.ref 0), some (.int p0)] [.int (Int32.ofInt (-1))] (hp s) 0 0 _
      cases hf
      exact Ev.iret .int rfl rfl (by decide +kernel) (Nat.le_refl _) (Nat.le_refl _)
    · have hf := (if_pos b2).symm.trans hf
      refine Ev.blk (pc' := 18) [(.aload_n 0, 0, 0, 0), (.getfield 87, 0, 9, 14)] (by decide +kernel) ⟨kf_9_87, trivial⟩ rfl (And.intro (kc rfl rfl) (?_))
      show Ev l d mi_X9_fault 18 [some (.ref 0), some (.int p0)] [.int (s.1 0 14)] (hp s) 0 0 _
      refine Ev.goto (off := 4) (tgt := 22) (by decide +kernel) (by decide) ?_
      cases hf
      exact Ev.iret .int rfl rfl (by decide +kernel) (Nat.le_refl _) (Nat.le_refl _)
  · have hf := (if_pos b1).symm.trans hf
    refine Ev.blk (pc' := 8) [(.aload_n 0, 0, 0, 0), (.getfield 84, 0, 9, 13)] (by decide +kernel) ⟨kf_9_84, trivial⟩ rfl (And.intro (kc rfl rfl) (?_))
    show Ev l d mi_X9_fault 8 [some (.ref 0), some (.int p0)] [.int (s.1 0 13)] (hp s) 0 0 _
    cases hf
    exact Ev.iret .int rfl rfl (by decide +kernel) (Nat.le_refl _) (Nat.le_refl _)
def f_X9_isTold (s : ST) : Option (Int32 × ST) := (RR s.2.2 0 3).bind (fun a1 => gd (kk a1 4) ((if (s.1 a1 0) ≤ 0 then some ((Int32.ofInt 0), s) else some ((Int32.ofInt 1), s))))
set_option maxHeartbeats 2000000 in
set_option maxRecDepth 20000 in
theorem e_X9_isTold {l : Launch} {d : Nat} (hd : 1 ≤ d) (s : ST) (r : Int32 × ST) (hf : f_X9_isTold s = some r) : Cl l d mi_X9_isTold [.ref 0] (hp s) (some (.int r.1), hp r.2) := by
  refine Ev.entry (by decide +kernel) rfl rfl ?_
  show Ev l d mi_X9_isTold 0 [some (.ref 0)] [] (hp s) 0 0 _
  unfold f_X9_isTold at hf
  obtain ⟨a1, ha1, hf⟩ := bd_some hf
  obtain ⟨c2, hf⟩ := gd_some hf
  refine Ev.blk (pc' := 7) [(.aload_n 0, 0, 0, 0), (.getfield 37, 0, 9, 3), (.getfield 129, 0, 4, 0)] (by decide +kernel) ⟨kf_9_37, ⟨kf_9_129, trivial⟩⟩ rfl (And.intro (kc rfl rfl) (Exists.intro a1 (And.intro ha1 (And.intro (kk_ok c2) (?_)))))
  show Ev l d mi_X9_isTold 7 [some (.ref 0)] [.int (s.1 a1 0)] (hp s) 0 0 _
  refine Ev.if_le (off := 7) (tgt := 14) (by decide +kernel) (by decide) (fun b3 => ?_) (fun b3 => ?_)
  · have hf := (if_pos b3).symm.trans hf
    refine Ev.blk (pc' := 15) [(.iconst 0, 0, 0, 0)] (by decide +kernel) trivial rfl (?_)
    show Ev l d mi_X9_isTold 15 [some (.ref 0)] [.int (Int32.ofInt 0)] (hp s) 0 0 _
    cases hf
    exact Ev.iret .boolean rfl rfl (by decide +kernel) (Nat.le_refl _) (Nat.le_refl _)
  · have hf := (if_neg b3).symm.trans hf
    refine Ev.blk (pc' := 11) [(.iconst 1, 0, 0, 0)] (by decide +kernel) trivial rfl (?_)
    show Ev l d mi_X9_isTold 11 [some (.ref 0)] [.int (Int32.ofInt 1)] (hp s) 0 0 _
    refine Ev.goto (off := 4) (tgt := 15) (by decide +kernel) (by decide) ?_
    cases hf
    exact Ev.iret .boolean rfl rfl (by decide +kernel) (Nat.le_refl _) (Nat.le_refl _)
def f_X9_has (p0 : Int32) (s : ST) : Option (Int32 × ST) := (if p0 = 0 then (RR s.2.2 0 3).bind (fun a2 => gd (kk a2 4) (some ((s.1 a2 0), s))) else (if p0 = 1 then (RR s.2.2 0 3).bind (fun a5 => gd (kk a5 4) (some ((s.1 a5 1), s))) else (if p0 = 2 then (RR s.2.2 0 3).bind (fun a8 => gd (kk a8 4) (some ((s.1 a8 3), s))) else (if p0 = 3 then (RR s.2.2 0 3).bind (fun a11 => gd (kk a11 4) (some ((s.1 a11 8), s))) else (if p0 = 4 then (RR s.2.2 0 3).bind (fun a14 => gd (kk a14 4) (some ((s.1 a14 12), s))) else (if p0 = 5 then some ((s.1 36 1), s) else (if p0 = 6 then some ((s.1 36 2), s) else (if p0 = 7 then (f_X9_isTold s).bind (fun q19 => (if q19.1 = 0 then some ((Int32.ofInt 0), q19.2) else (f_X3_isOver 36 q19.2).bind (fun q21 => (if q21.1 = 0 then some ((Int32.ofInt 0), q21.2) else some ((Int32.ofInt 1), q21.2))))) else (if p0 = 8 then (RR s.2.2 0 3).bind (fun a24 => gd (kk a24 4) ((f_X3_menOf 36 (Int32.ofInt 0) s).bind (fun q26 => (f_X3_menOf 36 (Int32.ofInt 1) q26.2).bind (fun q27 => some ((((s.1 a24 8) - q26.1) - q27.1), q27.2))))) else (if p0 = 9 then (f_X3_borne 36 s).bind (fun q29 => some (q29.1, q29.2)) else (if p0 = 10 then (f_X0_told s).bind (fun q31 => some (q31.1, q31.2)) else (if p0 = 11 then some ((s.1 0 11), s) else (if p0 = 12 then some ((s.1 56 3), s) else (some ((Int32.ofInt (-1)), s)))))))))))))))
set_option maxHeartbeats 2000000 in
set_option maxRecDepth 20000 in
theorem e_X9_has {l : Launch} {d : Nat} (hd : 5 ≤ d) (p0 : Int32) (s : ST) (r : Int32 × ST) (hf : f_X9_has p0 s = some r) : Cl l d mi_X9_has [.ref 0, .int p0] (hp s) (some (.int r.1), hp r.2) := by
  refine Ev.entry (by decide +kernel) rfl rfl ?_
  show Ev l d mi_X9_has 0 [some (.ref 0), some (.int p0)] [] (hp s) 0 0 _
  unfold f_X9_has at hf
  refine Ev.blk (pc' := 1) [(.iload_n 1, 0, 0, 0)] (by decide +kernel) trivial rfl (?_)
  show Ev l d mi_X9_has 1 [some (.ref 0), some (.int p0)] [.int p0] (hp s) 0 0 _
  by_cases b1 : p0 = 0
  · have hf := (if_pos b1).symm.trans hf
    refine Ev.tswitch (dflt := 201) (lo := 0) (hi := 12) (offs := #[67, 75, 83, 91, 99, 107, 115, 123, 146, 172, 180, 188, 193]) (len := 67) (tgt := 68) (by decide +kernel) (by rw [b1]; decide) (by decide) ?_
    obtain ⟨a2, ha2, hf⟩ := bd_some hf
    obtain ⟨c3, hf⟩ := gd_some hf
    refine Ev.blk (pc' := 75) [(.aload_n 0, 0, 0, 0), (.getfield 37, 0, 9, 3), (.getfield 129, 0, 4, 0)] (by decide +kernel) ⟨kf_9_37, ⟨kf_9_129, trivial⟩⟩ rfl (And.intro (kc rfl rfl) (Exists.intro a2 (And.intro ha2 (And.intro (kk_ok c3) (?_)))))
    show Ev l d mi_X9_has 75 [some (.ref 0), some (.int p0)] [.int (s.1 a2 0)] (hp s) 0 0 _
    cases hf
    exact Ev.iret .int rfl rfl (by decide +kernel) (Nat.le_refl _) (Nat.le_refl _)
  · have hf := (if_neg b1).symm.trans hf
    by_cases b4 : p0 = 1
    · have hf := (if_pos b4).symm.trans hf
      refine Ev.tswitch (dflt := 201) (lo := 0) (hi := 12) (offs := #[67, 75, 83, 91, 99, 107, 115, 123, 146, 172, 180, 188, 193]) (len := 67) (tgt := 76) (by decide +kernel) (by rw [b4]; decide) (by decide) ?_
      obtain ⟨a5, ha5, hf⟩ := bd_some hf
      obtain ⟨c6, hf⟩ := gd_some hf
      refine Ev.blk (pc' := 83) [(.aload_n 0, 0, 0, 0), (.getfield 37, 0, 9, 3), (.getfield 132, 0, 4, 1)] (by decide +kernel) ⟨kf_9_37, ⟨kf_9_132, trivial⟩⟩ rfl (And.intro (kc rfl rfl) (Exists.intro a5 (And.intro ha5 (And.intro (kk_ok c6) (?_)))))
      show Ev l d mi_X9_has 83 [some (.ref 0), some (.int p0)] [.int (s.1 a5 1)] (hp s) 0 0 _
      cases hf
      exact Ev.iret .int rfl rfl (by decide +kernel) (Nat.le_refl _) (Nat.le_refl _)
    · have hf := (if_neg b4).symm.trans hf
      by_cases b7 : p0 = 2
      · have hf := (if_pos b7).symm.trans hf
        refine Ev.tswitch (dflt := 201) (lo := 0) (hi := 12) (offs := #[67, 75, 83, 91, 99, 107, 115, 123, 146, 172, 180, 188, 193]) (len := 67) (tgt := 84) (by decide +kernel) (by rw [b7]; decide) (by decide) ?_
        obtain ⟨a8, ha8, hf⟩ := bd_some hf
        obtain ⟨c9, hf⟩ := gd_some hf
        refine Ev.blk (pc' := 91) [(.aload_n 0, 0, 0, 0), (.getfield 37, 0, 9, 3), (.getfield 135, 0, 4, 3)] (by decide +kernel) ⟨kf_9_37, ⟨kf_9_135, trivial⟩⟩ rfl (And.intro (kc rfl rfl) (Exists.intro a8 (And.intro ha8 (And.intro (kk_ok c9) (?_)))))
        show Ev l d mi_X9_has 91 [some (.ref 0), some (.int p0)] [.int (s.1 a8 3)] (hp s) 0 0 _
        cases hf
        exact Ev.iret .int rfl rfl (by decide +kernel) (Nat.le_refl _) (Nat.le_refl _)
      · have hf := (if_neg b7).symm.trans hf
        by_cases b10 : p0 = 3
        · have hf := (if_pos b10).symm.trans hf
          refine Ev.tswitch (dflt := 201) (lo := 0) (hi := 12) (offs := #[67, 75, 83, 91, 99, 107, 115, 123, 146, 172, 180, 188, 193]) (len := 67) (tgt := 92) (by decide +kernel) (by rw [b10]; decide) (by decide) ?_
          obtain ⟨a11, ha11, hf⟩ := bd_some hf
          obtain ⟨c12, hf⟩ := gd_some hf
          refine Ev.blk (pc' := 99) [(.aload_n 0, 0, 0, 0), (.getfield 37, 0, 9, 3), (.getfield 138, 0, 4, 8)] (by decide +kernel) ⟨kf_9_37, ⟨kf_9_138, trivial⟩⟩ rfl (And.intro (kc rfl rfl) (Exists.intro a11 (And.intro ha11 (And.intro (kk_ok c12) (?_)))))
          show Ev l d mi_X9_has 99 [some (.ref 0), some (.int p0)] [.int (s.1 a11 8)] (hp s) 0 0 _
          cases hf
          exact Ev.iret .int rfl rfl (by decide +kernel) (Nat.le_refl _) (Nat.le_refl _)
        · have hf := (if_neg b10).symm.trans hf
          by_cases b13 : p0 = 4
          · have hf := (if_pos b13).symm.trans hf
            refine Ev.tswitch (dflt := 201) (lo := 0) (hi := 12) (offs := #[67, 75, 83, 91, 99, 107, 115, 123, 146, 172, 180, 188, 193]) (len := 67) (tgt := 100) (by decide +kernel) (by rw [b13]; decide) (by decide) ?_
            obtain ⟨a14, ha14, hf⟩ := bd_some hf
            obtain ⟨c15, hf⟩ := gd_some hf
            refine Ev.blk (pc' := 107) [(.aload_n 0, 0, 0, 0), (.getfield 37, 0, 9, 3), (.getfield 141, 0, 4, 12)] (by decide +kernel) ⟨kf_9_37, ⟨kf_9_141, trivial⟩⟩ rfl (And.intro (kc rfl rfl) (Exists.intro a14 (And.intro ha14 (And.intro (kk_ok c15) (?_)))))
            show Ev l d mi_X9_has 107 [some (.ref 0), some (.int p0)] [.int (s.1 a14 12)] (hp s) 0 0 _
            cases hf
            exact Ev.iret .int rfl rfl (by decide +kernel) (Nat.le_refl _) (Nat.le_refl _)
          · have hf := (if_neg b13).symm.trans hf
            by_cases b16 : p0 = 5
            · have hf := (if_pos b16).symm.trans hf
              refine Ev.tswitch (dflt := 201) (lo := 0) (hi := 12) (offs := #[67, 75, 83, 91, 99, 107, 115, 123, 146, 172, 180, 188, 193]) (len := 67) (tgt := 108) (by decide +kernel) (by rw [b16]; decide) (by decide) ?_
              refine Ev.blk (pc' := 115) [(.aload_n 0, 0, 0, 0), (.getfield 56, 0, 9, 6), (.getfield 144, 0, 3, 1)] (by decide +kernel) ⟨kf_9_56, ⟨kf_9_144, trivial⟩⟩ rfl (And.intro (kc rfl rfl) (Exists.intro 36 (And.intro rfl (And.intro (kc rfl rfl) (?_)))))
              show Ev l d mi_X9_has 115 [some (.ref 0), some (.int p0)] [.int (s.1 36 1)] (hp s) 0 0 _
              cases hf
              exact Ev.iret .int rfl rfl (by decide +kernel) (Nat.le_refl _) (Nat.le_refl _)
            · have hf := (if_neg b16).symm.trans hf
              by_cases b17 : p0 = 6
              · have hf := (if_pos b17).symm.trans hf
                refine Ev.tswitch (dflt := 201) (lo := 0) (hi := 12) (offs := #[67, 75, 83, 91, 99, 107, 115, 123, 146, 172, 180, 188, 193]) (len := 67) (tgt := 116) (by decide +kernel) (by rw [b17]; decide) (by decide) ?_
                refine Ev.blk (pc' := 123) [(.aload_n 0, 0, 0, 0), (.getfield 56, 0, 9, 6), (.getfield 147, 0, 3, 2)] (by decide +kernel) ⟨kf_9_56, ⟨kf_9_147, trivial⟩⟩ rfl (And.intro (kc rfl rfl) (Exists.intro 36 (And.intro rfl (And.intro (kc rfl rfl) (?_)))))
                show Ev l d mi_X9_has 123 [some (.ref 0), some (.int p0)] [.int (s.1 36 2)] (hp s) 0 0 _
                cases hf
                exact Ev.iret .int rfl rfl (by decide +kernel) (Nat.le_refl _) (Nat.le_refl _)
              · have hf := (if_neg b17).symm.trans hf
                by_cases b18 : p0 = 7
                · have hf := (if_pos b18).symm.trans hf
                  refine Ev.tswitch (dflt := 201) (lo := 0) (hi := 12) (offs := #[67, 75, 83, 91, 99, 107, 115, 123, 146, 172, 180, 188, 193]) (len := 67) (tgt := 124) (by decide +kernel) (by rw [b18]; decide) (by decide) ?_
                  refine Ev.blk (pc' := 125) [(.aload_n 0, 0, 0, 0)] (by decide +kernel) trivial rfl (?_)
                  show Ev l d mi_X9_has 125 [some (.ref 0), some (.int p0)] [.ref 0] (hp s) 0 0 _
                  obtain ⟨q19, hq19, hf⟩ := bd_some hf
                  refine Ev.callV (o := 0) (M' := mi_X9_isTold) (d' := d - 1) (As := []) (rest := []) (r' := (some (.int q19.1), hp q19.2)) (e_X9_isTold (d := d - 1) (by omega) s _ hq19) (by omega) wm_X9_isTold wi_X9_isTold wv_X9_isTold km_9_150 (kc rfl rfl) (Nat.le_of_ble_eq_true rfl) rfl rfl rfl (Nat.le_of_ble_eq_true rfl) ⟨Nat.le_of_ble_eq_true rfl, Nat.le_of_ble_eq_true rfl⟩ (by decide +kernel) ?_
                  show Ev l d mi_X9_has 128 [some (.ref 0), some (.int p0)] [.int q19.1] (hp q19.2) 0 0 _
                  refine Ev.if_eq (off := 17) (tgt := 145) (by decide +kernel) (by decide) (fun b20 => ?_) (fun b20 => ?_)
                  · have hf := (if_pos b20).symm.trans hf
                    refine Ev.blk (pc' := 146) [(.iconst 0, 0, 0, 0)] (by decide +kernel) trivial rfl (?_)
                    show Ev l d mi_X9_has 146 [some (.ref 0), some (.int p0)] [.int (Int32.ofInt 0)] (hp q19.2) 0 0 _
                    cases hf
                    exact Ev.iret .int rfl rfl (by decide +kernel) (Nat.le_refl _) (Nat.le_refl _)
                  · have hf := (if_neg b20).symm.trans hf
                    refine Ev.blk (pc' := 135) [(.aload_n 0, 0, 0, 0), (.getfield 56, 0, 9, 6)] (by decide +kernel) ⟨kf_9_56, trivial⟩ rfl (And.intro (kc rfl rfl) (Exists.intro 36 (And.intro rfl (?_))))
                    show Ev l d mi_X9_has 135 [some (.ref 0), some (.int p0)] [.ref 36] (hp q19.2) 0 0 _
                    obtain ⟨q21, hq21, hf⟩ := bd_some hf
                    refine Ev.callV (o := 36) (M' := mi_X3_isOver) (d' := d - 1) (As := []) (rest := []) (r' := (some (.int q21.1), hp q21.2)) (e_X3_isOver (d := d - 1) (by omega) 36 q19.2 _ hq21) (by omega) wm_X3_isOver wi_X3_isOver wv_X3_isOver km_9_154 (kc rfl rfl) (Nat.le_of_ble_eq_true rfl) rfl rfl rfl (Nat.le_of_ble_eq_true rfl) ⟨Nat.le_of_ble_eq_true rfl, Nat.le_of_ble_eq_true rfl⟩ (by decide +kernel) ?_
                    show Ev l d mi_X9_has 138 [some (.ref 0), some (.int p0)] [.int q21.1] (hp q21.2) 0 0 _
                    refine Ev.if_eq (off := 7) (tgt := 145) (by decide +kernel) (by decide) (fun b22 => ?_) (fun b22 => ?_)
                    · have hf := (if_pos b22).symm.trans hf
                      refine Ev.blk (pc' := 146) [(.iconst 0, 0, 0, 0)] (by decide +kernel) trivial rfl (?_)
                      show Ev l d mi_X9_has 146 [some (.ref 0), some (.int p0)] [.int (Int32.ofInt 0)] (hp q21.2) 0 0 _
                      cases hf
                      exact Ev.iret .int rfl rfl (by decide +kernel) (Nat.le_refl _) (Nat.le_refl _)
                    · have hf := (if_neg b22).symm.trans hf
                      refine Ev.blk (pc' := 142) [(.iconst 1, 0, 0, 0)] (by decide +kernel) trivial rfl (?_)
                      show Ev l d mi_X9_has 142 [some (.ref 0), some (.int p0)] [.int (Int32.ofInt 1)] (hp q21.2) 0 0 _
                      refine Ev.goto (off := 4) (tgt := 146) (by decide +kernel) (by decide) ?_
                      cases hf
                      exact Ev.iret .int rfl rfl (by decide +kernel) (Nat.le_refl _) (Nat.le_refl _)
                · have hf := (if_neg b18).symm.trans hf
                  by_cases b23 : p0 = 8
                  · have hf := (if_pos b23).symm.trans hf
                    refine Ev.tswitch (dflt := 201) (lo := 0) (hi := 12) (offs := #[67, 75, 83, 91, 99, 107, 115, 123, 146, 172, 180, 188, 193]) (len := 67) (tgt := 147) (by decide +kernel) (by rw [b23]; decide) (by decide) ?_
                    obtain ⟨a24, ha24, hf⟩ := bd_some hf
                    obtain ⟨c25, hf⟩ := gd_some hf
                    refine Ev.blk (pc' := 159) [(.aload_n 0, 0, 0, 0), (.getfield 37, 0, 9, 3), (.getfield 138, 0, 4, 8), (.aload_n 0, 0, 0, 0), (.getfield 56, 0, 9, 6), (.iconst 0, 0, 0, 0)] (by decide +kernel) ⟨kf_9_37, ⟨kf_9_138, ⟨kf_9_56, trivial⟩⟩⟩ rfl (And.intro (kc rfl rfl) (Exists.intro a24 (And.intro ha24 (And.intro (kk_ok c25) (And.intro (kc rfl rfl) (Exists.intro 36 (And.intro rfl (?_))))))))
                    show Ev l d mi_X9_has 159 [some (.ref 0), some (.int p0)] [.int (Int32.ofInt 0), .ref 36, .int (s.1 a24 8)] (hp s) 0 0 _
                    obtain ⟨q26, hq26, hf⟩ := bd_some hf
                    refine Ev.callV (o := 36) (M' := mi_X3_menOf) (d' := d - 1) (As := [.int (Int32.ofInt 0)]) (rest := [.int (s.1 a24 8)]) (r' := (some (.int q26.1), hp q26.2)) (e_X3_menOf (d := d - 1) (by omega) 36 (Int32.ofInt 0) s _ hq26) (by omega) wm_X3_menOf wi_X3_menOf wv_X3_menOf km_9_157 (kc rfl rfl) (Nat.le_of_ble_eq_true rfl) rfl rfl rfl (Nat.le_of_ble_eq_true rfl) ⟨Nat.le_of_ble_eq_true rfl, Nat.le_of_ble_eq_true rfl⟩ (by decide +kernel) ?_
                    show Ev l d mi_X9_has 162 [some (.ref 0), some (.int p0)] [.int q26.1, .int (s.1 a24 8)] (hp q26.2) 0 0 _
                    refine Ev.blk (pc' := 168) [(.isub, 0, 0, 0), (.aload_n 0, 0, 0, 0), (.getfield 56, 0, 9, 6), (.iconst 1, 0, 0, 0)] (by decide +kernel) ⟨kf_9_56, trivial⟩ rfl (And.intro (kc rfl rfl) (Exists.intro 36 (And.intro rfl (?_))))
                    show Ev l d mi_X9_has 168 [some (.ref 0), some (.int p0)] [.int (Int32.ofInt 1), .ref 36, .int ((s.1 a24 8) - q26.1)] (hp q26.2) 0 0 _
                    obtain ⟨q27, hq27, hf⟩ := bd_some hf
                    refine Ev.callV (o := 36) (M' := mi_X3_menOf) (d' := d - 1) (As := [.int (Int32.ofInt 1)]) (rest := [.int ((s.1 a24 8) - q26.1)]) (r' := (some (.int q27.1), hp q27.2)) (e_X3_menOf (d := d - 1) (by omega) 36 (Int32.ofInt 1) q26.2 _ hq27) (by omega) wm_X3_menOf wi_X3_menOf wv_X3_menOf km_9_157 (kc rfl rfl) (Nat.le_of_ble_eq_true rfl) rfl rfl rfl (Nat.le_of_ble_eq_true rfl) ⟨Nat.le_of_ble_eq_true rfl, Nat.le_of_ble_eq_true rfl⟩ (by decide +kernel) ?_
                    show Ev l d mi_X9_has 171 [some (.ref 0), some (.int p0)] [.int q27.1, .int ((s.1 a24 8) - q26.1)] (hp q27.2) 0 0 _
                    refine Ev.blk (pc' := 172) [(.isub, 0, 0, 0)] (by decide +kernel) trivial rfl (?_)
                    show Ev l d mi_X9_has 172 [some (.ref 0), some (.int p0)] [.int (((s.1 a24 8) - q26.1) - q27.1)] (hp q27.2) 0 0 _
                    cases hf
                    exact Ev.iret .int rfl rfl (by decide +kernel) (Nat.le_refl _) (Nat.le_refl _)
                  · have hf := (if_neg b23).symm.trans hf
                    by_cases b28 : p0 = 9
                    · have hf := (if_pos b28).symm.trans hf
                      refine Ev.tswitch (dflt := 201) (lo := 0) (hi := 12) (offs := #[67, 75, 83, 91, 99, 107, 115, 123, 146, 172, 180, 188, 193]) (len := 67) (tgt := 173) (by decide +kernel) (by rw [b28]; decide) (by decide) ?_
                      refine Ev.blk (pc' := 177) [(.aload_n 0, 0, 0, 0), (.getfield 56, 0, 9, 6)] (by decide +kernel) ⟨kf_9_56, trivial⟩ rfl (And.intro (kc rfl rfl) (Exists.intro 36 (And.intro rfl (?_))))
                      show Ev l d mi_X9_has 177 [some (.ref 0), some (.int p0)] [.ref 36] (hp s) 0 0 _
                      obtain ⟨q29, hq29, hf⟩ := bd_some hf
                      refine Ev.callV (o := 36) (M' := mi_X3_borne) (d' := d - 1) (As := []) (rest := []) (r' := (some (.int q29.1), hp q29.2)) (e_X3_borne (d := d - 1) (by omega) 36 s _ hq29) (by omega) wm_X3_borne wi_X3_borne wv_X3_borne km_9_160 (kc rfl rfl) (Nat.le_of_ble_eq_true rfl) rfl rfl rfl (Nat.le_of_ble_eq_true rfl) ⟨Nat.le_of_ble_eq_true rfl, Nat.le_of_ble_eq_true rfl⟩ (by decide +kernel) ?_
                      show Ev l d mi_X9_has 180 [some (.ref 0), some (.int p0)] [.int q29.1] (hp q29.2) 0 0 _
                      cases hf
                      exact Ev.iret .int rfl rfl (by decide +kernel) (Nat.le_refl _) (Nat.le_refl _)
                    · have hf := (if_neg b28).symm.trans hf
                      by_cases b30 : p0 = 10
                      · have hf := (if_pos b30).symm.trans hf
                        refine Ev.tswitch (dflt := 201) (lo := 0) (hi := 12) (offs := #[67, 75, 83, 91, 99, 107, 115, 123, 146, 172, 180, 188, 193]) (len := 67) (tgt := 181) (by decide +kernel) (by rw [b30]; decide) (by decide) ?_
                        refine Ev.blk (pc' := 185) [(.aload_n 0, 0, 0, 0), (.getfield 66, 0, 9, 8)] (by decide +kernel) ⟨kf_9_66, trivial⟩ rfl (And.intro (kc rfl rfl) (Exists.intro 56 (And.intro rfl (?_))))
                        show Ev l d mi_X9_has 185 [some (.ref 0), some (.int p0)] [.ref 56] (hp s) 0 0 _
                        obtain ⟨q31, hq31, hf⟩ := bd_some hf
                        refine Ev.callV (o := 56) (M' := mi_X0_told) (d' := d - 1) (As := []) (rest := []) (r' := (some (.int q31.1), hp q31.2)) (e_X0_told (d := d - 1) (by omega) s _ hq31) (by omega) wm_X0_told wi_X0_told wv_X0_told km_9_164 (kc rfl rfl) (Nat.le_of_ble_eq_true rfl) rfl rfl rfl (Nat.le_of_ble_eq_true rfl) ⟨Nat.le_of_ble_eq_true rfl, Nat.le_of_ble_eq_true rfl⟩ (by decide +kernel) ?_
                        show Ev l d mi_X9_has 188 [some (.ref 0), some (.int p0)] [.int q31.1] (hp q31.2) 0 0 _
                        cases hf
                        exact Ev.iret .int rfl rfl (by decide +kernel) (Nat.le_refl _) (Nat.le_refl _)
                      · have hf := (if_neg b30).symm.trans hf
                        by_cases b32 : p0 = 11
                        · have hf := (if_pos b32).symm.trans hf
                          refine Ev.tswitch (dflt := 201) (lo := 0) (hi := 12) (offs := #[67, 75, 83, 91, 99, 107, 115, 123, 146, 172, 180, 188, 193]) (len := 67) (tgt := 189) (by decide +kernel) (by rw [b32]; decide) (by decide) ?_
                          refine Ev.blk (pc' := 193) [(.aload_n 0, 0, 0, 0), (.getfield 77, 0, 9, 11)] (by decide +kernel) ⟨kf_9_77, trivial⟩ rfl (And.intro (kc rfl rfl) (?_))
                          show Ev l d mi_X9_has 193 [some (.ref 0), some (.int p0)] [.int (s.1 0 11)] (hp s) 0 0 _
                          cases hf
                          exact Ev.iret .int rfl rfl (by decide +kernel) (Nat.le_refl _) (Nat.le_refl _)
                        · have hf := (if_neg b32).symm.trans hf
                          by_cases b33 : p0 = 12
                          · have hf := (if_pos b33).symm.trans hf
                            refine Ev.tswitch (dflt := 201) (lo := 0) (hi := 12) (offs := #[67, 75, 83, 91, 99, 107, 115, 123, 146, 172, 180, 188, 193]) (len := 67) (tgt := 194) (by decide +kernel) (by rw [b33]; decide) (by decide) ?_
                            refine Ev.blk (pc' := 201) [(.aload_n 0, 0, 0, 0), (.getfield 66, 0, 9, 8), (.getfield 167, 0, 0, 3)] (by decide +kernel) ⟨kf_9_66, ⟨kf_9_167, trivial⟩⟩ rfl (And.intro (kc rfl rfl) (Exists.intro 56 (And.intro rfl (And.intro (kc rfl rfl) (?_)))))
                            show Ev l d mi_X9_has 201 [some (.ref 0), some (.int p0)] [.int (s.1 56 3)] (hp s) 0 0 _
                            cases hf
                            exact Ev.iret .int rfl rfl (by decide +kernel) (Nat.le_refl _) (Nat.le_refl _)
                          · have hf := (if_neg b33).symm.trans hf
                            refine Ev.tswitch (dflt := 201) (lo := 0) (hi := 12) (offs := #[67, 75, 83, 91, 99, 107, 115, 123, 146, 172, 180, 188, 193]) (len := 67) (tgt := 202) (by decide +kernel) (by have e0 := sw_ne b1 (c := (0)) (by decide); have e1 := sw_ne b4 (c := (1)) (by decide); have e2 := sw_ne b7 (c := (2)) (by decide); have e3 := sw_ne b10 (c := (3)) (by decide); have e4 := sw_ne b13 (c := (4)) (by decide); have e5 := sw_ne b16 (c := (5)) (by decide); have e6 := sw_ne b17 (c := (6)) (by decide); have e7 := sw_ne b18 (c := (7)) (by decide); have e8 := sw_ne b23 (c := (8)) (by decide); have e9 := sw_ne b28 (c := (9)) (by decide); have e10 := sw_ne b30 (c := (10)) (by decide); have e11 := sw_ne b32 (c := (11)) (by decide); have e12 := sw_ne b33 (c := (12)) (by decide); rw [if_pos (by omega)]; decide) (by decide) ?_
                            refine Ev.blk (pc' := 203) [(.iconst (-1), 0, 0, 0)] (by decide +kernel) trivial rfl (?_)
                            show Ev l d mi_X9_has 203 [some (.ref 0), some (.int p0)] [.int (Int32.ofInt (-1))] (hp s) 0 0 _
                            cases hf
                            exact Ev.iret .int rfl rfl (by decide +kernel) (Nat.le_refl _) (Nat.le_refl _)
def f_X9_letterOf (p0 : Int32) (p1 : Int32) (s : ST) : Option (Int32 × ST) := lt ((p0 >>> (((Int32.ofInt 5) * p1) &&& 31)) &&& ((Int8.ofInt 31).toInt32)) (fun v1 => some (v1, s))
set_option maxHeartbeats 2000000 in
set_option maxRecDepth 20000 in
theorem e_X9_letterOf {l : Launch} {d : Nat} (hd : 1 ≤ d) (p0 : Int32) (p1 : Int32) (s : ST) (r : Int32 × ST) (hf : f_X9_letterOf p0 p1 s = some r) : Cl l d mi_X9_letterOf [.int p0, .int p1] (hp s) (some (.int r.1), hp r.2) := by
  refine Ev.entry (by decide +kernel) rfl rfl ?_
  show Ev l d mi_X9_letterOf 0 [some (.int p0), some (.int p1)] [] (hp s) 0 0 _
  unfold f_X9_letterOf at hf
  obtain ⟨v1, hv1, hf⟩ := lt_some hf
  refine Ev.blk (pc' := 8) [(.iload_n 0, 0, 0, 0), (.iconst 5, 0, 0, 0), (.iload_n 1, 0, 0, 0), (.imul, 0, 0, 0), (.ishr, 0, 0, 0), (.bipush 31, 0, 0, 0), (.iand, 0, 0, 0)] (by decide +kernel) trivial rfl (?_)
  show Ev l d mi_X9_letterOf 8 [some (.int p0), some (.int p1)] [.int ((p0 >>> (((Int32.ofInt 5) * p1) &&& 31)) &&& ((Int8.ofInt 31).toInt32))] (hp s) 0 0 _
  rw [← hv1]
  cases hf
  exact Ev.iret .int rfl rfl (by decide +kernel) (Nat.le_refl _) (Nat.le_refl _)
def f_X9_letter (p0 : Int32) (p1 : Int32) (p2 : Int32) (s : ST) : Option (Int32 × ST) := (if p2 < 0 then some ((Int32.ofInt (-1)), s) else (if ((Int8.ofInt 6).toInt32) ≤ p2 then some ((Int32.ofInt (-1)), s) else (if 0 ≤ p1 then (if p0 = 0 then (RR s.2.2 0 3).bind (fun a5 => gd (kk a5 4) ((if (s.1 a5 3) ≤ p1 then some ((Int32.ofInt (-1)), s) else (RR s.2.2 0 3).bind (fun a8 => gd (kk a8 4) ((RR s.2.2 a8 15).bind (fun a10 => gd (kk a10 13) (gd (ib p1 (K0 a10).2) ((f_X9_letterOf (s.1 a10 p1.toNatClampNeg) p2 s).bind (fun q13 => some (q13.1, q13.2)))))))))) else (if p0 = 1 then (RR s.2.2 0 3).bind (fun a15 => gd (kk a15 4) ((if (s.1 a15 8) ≤ p1 then some ((Int32.ofInt (-1)), s) else (RR s.2.2 0 3).bind (fun a18 => gd (kk a18 4) ((RR s.2.2 a18 15).bind (fun a20 => gd (kk a20 13) (gd (ib ((Int32.ofInt 5) + p1) (K0 a20).2) ((f_X9_letterOf (s.1 a20 ((Int32.ofInt 5) + p1).toNatClampNeg) p2 s).bind (fun q23 => some (q23.1, q23.2)))))))))) else (if p0 = 2 then (RR s.2.2 0 3).bind (fun a25 => gd (kk a25 4) ((if (s.1 a25 12) ≤ p1 then some ((Int32.ofInt (-1)), s) else (RR s.2.2 0 3).bind (fun a28 => gd (kk a28 4) ((RR s.2.2 a28 15).bind (fun a30 => gd (kk a30 13) (gd (ib (((Int8.ofInt 13).toInt32) + p1) (K0 a30).2) ((f_X9_letterOf (s.1 a30 (((Int8.ofInt 13).toInt32) + p1).toNatClampNeg) p2 s).bind (fun q33 => some (q33.1, q33.2)))))))))) else (some ((Int32.ofInt (-1)), s))))) else some ((Int32.ofInt (-1)), s))))
set_option maxHeartbeats 2000000 in
set_option maxRecDepth 20000 in
theorem e_X9_letter {l : Launch} {d : Nat} (hd : 2 ≤ d) (p0 : Int32) (p1 : Int32) (p2 : Int32) (s : ST) (r : Int32 × ST) (hf : f_X9_letter p0 p1 p2 s = some r) : Cl l d mi_X9_letter [.ref 0, .int p0, .int p1, .int p2] (hp s) (some (.int r.1), hp r.2) := by
  refine Ev.entry (by decide +kernel) rfl rfl ?_
  show Ev l d mi_X9_letter 0 [some (.ref 0), some (.int p0), some (.int p1), some (.int p2)] [] (hp s) 0 0 _
  unfold f_X9_letter at hf
  refine Ev.blk (pc' := 1) [(.iload_n 3, 0, 0, 0)] (by decide +kernel) trivial rfl (?_)
  show Ev l d mi_X9_letter 1 [some (.ref 0), some (.int p0), some (.int p1), some (.int p2)] [.int p2] (hp s) 0 0 _
  refine Ev.if_lt (off := 13) (tgt := 14) (by decide +kernel) (by decide) (fun b1 => ?_) (fun b1 => ?_)
  · have hf := (if_pos b1).symm.trans hf
    refine Ev.blk (pc' := 15) [(.iconst (-1), 0, 0, 0)] (by decide +kernel) trivial rfl (?_)
    show Ev l d mi_X9_letter 15 [some (.ref 0), some (.int p0), some (.int p1), some (.int p2)] [.int (Int32.ofInt (-1))] (hp s) 0 0 _
    cases hf
    exact Ev.iret .int rfl rfl (by decide +kernel) (Nat.le_refl _) (Nat.le_refl _)
  · have hf := (if_neg b1).symm.trans hf
    refine Ev.blk (pc' := 7) [(.iload_n 3, 0, 0, 0), (.bipush 6, 0, 0, 0)] (by decide +kernel) trivial rfl (?_)
    show Ev l d mi_X9_letter 7 [some (.ref 0), some (.int p0), some (.int p1), some (.int p2)] [.int ((Int8.ofInt 6).toInt32), .int p2] (hp s) 0 0 _
    refine Ev.icmp_ge (off := 7) (tgt := 14) (by decide +kernel) (by decide) (fun b2 => ?_) (fun b2 => ?_)
    · have hf := (if_pos b2).symm.trans hf
      refine Ev.blk (pc' := 15) [(.iconst (-1), 0, 0, 0)] (by decide +kernel) trivial rfl (?_)
      show Ev l d mi_X9_letter 15 [some (.ref 0), some (.int p0), some (.int p1), some (.int p2)] [.int (Int32.ofInt (-1))] (hp s) 0 0 _
      cases hf
      exact Ev.iret .int rfl rfl (by decide +kernel) (Nat.le_refl _) (Nat.le_refl _)
    · have hf := (if_neg b2).symm.trans hf
      refine Ev.blk (pc' := 11) [(.iload_n 2, 0, 0, 0)] (by decide +kernel) trivial rfl (?_)
      show Ev l d mi_X9_letter 11 [some (.ref 0), some (.int p0), some (.int p1), some (.int p2)] [.int p1] (hp s) 0 0 _
      refine Ev.if_ge (off := 5) (tgt := 16) (by decide +kernel) (by decide) (fun b3 => ?_) (fun b3 => ?_)
      · have hf := (if_pos b3).symm.trans hf
        refine Ev.blk (pc' := 17) [(.iload_n 1, 0, 0, 0)] (by decide +kernel) trivial rfl (?_)
        show Ev l d mi_X9_letter 17 [some (.ref 0), some (.int p0), some (.int p1), some (.int p2)] [.int p0] (hp s) 0 0 _
        by_cases b4 : p0 = 0
        · have hf := (if_pos b4).symm.trans hf
          refine Ev.tswitch (dflt := 119) (lo := 0) (hi := 2) (offs := #[27, 56, 87]) (len := 27) (tgt := 44) (by decide +kernel) (by rw [b4]; decide) (by decide) ?_
          obtain ⟨a5, ha5, hf⟩ := bd_some hf
          obtain ⟨c6, hf⟩ := gd_some hf
          refine Ev.blk (pc' := 52) [(.iload_n 2, 0, 0, 0), (.aload_n 0, 0, 0, 0), (.getfield 37, 0, 9, 3), (.getfield 135, 0, 4, 3)] (by decide +kernel) ⟨kf_9_37, ⟨kf_9_135, trivial⟩⟩ rfl (And.intro (kc rfl rfl) (Exists.intro a5 (And.intro ha5 (And.intro (kk_ok c6) (?_)))))
          show Ev l d mi_X9_letter 52 [some (.ref 0), some (.int p0), some (.int p1), some (.int p2)] [.int (s.1 a5 3), .int p1] (hp s) 0 0 _
          refine Ev.icmp_ge (off := 19) (tgt := 71) (by decide +kernel) (by decide) (fun b7 => ?_) (fun b7 => ?_)
          · have hf := (if_pos b7).symm.trans hf
            refine Ev.blk (pc' := 72) [(.iconst (-1), 0, 0, 0)] (by decide +kernel) trivial rfl (?_)
            show Ev l d mi_X9_letter 72 [some (.ref 0), some (.int p0), some (.int p1), some (.int p2)] [.int (Int32.ofInt (-1))] (hp s) 0 0 _
            cases hf
            exact Ev.iret .int rfl rfl (by decide +kernel) (Nat.le_refl _) (Nat.le_refl _)
          · have hf := (if_neg b7).symm.trans hf
            obtain ⟨a8, ha8, hf⟩ := bd_some hf
            obtain ⟨c9, hf⟩ := gd_some hf
            obtain ⟨a10, ha10, hf⟩ := bd_some hf
            obtain ⟨c11, hf⟩ := gd_some hf
            obtain ⟨c12, hf⟩ := gd_some hf
            refine Ev.blk (pc' := 65) [(.aload_n 0, 0, 0, 0), (.getfield 37, 0, 9, 3), (.getfield 170, 0, 4, 15), (.iload_n 2, 0, 0, 0), (.iaload, 0, 0, 0), (.iload_n 3, 0, 0, 0)] (by decide +kernel) ⟨kf_9_37, ⟨kf_9_170, trivial⟩⟩ rfl (And.intro (kc rfl rfl) (Exists.intro a8 (And.intro ha8 (And.intro (kk_ok c9) (Exists.intro a10 (And.intro ha10 (And.intro (kk_ok c11) (And.intro (ib_ok c12) (?_)))))))))
            show Ev l d mi_X9_letter 65 [some (.ref 0), some (.int p0), some (.int p1), some (.int p2)] [.int p2, .int (s.1 a10 p1.toNatClampNeg)] (hp s) 0 0 _
            obtain ⟨q13, hq13, hf⟩ := bd_some hf
            refine Ev.callS (M' := mi_X9_letterOf) (d' := d - 1) (As := [.int (s.1 a10 p1.toNatClampNeg), .int p2]) (rest := []) (r' := (some (.int q13.1), hp q13.2)) (e_X9_letterOf (d := d - 1) (by omega) (s.1 a10 p1.toNatClampNeg) p2 s _ hq13) (by omega) wm_X9_letterOf wt_X9_letterOf km_9_173 rfl rfl rfl (Nat.le_of_ble_eq_true rfl) ⟨Nat.le_of_ble_eq_true rfl, Nat.le_of_ble_eq_true rfl⟩ (by decide +kernel) ?_
            show Ev l d mi_X9_letter 68 [some (.ref 0), some (.int p0), some (.int p1), some (.int p2)] [.int q13.1] (hp q13.2) 0 0 _
            refine Ev.goto (off := 4) (tgt := 72) (by decide +kernel) (by decide) ?_
            cases hf
            exact Ev.iret .int rfl rfl (by decide +kernel) (Nat.le_refl _) (Nat.le_refl _)
        · have hf := (if_neg b4).symm.trans hf
          by_cases b14 : p0 = 1
          · have hf := (if_pos b14).symm.trans hf
            refine Ev.tswitch (dflt := 119) (lo := 0) (hi := 2) (offs := #[27, 56, 87]) (len := 27) (tgt := 73) (by decide +kernel) (by rw [b14]; decide) (by decide) ?_
            obtain ⟨a15, ha15, hf⟩ := bd_some hf
            obtain ⟨c16, hf⟩ := gd_some hf
            refine Ev.blk (pc' := 81) [(.iload_n 2, 0, 0, 0), (.aload_n 0, 0, 0, 0), (.getfield 37, 0, 9, 3), (.getfield 138, 0, 4, 8)] (by decide +kernel) ⟨kf_9_37, ⟨kf_9_138, trivial⟩⟩ rfl (And.intro (kc rfl rfl) (Exists.intro a15 (And.intro ha15 (And.intro (kk_ok c16) (?_)))))
            show Ev l d mi_X9_letter 81 [some (.ref 0), some (.int p0), some (.int p1), some (.int p2)] [.int (s.1 a15 8), .int p1] (hp s) 0 0 _
            refine Ev.icmp_ge (off := 21) (tgt := 102) (by decide +kernel) (by decide) (fun b17 => ?_) (fun b17 => ?_)
            · have hf := (if_pos b17).symm.trans hf
              refine Ev.blk (pc' := 103) [(.iconst (-1), 0, 0, 0)] (by decide +kernel) trivial rfl (?_)
              show Ev l d mi_X9_letter 103 [some (.ref 0), some (.int p0), some (.int p1), some (.int p2)] [.int (Int32.ofInt (-1))] (hp s) 0 0 _
              cases hf
              exact Ev.iret .int rfl rfl (by decide +kernel) (Nat.le_refl _) (Nat.le_refl _)
            · have hf := (if_neg b17).symm.trans hf
              obtain ⟨a18, ha18, hf⟩ := bd_some hf
              obtain ⟨c19, hf⟩ := gd_some hf
              obtain ⟨a20, ha20, hf⟩ := bd_some hf
              obtain ⟨c21, hf⟩ := gd_some hf
              obtain ⟨c22, hf⟩ := gd_some hf
              refine Ev.blk (pc' := 96) [(.aload_n 0, 0, 0, 0), (.getfield 37, 0, 9, 3), (.getfield 170, 0, 4, 15), (.iconst 5, 0, 0, 0), (.iload_n 2, 0, 0, 0), (.iadd, 0, 0, 0), (.iaload, 0, 0, 0), (.iload_n 3, 0, 0, 0)] (by decide +kernel) ⟨kf_9_37, ⟨kf_9_170, trivial⟩⟩ rfl (And.intro (kc rfl rfl) (Exists.intro a18 (And.intro ha18 (And.intro (kk_ok c19) (Exists.intro a20 (And.intro ha20 (And.intro (kk_ok c21) (And.intro (ib_ok c22) (?_)))))))))
              show Ev l d mi_X9_letter 96 [some (.ref 0), some (.int p0), some (.int p1), some (.int p2)] [.int p2, .int (s.1 a20 ((Int32.ofInt 5) + p1).toNatClampNeg)] (hp s) 0 0 _
              obtain ⟨q23, hq23, hf⟩ := bd_some hf
              refine Ev.callS (M' := mi_X9_letterOf) (d' := d - 1) (As := [.int (s.1 a20 ((Int32.ofInt 5) + p1).toNatClampNeg), .int p2]) (rest := []) (r' := (some (.int q23.1), hp q23.2)) (e_X9_letterOf (d := d - 1) (by omega) (s.1 a20 ((Int32.ofInt 5) + p1).toNatClampNeg) p2 s _ hq23) (by omega) wm_X9_letterOf wt_X9_letterOf km_9_173 rfl rfl rfl (Nat.le_of_ble_eq_true rfl) ⟨Nat.le_of_ble_eq_true rfl, Nat.le_of_ble_eq_true rfl⟩ (by decide +kernel) ?_
              show Ev l d mi_X9_letter 99 [some (.ref 0), some (.int p0), some (.int p1), some (.int p2)] [.int q23.1] (hp q23.2) 0 0 _
              refine Ev.goto (off := 4) (tgt := 103) (by decide +kernel) (by decide) ?_
              cases hf
              exact Ev.iret .int rfl rfl (by decide +kernel) (Nat.le_refl _) (Nat.le_refl _)
          · have hf := (if_neg b14).symm.trans hf
            by_cases b24 : p0 = 2
            · have hf := (if_pos b24).symm.trans hf
              refine Ev.tswitch (dflt := 119) (lo := 0) (hi := 2) (offs := #[27, 56, 87]) (len := 27) (tgt := 104) (by decide +kernel) (by rw [b24]; decide) (by decide) ?_
              obtain ⟨a25, ha25, hf⟩ := bd_some hf
              obtain ⟨c26, hf⟩ := gd_some hf
              refine Ev.blk (pc' := 112) [(.iload_n 2, 0, 0, 0), (.aload_n 0, 0, 0, 0), (.getfield 37, 0, 9, 3), (.getfield 141, 0, 4, 12)] (by decide +kernel) ⟨kf_9_37, ⟨kf_9_141, trivial⟩⟩ rfl (And.intro (kc rfl rfl) (Exists.intro a25 (And.intro ha25 (And.intro (kk_ok c26) (?_)))))
              show Ev l d mi_X9_letter 112 [some (.ref 0), some (.int p0), some (.int p1), some (.int p2)] [.int (s.1 a25 12), .int p1] (hp s) 0 0 _
              refine Ev.icmp_ge (off := 22) (tgt := 134) (by decide +kernel) (by decide) (fun b27 => ?_) (fun b27 => ?_)
              · have hf := (if_pos b27).symm.trans hf
                refine Ev.blk (pc' := 135) [(.iconst (-1), 0, 0, 0)] (by decide +kernel) trivial rfl (?_)
                show Ev l d mi_X9_letter 135 [some (.ref 0), some (.int p0), some (.int p1), some (.int p2)] [.int (Int32.ofInt (-1))] (hp s) 0 0 _
                cases hf
                exact Ev.iret .int rfl rfl (by decide +kernel) (Nat.le_refl _) (Nat.le_refl _)
              · have hf := (if_neg b27).symm.trans hf
                obtain ⟨a28, ha28, hf⟩ := bd_some hf
                obtain ⟨c29, hf⟩ := gd_some hf
                obtain ⟨a30, ha30, hf⟩ := bd_some hf
                obtain ⟨c31, hf⟩ := gd_some hf
                obtain ⟨c32, hf⟩ := gd_some hf
                refine Ev.blk (pc' := 128) [(.aload_n 0, 0, 0, 0), (.getfield 37, 0, 9, 3), (.getfield 170, 0, 4, 15), (.bipush 13, 0, 0, 0), (.iload_n 2, 0, 0, 0), (.iadd, 0, 0, 0), (.iaload, 0, 0, 0), (.iload_n 3, 0, 0, 0)] (by decide +kernel) ⟨kf_9_37, ⟨kf_9_170, trivial⟩⟩ rfl (And.intro (kc rfl rfl) (Exists.intro a28 (And.intro ha28 (And.intro (kk_ok c29) (Exists.intro a30 (And.intro ha30 (And.intro (kk_ok c31) (And.intro (ib_ok c32) (?_)))))))))
                show Ev l d mi_X9_letter 128 [some (.ref 0), some (.int p0), some (.int p1), some (.int p2)] [.int p2, .int (s.1 a30 (((Int8.ofInt 13).toInt32) + p1).toNatClampNeg)] (hp s) 0 0 _
                obtain ⟨q33, hq33, hf⟩ := bd_some hf
                refine Ev.callS (M' := mi_X9_letterOf) (d' := d - 1) (As := [.int (s.1 a30 (((Int8.ofInt 13).toInt32) + p1).toNatClampNeg), .int p2]) (rest := []) (r' := (some (.int q33.1), hp q33.2)) (e_X9_letterOf (d := d - 1) (by omega) (s.1 a30 (((Int8.ofInt 13).toInt32) + p1).toNatClampNeg) p2 s _ hq33) (by omega) wm_X9_letterOf wt_X9_letterOf km_9_173 rfl rfl rfl (Nat.le_of_ble_eq_true rfl) ⟨Nat.le_of_ble_eq_true rfl, Nat.le_of_ble_eq_true rfl⟩ (by decide +kernel) ?_
                show Ev l d mi_X9_letter 131 [some (.ref 0), some (.int p0), some (.int p1), some (.int p2)] [.int q33.1] (hp q33.2) 0 0 _
                refine Ev.goto (off := 4) (tgt := 135) (by decide +kernel) (by decide) ?_
                cases hf
                exact Ev.iret .int rfl rfl (by decide +kernel) (Nat.le_refl _) (Nat.le_refl _)
            · have hf := (if_neg b24).symm.trans hf
              refine Ev.tswitch (dflt := 119) (lo := 0) (hi := 2) (offs := #[27, 56, 87]) (len := 27) (tgt := 136) (by decide +kernel) (by have e0 := sw_ne b4 (c := (0)) (by decide); have e1 := sw_ne b14 (c := (1)) (by decide); have e2 := sw_ne b24 (c := (2)) (by decide); rw [if_pos (by omega)]; decide) (by decide) ?_
              refine Ev.blk (pc' := 137) [(.iconst (-1), 0, 0, 0)] (by decide +kernel) trivial rfl (?_)
              show Ev l d mi_X9_letter 137 [some (.ref 0), some (.int p0), some (.int p1), some (.int p2)] [.int (Int32.ofInt (-1))] (hp s) 0 0 _
              cases hf
              exact Ev.iret .int rfl rfl (by decide +kernel) (Nat.le_refl _) (Nat.le_refl _)
      · have hf := (if_neg b3).symm.trans hf
        refine Ev.blk (pc' := 15) [(.iconst (-1), 0, 0, 0)] (by decide +kernel) trivial rfl (?_)
        show Ev l d mi_X9_letter 15 [some (.ref 0), some (.int p0), some (.int p1), some (.int p2)] [.int (Int32.ofInt (-1))] (hp s) 0 0 _
        cases hf
        exact Ev.iret .int rfl rfl (by decide +kernel) (Nat.le_refl _) (Nat.le_refl _)
def f_X9_kind (p0 : Int32) (p1 : Int32) (s : ST) : Option (Int32 × ST) := (if p0 < 0 then some ((Int32.ofInt (-1)), s) else (RR s.2.2 0 3).bind (fun a2 => gd (kk a2 4) ((if p0 < (s.1 a2 3) then (if p1 = 0 then (RR s.2.2 0 3).bind (fun a6 => gd (kk a6 4) ((RR s.2.2 a6 4).bind (fun a8 => gd (kk a8 13) (gd (ib p0 (K0 a8).2) (some ((s.1 a8 p0.toNatClampNeg), s)))))) else (if p1 = 1 then (RR s.2.2 0 3).bind (fun a12 => gd (kk a12 4) ((RR s.2.2 a12 5).bind (fun a14 => gd (kk a14 13) (gd (ib p0 (K0 a14).2) (some ((s.1 a14 p0.toNatClampNeg), s)))))) else (if p1 = 2 then (RR s.2.2 0 3).bind (fun a18 => gd (kk a18 4) ((RR s.2.2 a18 6).bind (fun a20 => gd (kk a20 13) (gd (ib p0 (K0 a20).2) (some ((s.1 a20 p0.toNatClampNeg), s)))))) else (if p1 = 3 then (RR s.2.2 0 3).bind (fun a24 => gd (kk a24 4) ((RR s.2.2 a24 7).bind (fun a26 => gd (kk a26 13) (gd (ib p0 (K0 a26).2) (some ((s.1 a26 p0.toNatClampNeg), s)))))) else (some ((Int32.ofInt (-1)), s)))))) else some ((Int32.ofInt (-1)), s)))))
set_option maxHeartbeats 2000000 in
set_option maxRecDepth 20000 in
theorem e_X9_kind {l : Launch} {d : Nat} (hd : 1 ≤ d) (p0 : Int32) (p1 : Int32) (s : ST) (r : Int32 × ST) (hf : f_X9_kind p0 p1 s = some r) : Cl l d mi_X9_kind [.ref 0, .int p0, .int p1] (hp s) (some (.int r.1), hp r.2) := by
  refine Ev.entry (by decide +kernel) rfl rfl ?_
  show Ev l d mi_X9_kind 0 [some (.ref 0), some (.int p0), some (.int p1)] [] (hp s) 0 0 _
  unfold f_X9_kind at hf
  refine Ev.blk (pc' := 1) [(.iload_n 1, 0, 0, 0)] (by decide +kernel) trivial rfl (?_)
  show Ev l d mi_X9_kind 1 [some (.ref 0), some (.int p0), some (.int p1)] [.int p0] (hp s) 0 0 _
  refine Ev.if_lt (off := 14) (tgt := 15) (by decide +kernel) (by decide) (fun b1 => ?_) (fun b1 => ?_)
  · have hf := (if_pos b1).symm.trans hf
    refine Ev.blk (pc' := 16) [(.iconst (-1), 0, 0, 0)] (by decide +kernel) trivial rfl (?_)
    show Ev l d mi_X9_kind 16 [some (.ref 0), some (.int p0), some (.int p1)] [.int (Int32.ofInt (-1))] (hp s) 0 0 _
    cases hf
    exact Ev.iret .int rfl rfl (by decide +kernel) (Nat.le_refl _) (Nat.le_refl _)
  · have hf := (if_neg b1).symm.trans hf
    obtain ⟨a2, ha2, hf⟩ := bd_some hf
    obtain ⟨c3, hf⟩ := gd_some hf
    refine Ev.blk (pc' := 12) [(.iload_n 1, 0, 0, 0), (.aload_n 0, 0, 0, 0), (.getfield 37, 0, 9, 3), (.getfield 135, 0, 4, 3)] (by decide +kernel) ⟨kf_9_37, ⟨kf_9_135, trivial⟩⟩ rfl (And.intro (kc rfl rfl) (Exists.intro a2 (And.intro ha2 (And.intro (kk_ok c3) (?_)))))
    show Ev l d mi_X9_kind 12 [some (.ref 0), some (.int p0), some (.int p1)] [.int (s.1 a2 3), .int p0] (hp s) 0 0 _
    refine Ev.icmp_lt (off := 5) (tgt := 17) (by decide +kernel) (by decide) (fun b4 => ?_) (fun b4 => ?_)
    · have hf := (if_pos b4).symm.trans hf
      refine Ev.blk (pc' := 18) [(.iload_n 2, 0, 0, 0)] (by decide +kernel) trivial rfl (?_)
      show Ev l d mi_X9_kind 18 [some (.ref 0), some (.int p0), some (.int p1)] [.int p1] (hp s) 0 0 _
      by_cases b5 : p1 = 0
      · have hf := (if_pos b5).symm.trans hf
        refine Ev.tswitch (dflt := 70) (lo := 0) (hi := 3) (offs := #[30, 40, 50, 60]) (len := 30) (tgt := 48) (by decide +kernel) (by rw [b5]; decide) (by decide) ?_
        obtain ⟨a6, ha6, hf⟩ := bd_some hf
        obtain ⟨c7, hf⟩ := gd_some hf
        obtain ⟨a8, ha8, hf⟩ := bd_some hf
        obtain ⟨c9, hf⟩ := gd_some hf
        obtain ⟨c10, hf⟩ := gd_some hf
        refine Ev.blk (pc' := 57) [(.aload_n 0, 0, 0, 0), (.getfield 37, 0, 9, 3), (.getfield 177, 0, 4, 4), (.iload_n 1, 0, 0, 0), (.iaload, 0, 0, 0)] (by decide +kernel) ⟨kf_9_37, ⟨kf_9_177, trivial⟩⟩ rfl (And.intro (kc rfl rfl) (Exists.intro a6 (And.intro ha6 (And.intro (kk_ok c7) (Exists.intro a8 (And.intro ha8 (And.intro (kk_ok c9) (And.intro (ib_ok c10) (?_)))))))))
        show Ev l d mi_X9_kind 57 [some (.ref 0), some (.int p0), some (.int p1)] [.int (s.1 a8 p0.toNatClampNeg)] (hp s) 0 0 _
        cases hf
        exact Ev.iret .int rfl rfl (by decide +kernel) (Nat.le_refl _) (Nat.le_refl _)
      · have hf := (if_neg b5).symm.trans hf
        by_cases b11 : p1 = 1
        · have hf := (if_pos b11).symm.trans hf
          refine Ev.tswitch (dflt := 70) (lo := 0) (hi := 3) (offs := #[30, 40, 50, 60]) (len := 30) (tgt := 58) (by decide +kernel) (by rw [b11]; decide) (by decide) ?_
          obtain ⟨a12, ha12, hf⟩ := bd_some hf
          obtain ⟨c13, hf⟩ := gd_some hf
          obtain ⟨a14, ha14, hf⟩ := bd_some hf
          obtain ⟨c15, hf⟩ := gd_some hf
          obtain ⟨c16, hf⟩ := gd_some hf
          refine Ev.blk (pc' := 67) [(.aload_n 0, 0, 0, 0), (.getfield 37, 0, 9, 3), (.getfield 180, 0, 4, 5), (.iload_n 1, 0, 0, 0), (.iaload, 0, 0, 0)] (by decide +kernel) ⟨kf_9_37, ⟨kf_9_180, trivial⟩⟩ rfl (And.intro (kc rfl rfl) (Exists.intro a12 (And.intro ha12 (And.intro (kk_ok c13) (Exists.intro a14 (And.intro ha14 (And.intro (kk_ok c15) (And.intro (ib_ok c16) (?_)))))))))
          show Ev l d mi_X9_kind 67 [some (.ref 0), some (.int p0), some (.int p1)] [.int (s.1 a14 p0.toNatClampNeg)] (hp s) 0 0 _
          cases hf
          exact Ev.iret .int rfl rfl (by decide +kernel) (Nat.le_refl _) (Nat.le_refl _)
        · have hf := (if_neg b11).symm.trans hf
          by_cases b17 : p1 = 2
          · have hf := (if_pos b17).symm.trans hf
            refine Ev.tswitch (dflt := 70) (lo := 0) (hi := 3) (offs := #[30, 40, 50, 60]) (len := 30) (tgt := 68) (by decide +kernel) (by rw [b17]; decide) (by decide) ?_
            obtain ⟨a18, ha18, hf⟩ := bd_some hf
            obtain ⟨c19, hf⟩ := gd_some hf
            obtain ⟨a20, ha20, hf⟩ := bd_some hf
            obtain ⟨c21, hf⟩ := gd_some hf
            obtain ⟨c22, hf⟩ := gd_some hf
            refine Ev.blk (pc' := 77) [(.aload_n 0, 0, 0, 0), (.getfield 37, 0, 9, 3), (.getfield 183, 0, 4, 6), (.iload_n 1, 0, 0, 0), (.iaload, 0, 0, 0)] (by decide +kernel) ⟨kf_9_37, ⟨kf_9_183, trivial⟩⟩ rfl (And.intro (kc rfl rfl) (Exists.intro a18 (And.intro ha18 (And.intro (kk_ok c19) (Exists.intro a20 (And.intro ha20 (And.intro (kk_ok c21) (And.intro (ib_ok c22) (?_)))))))))
            show Ev l d mi_X9_kind 77 [some (.ref 0), some (.int p0), some (.int p1)] [.int (s.1 a20 p0.toNatClampNeg)] (hp s) 0 0 _
            cases hf
            exact Ev.iret .int rfl rfl (by decide +kernel) (Nat.le_refl _) (Nat.le_refl _)
          · have hf := (if_neg b17).symm.trans hf
            by_cases b23 : p1 = 3
            · have hf := (if_pos b23).symm.trans hf
              refine Ev.tswitch (dflt := 70) (lo := 0) (hi := 3) (offs := #[30, 40, 50, 60]) (len := 30) (tgt := 78) (by decide +kernel) (by rw [b23]; decide) (by decide) ?_
              obtain ⟨a24, ha24, hf⟩ := bd_some hf
              obtain ⟨c25, hf⟩ := gd_some hf
              obtain ⟨a26, ha26, hf⟩ := bd_some hf
              obtain ⟨c27, hf⟩ := gd_some hf
              obtain ⟨c28, hf⟩ := gd_some hf
              refine Ev.blk (pc' := 87) [(.aload_n 0, 0, 0, 0), (.getfield 37, 0, 9, 3), (.getfield 186, 0, 4, 7), (.iload_n 1, 0, 0, 0), (.iaload, 0, 0, 0)] (by decide +kernel) ⟨kf_9_37, ⟨kf_9_186, trivial⟩⟩ rfl (And.intro (kc rfl rfl) (Exists.intro a24 (And.intro ha24 (And.intro (kk_ok c25) (Exists.intro a26 (And.intro ha26 (And.intro (kk_ok c27) (And.intro (ib_ok c28) (?_)))))))))
              show Ev l d mi_X9_kind 87 [some (.ref 0), some (.int p0), some (.int p1)] [.int (s.1 a26 p0.toNatClampNeg)] (hp s) 0 0 _
              cases hf
              exact Ev.iret .int rfl rfl (by decide +kernel) (Nat.le_refl _) (Nat.le_refl _)
            · have hf := (if_neg b23).symm.trans hf
              refine Ev.tswitch (dflt := 70) (lo := 0) (hi := 3) (offs := #[30, 40, 50, 60]) (len := 30) (tgt := 88) (by decide +kernel) (by have e0 := sw_ne b5 (c := (0)) (by decide); have e1 := sw_ne b11 (c := (1)) (by decide); have e2 := sw_ne b17 (c := (2)) (by decide); have e3 := sw_ne b23 (c := (3)) (by decide); rw [if_pos (by omega)]; decide) (by decide) ?_
              refine Ev.blk (pc' := 89) [(.iconst (-1), 0, 0, 0)] (by decide +kernel) trivial rfl (?_)
              show Ev l d mi_X9_kind 89 [some (.ref 0), some (.int p0), some (.int p1)] [.int (Int32.ofInt (-1))] (hp s) 0 0 _
              cases hf
              exact Ev.iret .int rfl rfl (by decide +kernel) (Nat.le_refl _) (Nat.le_refl _)
    · have hf := (if_neg b4).symm.trans hf
      refine Ev.blk (pc' := 16) [(.iconst (-1), 0, 0, 0)] (by decide +kernel) trivial rfl (?_)
      show Ev l d mi_X9_kind 16 [some (.ref 0), some (.int p0), some (.int p1)] [.int (Int32.ofInt (-1))] (hp s) 0 0 _
      cases hf
      exact Ev.iret .int rfl rfl (by decide +kernel) (Nat.le_refl _) (Nat.le_refl _)
def f_X9_man (p0 : Int32) (p1 : Int32) (s : ST) : Option (Int32 × ST) := (if p0 < 0 then some ((Int32.ofInt (-1)), s) else (RR s.2.2 0 3).bind (fun a2 => gd (kk a2 4) ((if p0 < (s.1 a2 8) then gd (ib p0 8) ((if p1 = 0 then (if 0 ≤ (s.1 38 p0.toNatClampNeg) then lt ((s.1 38 p0.toNatClampNeg) - (s.1 38 p0.toNatClampNeg) / (Int32.ofInt 5) * (Int32.ofInt 5)) (fun v8 => some (v8, s)) else some ((Int32.ofInt (-1)), s)) else (if p1 = 1 then (if 0 ≤ (s.1 38 p0.toNatClampNeg) then some (((s.1 38 p0.toNatClampNeg) / (Int32.ofInt 5)), s) else some ((Int32.ofInt (-1)), s)) else (if p1 = 2 then (RR s.2.2 0 3).bind (fun a12 => gd (kk a12 4) ((RR s.2.2 a12 9).bind (fun a14 => gd (kk a14 13) (gd (ib p0 (K0 a14).2) (some ((s.1 a14 p0.toNatClampNeg), s)))))) else (if p1 = 3 then (RR s.2.2 0 3).bind (fun a18 => gd (kk a18 4) ((RR s.2.2 a18 10).bind (fun a20 => gd (kk a20 13) (gd (ib p0 (K0 a20).2) (some ((s.1 a20 p0.toNatClampNeg), s)))))) else (if p1 = 4 then (f_X3_goals 36 p0 s).bind (fun q24 => (f_J6_bitCount_0f7a4 q24.1 q24.2).bind (fun q25 => some (q25.1, q25.2))) else (some ((Int32.ofInt (-1)), s)))))))) else some ((Int32.ofInt (-1)), s)))))
set_option maxHeartbeats 2000000 in
set_option maxRecDepth 20000 in
theorem e_X9_man {l : Launch} {d : Nat} (hd : 3 ≤ d) (p0 : Int32) (p1 : Int32) (s : ST) (r : Int32 × ST) (hf : f_X9_man p0 p1 s = some r) : Cl l d mi_X9_man [.ref 0, .int p0, .int p1] (hp s) (some (.int r.1), hp r.2) := by
  refine Ev.entry (by decide +kernel) rfl rfl ?_
  show Ev l d mi_X9_man 0 [some (.ref 0), some (.int p0), some (.int p1), none] [] (hp s) 0 0 _
  unfold f_X9_man at hf
  refine Ev.blk (pc' := 1) [(.iload_n 1, 0, 0, 0)] (by decide +kernel) trivial rfl (?_)
  show Ev l d mi_X9_man 1 [some (.ref 0), some (.int p0), some (.int p1), none] [.int p0] (hp s) 0 0 _
  refine Ev.if_lt (off := 14) (tgt := 15) (by decide +kernel) (by decide) (fun b1 => ?_) (fun b1 => ?_)
  · have hf := (if_pos b1).symm.trans hf
    refine Ev.blk (pc' := 16) [(.iconst (-1), 0, 0, 0)] (by decide +kernel) trivial rfl (?_)
    show Ev l d mi_X9_man 16 [some (.ref 0), some (.int p0), some (.int p1), none] [.int (Int32.ofInt (-1))] (hp s) 0 0 _
    cases hf
    exact Ev.iret .int rfl rfl (by decide +kernel) (Nat.le_refl _) (Nat.le_refl _)
  · have hf := (if_neg b1).symm.trans hf
    obtain ⟨a2, ha2, hf⟩ := bd_some hf
    obtain ⟨c3, hf⟩ := gd_some hf
    refine Ev.blk (pc' := 12) [(.iload_n 1, 0, 0, 0), (.aload_n 0, 0, 0, 0), (.getfield 37, 0, 9, 3), (.getfield 138, 0, 4, 8)] (by decide +kernel) ⟨kf_9_37, ⟨kf_9_138, trivial⟩⟩ rfl (And.intro (kc rfl rfl) (Exists.intro a2 (And.intro ha2 (And.intro (kk_ok c3) (?_)))))
    show Ev l d mi_X9_man 12 [some (.ref 0), some (.int p0), some (.int p1), none] [.int (s.1 a2 8), .int p0] (hp s) 0 0 _
    refine Ev.icmp_lt (off := 5) (tgt := 17) (by decide +kernel) (by decide) (fun b4 => ?_) (fun b4 => ?_)
    · have hf := (if_pos b4).symm.trans hf
      obtain ⟨c5, hf⟩ := gd_some hf
      refine Ev.blk (pc' := 28) [(.aload_n 0, 0, 0, 0), (.getfield 56, 0, 9, 6), (.getfield 189, 0, 3, 4), (.iload_n 1, 0, 0, 0), (.iaload, 0, 0, 0), (.istore_n 3, 0, 0, 0), (.iload_n 2, 0, 0, 0)] (by decide +kernel) ⟨kf_9_56, ⟨kf_9_189, trivial⟩⟩ rfl (And.intro (kc rfl rfl) (Exists.intro 36 (And.intro rfl (And.intro (kc rfl rfl) (Exists.intro 38 (And.intro rfl (And.intro (kc rfl rfl) (And.intro (ib_ok c5) (And.intro (Nat.le_of_ble_eq_true rfl) (?_))))))))))
      show Ev l d mi_X9_man 28 [some (.ref 0), some (.int p0), some (.int p1), some (.int (s.1 38 p0.toNatClampNeg))] [.int p1] (hp s) 0 0 _
      by_cases b6 : p1 = 0
      · have hf := (if_pos b6).symm.trans hf
        refine Ev.tswitch (dflt := 92) (lo := 0) (hi := 4) (offs := #[36, 48, 60, 70, 80]) (len := 36) (tgt := 64) (by decide +kernel) (by rw [b6]; decide) (by decide) ?_
        refine Ev.blk (pc' := 65) [(.iload_n 3, 0, 0, 0)] (by decide +kernel) trivial rfl (?_)
        show Ev l d mi_X9_man 65 [some (.ref 0), some (.int p0), some (.int p1), some (.int (s.1 38 p0.toNatClampNeg))] [.int (s.1 38 p0.toNatClampNeg)] (hp s) 0 0 _
        refine Ev.if_ge (off := 7) (tgt := 72) (by decide +kernel) (by decide) (fun b7 => ?_) (fun b7 => ?_)
        · have hf := (if_pos b7).symm.trans hf
          obtain ⟨v8, hv8, hf⟩ := lt_some hf
          refine Ev.blk (pc' := 75) [(.iload_n 3, 0, 0, 0), (.iconst 5, 0, 0, 0), (.irem, 0, 0, 0)] (by decide +kernel) trivial rfl (And.intro (by decide) (?_))
          show Ev l d mi_X9_man 75 [some (.ref 0), some (.int p0), some (.int p1), some (.int (s.1 38 p0.toNatClampNeg))] [.int ((s.1 38 p0.toNatClampNeg) - (s.1 38 p0.toNatClampNeg) / (Int32.ofInt 5) * (Int32.ofInt 5))] (hp s) 0 0 _
          rw [← hv8]
          cases hf
          exact Ev.iret .int rfl rfl (by decide +kernel) (Nat.le_refl _) (Nat.le_refl _)
        · have hf := (if_neg b7).symm.trans hf
          refine Ev.blk (pc' := 69) [(.iconst (-1), 0, 0, 0)] (by decide +kernel) trivial rfl (?_)
          show Ev l d mi_X9_man 69 [some (.ref 0), some (.int p0), some (.int p1), some (.int (s.1 38 p0.toNatClampNeg))] [.int (Int32.ofInt (-1))] (hp s) 0 0 _
          refine Ev.goto (off := 6) (tgt := 75) (by decide +kernel) (by decide) ?_
          cases hf
          exact Ev.iret .int rfl rfl (by decide +kernel) (Nat.le_refl _) (Nat.le_refl _)
      · have hf := (if_neg b6).symm.trans hf
        by_cases b9 : p1 = 1
        · have hf := (if_pos b9).symm.trans hf
          refine Ev.tswitch (dflt := 92) (lo := 0) (hi := 4) (offs := #[36, 48, 60, 70, 80]) (len := 36) (tgt := 76) (by decide +kernel) (by rw [b9]; decide) (by decide) ?_
          refine Ev.blk (pc' := 77) [(.iload_n 3, 0, 0, 0)] (by decide +kernel) trivial rfl (?_)
          show Ev l d mi_X9_man 77 [some (.ref 0), some (.int p0), some (.int p1), some (.int (s.1 38 p0.toNatClampNeg))] [.int (s.1 38 p0.toNatClampNeg)] (hp s) 0 0 _
          refine Ev.if_ge (off := 7) (tgt := 84) (by decide +kernel) (by decide) (fun b10 => ?_) (fun b10 => ?_)
          · have hf := (if_pos b10).symm.trans hf
            refine Ev.blk (pc' := 87) [(.iload_n 3, 0, 0, 0), (.iconst 5, 0, 0, 0), (.idiv, 0, 0, 0)] (by decide +kernel) trivial rfl (And.intro (by decide) (?_))
            show Ev l d mi_X9_man 87 [some (.ref 0), some (.int p0), some (.int p1), some (.int (s.1 38 p0.toNatClampNeg))] [.int ((s.1 38 p0.toNatClampNeg) / (Int32.ofInt 5))] (hp s) 0 0 _
            cases hf
            exact Ev.iret .int rfl rfl (by decide +kernel) (Nat.le_refl _) (Nat.le_refl _)
          · have hf := (if_neg b10).symm.trans hf
            refine Ev.blk (pc' := 81) [(.iconst (-1), 0, 0, 0)] (by decide +kernel) trivial rfl (?_)
            show Ev l d mi_X9_man 81 [some (.ref 0), some (.int p0), some (.int p1), some (.int (s.1 38 p0.toNatClampNeg))] [.int (Int32.ofInt (-1))] (hp s) 0 0 _
            refine Ev.goto (off := 6) (tgt := 87) (by decide +kernel) (by decide) ?_
            cases hf
            exact Ev.iret .int rfl rfl (by decide +kernel) (Nat.le_refl _) (Nat.le_refl _)
        · have hf := (if_neg b9).symm.trans hf
          by_cases b11 : p1 = 2
          · have hf := (if_pos b11).symm.trans hf
            refine Ev.tswitch (dflt := 92) (lo := 0) (hi := 4) (offs := #[36, 48, 60, 70, 80]) (len := 36) (tgt := 88) (by decide +kernel) (by rw [b11]; decide) (by decide) ?_
            obtain ⟨a12, ha12, hf⟩ := bd_some hf
            obtain ⟨c13, hf⟩ := gd_some hf
            obtain ⟨a14, ha14, hf⟩ := bd_some hf
            obtain ⟨c15, hf⟩ := gd_some hf
            obtain ⟨c16, hf⟩ := gd_some hf
            refine Ev.blk (pc' := 97) [(.aload_n 0, 0, 0, 0), (.getfield 37, 0, 9, 3), (.getfield 192, 0, 4, 9), (.iload_n 1, 0, 0, 0), (.iaload, 0, 0, 0)] (by decide +kernel) ⟨kf_9_37, ⟨kf_9_192, trivial⟩⟩ rfl (And.intro (kc rfl rfl) (Exists.intro a12 (And.intro ha12 (And.intro (kk_ok c13) (Exists.intro a14 (And.intro ha14 (And.intro (kk_ok c15) (And.intro (ib_ok c16) (?_)))))))))
            show Ev l d mi_X9_man 97 [some (.ref 0), some (.int p0), some (.int p1), some (.int (s.1 38 p0.toNatClampNeg))] [.int (s.1 a14 p0.toNatClampNeg)] (hp s) 0 0 _
            cases hf
            exact Ev.iret .int rfl rfl (by decide +kernel) (Nat.le_refl _) (Nat.le_refl _)
          · have hf := (if_neg b11).symm.trans hf
            by_cases b17 : p1 = 3
            · have hf := (if_pos b17).symm.trans hf
              refine Ev.tswitch (dflt := 92) (lo := 0) (hi := 4) (offs := #[36, 48, 60, 70, 80]) (len := 36) (tgt := 98) (by decide +kernel) (by rw [b17]; decide) (by decide) ?_
              obtain ⟨a18, ha18, hf⟩ := bd_some hf
              obtain ⟨c19, hf⟩ := gd_some hf
              obtain ⟨a20, ha20, hf⟩ := bd_some hf
              obtain ⟨c21, hf⟩ := gd_some hf
              obtain ⟨c22, hf⟩ := gd_some hf
              refine Ev.blk (pc' := 107) [(.aload_n 0, 0, 0, 0), (.getfield 37, 0, 9, 3), (.getfield 195, 0, 4, 10), (.iload_n 1, 0, 0, 0), (.iaload, 0, 0, 0)] (by decide +kernel) ⟨kf_9_37, ⟨kf_9_195, trivial⟩⟩ rfl (And.intro (kc rfl rfl) (Exists.intro a18 (And.intro ha18 (And.intro (kk_ok c19) (Exists.intro a20 (And.intro ha20 (And.intro (kk_ok c21) (And.intro (ib_ok c22) (?_)))))))))
              show Ev l d mi_X9_man 107 [some (.ref 0), some (.int p0), some (.int p1), some (.int (s.1 38 p0.toNatClampNeg))] [.int (s.1 a20 p0.toNatClampNeg)] (hp s) 0 0 _
              cases hf
              exact Ev.iret .int rfl rfl (by decide +kernel) (Nat.le_refl _) (Nat.le_refl _)
            · have hf := (if_neg b17).symm.trans hf
              by_cases b23 : p1 = 4
              · have hf := (if_pos b23).symm.trans hf
                refine Ev.tswitch (dflt := 92) (lo := 0) (hi := 4) (offs := #[36, 48, 60, 70, 80]) (len := 36) (tgt := 108) (by decide +kernel) (by rw [b23]; decide) (by decide) ?_
                refine Ev.blk (pc' := 113) [(.aload_n 0, 0, 0, 0), (.getfield 56, 0, 9, 6), (.iload_n 1, 0, 0, 0)] (by decide +kernel) ⟨kf_9_56, trivial⟩ rfl (And.intro (kc rfl rfl) (Exists.intro 36 (And.intro rfl (?_))))
                show Ev l d mi_X9_man 113 [some (.ref 0), some (.int p0), some (.int p1), some (.int (s.1 38 p0.toNatClampNeg))] [.int p0, .ref 36] (hp s) 0 0 _
                obtain ⟨q24, hq24, hf⟩ := bd_some hf
                refine Ev.callV (o := 36) (M' := mi_X3_goals) (d' := d - 1) (As := [.int p0]) (rest := []) (r' := (some (.int q24.1), hp q24.2)) (e_X3_goals (d := d - 1) (by omega) 36 p0 s _ hq24) (by omega) wm_X3_goals wi_X3_goals wv_X3_goals km_9_198 (kc rfl rfl) (Nat.le_of_ble_eq_true rfl) rfl rfl rfl (Nat.le_of_ble_eq_true rfl) ⟨Nat.le_of_ble_eq_true rfl, Nat.le_of_ble_eq_true rfl⟩ (by decide +kernel) ?_
                show Ev l d mi_X9_man 116 [some (.ref 0), some (.int p0), some (.int p1), some (.int (s.1 38 p0.toNatClampNeg))] [.int q24.1] (hp q24.2) 0 0 _
                obtain ⟨q25, hq25, hf⟩ := bd_some hf
                refine Ev.callS (M' := mi_J6_bitCount_0f7a4) (d' := d - 1) (As := [.int q24.1]) (rest := []) (r' := (some (.int q25.1), hp q25.2)) (e_J6_bitCount_0f7a4 (d := d - 1) (by omega) q24.1 q24.2 _ hq25) (by omega) wm_J6_bitCount_0f7a4 wt_J6_bitCount_0f7a4 km_9_201 rfl rfl rfl (Nat.le_of_ble_eq_true rfl) ⟨Nat.le_of_ble_eq_true rfl, Nat.le_of_ble_eq_true rfl⟩ (by decide +kernel) ?_
                show Ev l d mi_X9_man 119 [some (.ref 0), some (.int p0), some (.int p1), some (.int (s.1 38 p0.toNatClampNeg))] [.int q25.1] (hp q25.2) 0 0 _
                cases hf
                exact Ev.iret .int rfl rfl (by decide +kernel) (Nat.le_refl _) (Nat.le_refl _)
              · have hf := (if_neg b23).symm.trans hf
                refine Ev.tswitch (dflt := 92) (lo := 0) (hi := 4) (offs := #[36, 48, 60, 70, 80]) (len := 36) (tgt := 120) (by decide +kernel) (by have e0 := sw_ne b6 (c := (0)) (by decide); have e1 := sw_ne b9 (c := (1)) (by decide); have e2 := sw_ne b11 (c := (2)) (by decide); have e3 := sw_ne b17 (c := (3)) (by decide); have e4 := sw_ne b23 (c := (4)) (by decide); rw [if_pos (by omega)]; decide) (by decide) ?_
                refine Ev.blk (pc' := 121) [(.iconst (-1), 0, 0, 0)] (by decide +kernel) trivial rfl (?_)
                show Ev l d mi_X9_man 121 [some (.ref 0), some (.int p0), some (.int p1), some (.int (s.1 38 p0.toNatClampNeg))] [.int (Int32.ofInt (-1))] (hp s) 0 0 _
                cases hf
                exact Ev.iret .int rfl rfl (by decide +kernel) (Nat.le_refl _) (Nat.le_refl _)
    · have hf := (if_neg b4).symm.trans hf
      refine Ev.blk (pc' := 16) [(.iconst (-1), 0, 0, 0)] (by decide +kernel) trivial rfl (?_)
      show Ev l d mi_X9_man 16 [some (.ref 0), some (.int p0), some (.int p1), none] [.int (Int32.ofInt (-1))] (hp s) 0 0 _
      cases hf
      exact Ev.iret .int rfl rfl (by decide +kernel) (Nat.le_refl _) (Nat.le_refl _)
def f_X9_isField (p0 : Int32) (s : ST) : Option (Int32 × ST) := (if p0 < 0 then some ((Int32.ofInt 0), s) else (RR s.2.2 0 3).bind (fun a2 => gd (kk a2 4) ((if (s.1 a2 12) ≤ p0 then some ((Int32.ofInt 0), s) else some ((Int32.ofInt 1), s)))))
set_option maxHeartbeats 2000000 in
set_option maxRecDepth 20000 in
theorem e_X9_isField {l : Launch} {d : Nat} (hd : 1 ≤ d) (p0 : Int32) (s : ST) (r : Int32 × ST) (hf : f_X9_isField p0 s = some r) : Cl l d mi_X9_isField [.ref 0, .int p0] (hp s) (some (.int r.1), hp r.2) := by
  refine Ev.entry (by decide +kernel) rfl rfl ?_
  show Ev l d mi_X9_isField 0 [some (.ref 0), some (.int p0)] [] (hp s) 0 0 _
  unfold f_X9_isField at hf
  refine Ev.blk (pc' := 1) [(.iload_n 1, 0, 0, 0)] (by decide +kernel) trivial rfl (?_)
  show Ev l d mi_X9_isField 1 [some (.ref 0), some (.int p0)] [.int p0] (hp s) 0 0 _
  refine Ev.if_lt (off := 18) (tgt := 19) (by decide +kernel) (by decide) (fun b1 => ?_) (fun b1 => ?_)
  · have hf := (if_pos b1).symm.trans hf
    refine Ev.blk (pc' := 20) [(.iconst 0, 0, 0, 0)] (by decide +kernel) trivial rfl (?_)
    show Ev l d mi_X9_isField 20 [some (.ref 0), some (.int p0)] [.int (Int32.ofInt 0)] (hp s) 0 0 _
    cases hf
    exact Ev.iret .boolean rfl rfl (by decide +kernel) (Nat.le_refl _) (Nat.le_refl _)
  · have hf := (if_neg b1).symm.trans hf
    obtain ⟨a2, ha2, hf⟩ := bd_some hf
    obtain ⟨c3, hf⟩ := gd_some hf
    refine Ev.blk (pc' := 12) [(.iload_n 1, 0, 0, 0), (.aload_n 0, 0, 0, 0), (.getfield 37, 0, 9, 3), (.getfield 141, 0, 4, 12)] (by decide +kernel) ⟨kf_9_37, ⟨kf_9_141, trivial⟩⟩ rfl (And.intro (kc rfl rfl) (Exists.intro a2 (And.intro ha2 (And.intro (kk_ok c3) (?_)))))
    show Ev l d mi_X9_isField 12 [some (.ref 0), some (.int p0)] [.int (s.1 a2 12), .int p0] (hp s) 0 0 _
    refine Ev.icmp_ge (off := 7) (tgt := 19) (by decide +kernel) (by decide) (fun b4 => ?_) (fun b4 => ?_)
    · have hf := (if_pos b4).symm.trans hf
      refine Ev.blk (pc' := 20) [(.iconst 0, 0, 0, 0)] (by decide +kernel) trivial rfl (?_)
      show Ev l d mi_X9_isField 20 [some (.ref 0), some (.int p0)] [.int (Int32.ofInt 0)] (hp s) 0 0 _
      cases hf
      exact Ev.iret .boolean rfl rfl (by decide +kernel) (Nat.le_refl _) (Nat.le_refl _)
    · have hf := (if_neg b4).symm.trans hf
      refine Ev.blk (pc' := 16) [(.iconst 1, 0, 0, 0)] (by decide +kernel) trivial rfl (?_)
      show Ev l d mi_X9_isField 16 [some (.ref 0), some (.int p0)] [.int (Int32.ofInt 1)] (hp s) 0 0 _
      refine Ev.goto (off := 4) (tgt := 20) (by decide +kernel) (by decide) ?_
      cases hf
      exact Ev.iret .boolean rfl rfl (by decide +kernel) (Nat.le_refl _) (Nat.le_refl _)
def f_X9_field (p0 : Int32) (p1 : Int32) (s : ST) : Option (Int32 × ST) := (f_X9_isField p0 s).bind (fun q1 => (if q1.1 = 0 then some ((Int32.ofInt (-1)), q1.2) else (if p1 = 0 then (RR q1.2.2.2 0 3).bind (fun a4 => gd (kk a4 4) ((RR q1.2.2.2 a4 13).bind (fun a6 => gd (kk a6 13) (gd (ib p0 (K0 a6).2) (lt ((q1.2.1 a6 p0.toNatClampNeg) - (q1.2.1 a6 p0.toNatClampNeg) / (Int32.ofInt 5) * (Int32.ofInt 5)) (fun v9 => some (v9, q1.2))))))) else (if p1 = 1 then (RR q1.2.2.2 0 3).bind (fun a11 => gd (kk a11 4) ((RR q1.2.2.2 a11 13).bind (fun a13 => gd (kk a13 13) (gd (ib p0 (K0 a13).2) (some (((q1.2.1 a13 p0.toNatClampNeg) / (Int32.ofInt 5)), q1.2)))))) else (if p1 = 2 then gd (ib p0 6) (some ((q1.2.1 39 p0.toNatClampNeg), q1.2)) else (some ((Int32.ofInt (-1)), q1.2)))))))
set_option maxHeartbeats 2000000 in
set_option maxRecDepth 20000 in
theorem e_X9_field {l : Launch} {d : Nat} (hd : 2 ≤ d) (p0 : Int32) (p1 : Int32) (s : ST) (r : Int32 × ST) (hf : f_X9_field p0 p1 s = some r) : Cl l d mi_X9_field [.ref 0, .int p0, .int p1] (hp s) (some (.int r.1), hp r.2) := by
  refine Ev.entry (by decide +kernel) rfl rfl ?_
  show Ev l d mi_X9_field 0 [some (.ref 0), some (.int p0), some (.int p1)] [] (hp s) 0 0 _
  unfold f_X9_field at hf
  refine Ev.blk (pc' := 2) [(.aload_n 0, 0, 0, 0), (.iload_n 1, 0, 0, 0)] (by decide +kernel) trivial rfl (?_)
  show Ev l d mi_X9_field 2 [some (.ref 0), some (.int p0), some (.int p1)] [.int p0, .ref 0] (hp s) 0 0 _
  obtain ⟨q1, hq1, hf⟩ := bd_some hf
  refine Ev.callV (o := 0) (M' := mi_X9_isField) (d' := d - 1) (As := [.int p0]) (rest := []) (r' := (some (.int q1.1), hp q1.2)) (e_X9_isField (d := d - 1) (by omega) p0 s _ hq1) (by omega) wm_X9_isField wi_X9_isField wv_X9_isField km_9_206 (kc rfl rfl) (Nat.le_of_ble_eq_true rfl) rfl rfl rfl (Nat.le_of_ble_eq_true rfl) ⟨Nat.le_of_ble_eq_true rfl, Nat.le_of_ble_eq_true rfl⟩ (by decide +kernel) ?_
  show Ev l d mi_X9_field 5 [some (.ref 0), some (.int p0), some (.int p1)] [.int q1.1] (hp q1.2) 0 0 _
  refine Ev.if_ne (off := 5) (tgt := 10) (by decide +kernel) (by decide) (fun b2 => ?_) (fun b2 => ?_)
  · have hf := (if_neg b2).symm.trans hf
    refine Ev.blk (pc' := 11) [(.iload_n 2, 0, 0, 0)] (by decide +kernel) trivial rfl (?_)
    show Ev l d mi_X9_field 11 [some (.ref 0), some (.int p0), some (.int p1)] [.int p1] (hp q1.2) 0 0 _
    by_cases b3 : p1 = 0
    · have hf := (if_pos b3).symm.trans hf
      refine Ev.tswitch (dflt := 59) (lo := 0) (hi := 2) (offs := #[25, 37, 49]) (len := 25) (tgt := 36) (by decide +kernel) (by rw [b3]; decide) (by decide) ?_
      obtain ⟨a4, ha4, hf⟩ := bd_some hf
      obtain ⟨c5, hf⟩ := gd_some hf
      obtain ⟨a6, ha6, hf⟩ := bd_some hf
      obtain ⟨c7, hf⟩ := gd_some hf
      obtain ⟨c8, hf⟩ := gd_some hf
      obtain ⟨v9, hv9, hf⟩ := lt_some hf
      refine Ev.blk (pc' := 47) [(.aload_n 0, 0, 0, 0), (.getfield 37, 0, 9, 3), (.getfield 210, 0, 4, 13), (.iload_n 1, 0, 0, 0), (.iaload, 0, 0, 0), (.iconst 5, 0, 0, 0), (.irem, 0, 0, 0)] (by decide +kernel) ⟨kf_9_37, ⟨kf_9_210, trivial⟩⟩ rfl (And.intro (kc rfl rfl) (Exists.intro a4 (And.intro ha4 (And.intro (kk_ok c5) (Exists.intro a6 (And.intro ha6 (And.intro (kk_ok c7) (And.intro (ib_ok c8) (And.intro (by decide) (?_))))))))))
      show Ev l d mi_X9_field 47 [some (.ref 0), some (.int p0), some (.int p1)] [.int ((q1.2.1 a6 p0.toNatClampNeg) - (q1.2.1 a6 p0.toNatClampNeg) / (Int32.ofInt 5) * (Int32.ofInt 5))] (hp q1.2) 0 0 _
      rw [← hv9]
      cases hf
      exact Ev.iret .int rfl rfl (by decide +kernel) (Nat.le_refl _) (Nat.le_refl _)
    · have hf := (if_neg b3).symm.trans hf
      by_cases b10 : p1 = 1
      · have hf := (if_pos b10).symm.trans hf
        refine Ev.tswitch (dflt := 59) (lo := 0) (hi := 2) (offs := #[25, 37, 49]) (len := 25) (tgt := 48) (by decide +kernel) (by rw [b10]; decide) (by decide) ?_
        obtain ⟨a11, ha11, hf⟩ := bd_some hf
        obtain ⟨c12, hf⟩ := gd_some hf
        obtain ⟨a13, ha13, hf⟩ := bd_some hf
        obtain ⟨c14, hf⟩ := gd_some hf
        obtain ⟨c15, hf⟩ := gd_some hf
        refine Ev.blk (pc' := 59) [(.aload_n 0, 0, 0, 0), (.getfield 37, 0, 9, 3), (.getfield 210, 0, 4, 13), (.iload_n 1, 0, 0, 0), (.iaload, 0, 0, 0), (.iconst 5, 0, 0, 0), (.idiv, 0, 0, 0)] (by decide +kernel) ⟨kf_9_37, ⟨kf_9_210, trivial⟩⟩ rfl (And.intro (kc rfl rfl) (Exists.intro a11 (And.intro ha11 (And.intro (kk_ok c12) (Exists.intro a13 (And.intro ha13 (And.intro (kk_ok c14) (And.intro (ib_ok c15) (And.intro (by decide) (?_))))))))))
        show Ev l d mi_X9_field 59 [some (.ref 0), some (.int p0), some (.int p1)] [.int ((q1.2.1 a13 p0.toNatClampNeg) / (Int32.ofInt 5))] (hp q1.2) 0 0 _
        cases hf
        exact Ev.iret .int rfl rfl (by decide +kernel) (Nat.le_refl _) (Nat.le_refl _)
      · have hf := (if_neg b10).symm.trans hf
        by_cases b16 : p1 = 2
        · have hf := (if_pos b16).symm.trans hf
          refine Ev.tswitch (dflt := 59) (lo := 0) (hi := 2) (offs := #[25, 37, 49]) (len := 25) (tgt := 60) (by decide +kernel) (by rw [b16]; decide) (by decide) ?_
          obtain ⟨c17, hf⟩ := gd_some hf
          refine Ev.blk (pc' := 69) [(.aload_n 0, 0, 0, 0), (.getfield 56, 0, 9, 6), (.getfield 213, 0, 3, 5), (.iload_n 1, 0, 0, 0), (.iaload, 0, 0, 0)] (by decide +kernel) ⟨kf_9_56, ⟨kf_9_213, trivial⟩⟩ rfl (And.intro (kc rfl rfl) (Exists.intro 36 (And.intro rfl (And.intro (kc rfl rfl) (Exists.intro 39 (And.intro rfl (And.intro (kc rfl rfl) (And.intro (ib_ok c17) (?_)))))))))
          show Ev l d mi_X9_field 69 [some (.ref 0), some (.int p0), some (.int p1)] [.int (q1.2.1 39 p0.toNatClampNeg)] (hp q1.2) 0 0 _
          cases hf
          exact Ev.iret .int rfl rfl (by decide +kernel) (Nat.le_refl _) (Nat.le_refl _)
        · have hf := (if_neg b16).symm.trans hf
          refine Ev.tswitch (dflt := 59) (lo := 0) (hi := 2) (offs := #[25, 37, 49]) (len := 25) (tgt := 70) (by decide +kernel) (by have e0 := sw_ne b3 (c := (0)) (by decide); have e1 := sw_ne b10 (c := (1)) (by decide); have e2 := sw_ne b16 (c := (2)) (by decide); rw [if_pos (by omega)]; decide) (by decide) ?_
          refine Ev.blk (pc' := 71) [(.iconst (-1), 0, 0, 0)] (by decide +kernel) trivial rfl (?_)
          show Ev l d mi_X9_field 71 [some (.ref 0), some (.int p0), some (.int p1)] [.int (Int32.ofInt (-1))] (hp q1.2) 0 0 _
          cases hf
          exact Ev.iret .int rfl rfl (by decide +kernel) (Nat.le_refl _) (Nat.le_refl _)
  · have hf := (if_pos b2).symm.trans hf
    refine Ev.blk (pc' := 9) [(.iconst (-1), 0, 0, 0)] (by decide +kernel) trivial rfl (?_)
    show Ev l d mi_X9_field 9 [some (.ref 0), some (.int p0), some (.int p1)] [.int (Int32.ofInt (-1))] (hp q1.2) 0 0 _
    cases hf
    exact Ev.iret .int rfl rfl (by decide +kernel) (Nat.le_refl _) (Nat.le_refl _)
def f_X9_at (p0 : Int32) (p1 : Int32) (s : ST) : Option (Int32 × ST) := (RR s.2.2 0 3).bind (fun a1 => (f_X4_isPlace a1 p0 p1 s).bind (fun q2 => gd (kk a1 4) ((if q2.1 = 0 then some ((Int32.ofInt (-1)), q2.2) else gd (ib ((p1 * (Int32.ofInt 5)) + p0) 25) (some ((q2.2.1 40 ((p1 * (Int32.ofInt 5)) + p0).toNatClampNeg), q2.2))))))
set_option maxHeartbeats 2000000 in
set_option maxRecDepth 20000 in
theorem e_X9_at {l : Launch} {d : Nat} (hd : 2 ≤ d) (p0 : Int32) (p1 : Int32) (s : ST) (r : Int32 × ST) (hf : f_X9_at p0 p1 s = some r) : Cl l d mi_X9_at [.ref 0, .int p0, .int p1] (hp s) (some (.int r.1), hp r.2) := by
  refine Ev.entry (by decide +kernel) rfl rfl ?_
  show Ev l d mi_X9_at 0 [some (.ref 0), some (.int p0), some (.int p1)] [] (hp s) 0 0 _
  unfold f_X9_at at hf
  obtain ⟨a1, ha1, hf⟩ := bd_some hf
  refine Ev.blk (pc' := 6) [(.aload_n 0, 0, 0, 0), (.getfield 37, 0, 9, 3), (.iload_n 1, 0, 0, 0), (.iload_n 2, 0, 0, 0)] (by decide +kernel) ⟨kf_9_37, trivial⟩ rfl (And.intro (kc rfl rfl) (Exists.intro a1 (And.intro ha1 (?_))))
  show Ev l d mi_X9_at 6 [some (.ref 0), some (.int p0), some (.int p1)] [.int p1, .int p0, .ref a1] (hp s) 0 0 _
  obtain ⟨q2, hq2, hf⟩ := bd_some hf
  obtain ⟨c3, hf⟩ := gd_some hf
  refine Ev.callV (o := a1) (M' := mi_X4_isPlace) (d' := d - 1) (As := [.int p0, .int p1]) (rest := []) (r' := (some (.int q2.1), hp q2.2)) (e_X4_isPlace (d := d - 1) (by omega) a1 p0 p1 s _ hq2) (by omega) wm_X4_isPlace wi_X4_isPlace wv_X4_isPlace km_9_216 (kk_ok c3) (Nat.le_of_ble_eq_true rfl) rfl rfl rfl (Nat.le_of_ble_eq_true rfl) ⟨Nat.le_of_ble_eq_true rfl, Nat.le_of_ble_eq_true rfl⟩ (by decide +kernel) ?_
  show Ev l d mi_X9_at 9 [some (.ref 0), some (.int p0), some (.int p1)] [.int q2.1] (hp q2.2) 0 0 _
  refine Ev.if_eq (off := 19) (tgt := 28) (by decide +kernel) (by decide) (fun b4 => ?_) (fun b4 => ?_)
  · have hf := (if_pos b4).symm.trans hf
    refine Ev.blk (pc' := 29) [(.iconst (-1), 0, 0, 0)] (by decide +kernel) trivial rfl (?_)
    show Ev l d mi_X9_at 29 [some (.ref 0), some (.int p0), some (.int p1)] [.int (Int32.ofInt (-1))] (hp q2.2) 0 0 _
    cases hf
    exact Ev.iret .int rfl rfl (by decide +kernel) (Nat.le_refl _) (Nat.le_refl _)
  · have hf := (if_neg b4).symm.trans hf
    obtain ⟨c5, hf⟩ := gd_some hf
    refine Ev.blk (pc' := 25) [(.aload_n 0, 0, 0, 0), (.getfield 56, 0, 9, 6), (.getfield 220, 0, 3, 6), (.iload_n 2, 0, 0, 0), (.iconst 5, 0, 0, 0), (.imul, 0, 0, 0), (.iload_n 1, 0, 0, 0), (.iadd, 0, 0, 0), (.iaload, 0, 0, 0)] (by decide +kernel) ⟨kf_9_56, ⟨kf_9_220, trivial⟩⟩ rfl (And.intro (kc rfl rfl) (Exists.intro 36 (And.intro rfl (And.intro (kc rfl rfl) (Exists.intro 40 (And.intro rfl (And.intro (kc rfl rfl) (And.intro (ib_ok c5) (?_)))))))))
    show Ev l d mi_X9_at 25 [some (.ref 0), some (.int p0), some (.int p1)] [.int (q2.2.1 40 ((p1 * (Int32.ofInt 5)) + p0).toNatClampNeg)] (hp q2.2) 0 0 _
    refine Ev.goto (off := 4) (tgt := 29) (by decide +kernel) (by decide) ?_
    cases hf
    exact Ev.iret .int rfl rfl (by decide +kernel) (Nat.le_refl _) (Nat.le_refl _)
def f_X9_byteOfMan (p0 : Int32) (s : ST) : Option (Int32 × ST) := (if 0 ≤ p0 then some (p0, s) else some (((Int16.ofInt 255).toInt32), s))
set_option maxHeartbeats 2000000 in
set_option maxRecDepth 20000 in
theorem e_X9_byteOfMan {l : Launch} {d : Nat} (hd : 1 ≤ d) (p0 : Int32) (s : ST) (r : Int32 × ST) (hf : f_X9_byteOfMan p0 s = some r) : Cl l d mi_X9_byteOfMan [.int p0] (hp s) (some (.int r.1), hp r.2) := by
  refine Ev.entry (by decide +kernel) rfl rfl ?_
  show Ev l d mi_X9_byteOfMan 0 [some (.int p0)] [] (hp s) 0 0 _
  unfold f_X9_byteOfMan at hf
  refine Ev.blk (pc' := 1) [(.iload_n 0, 0, 0, 0)] (by decide +kernel) trivial rfl (?_)
  show Ev l d mi_X9_byteOfMan 1 [some (.int p0)] [.int p0] (hp s) 0 0 _
  refine Ev.if_ge (off := 9) (tgt := 10) (by decide +kernel) (by decide) (fun b1 => ?_) (fun b1 => ?_)
  · have hf := (if_pos b1).symm.trans hf
    refine Ev.blk (pc' := 11) [(.iload_n 0, 0, 0, 0)] (by decide +kernel) trivial rfl (?_)
    show Ev l d mi_X9_byteOfMan 11 [some (.int p0)] [.int p0] (hp s) 0 0 _
    cases hf
    exact Ev.iret .int rfl rfl (by decide +kernel) (Nat.le_refl _) (Nat.le_refl _)
  · have hf := (if_neg b1).symm.trans hf
    refine Ev.blk (pc' := 7) [(.sipush 255, 0, 0, 0)] (by decide +kernel) trivial rfl (?_)
    show Ev l d mi_X9_byteOfMan 7 [some (.int p0)] [.int ((Int16.ofInt 255).toInt32)] (hp s) 0 0 _
    refine Ev.goto (off := 4) (tgt := 11) (by decide +kernel) (by decide) ?_
    cases hf
    exact Ev.iret .int rfl rfl (by decide +kernel) (Nat.le_refl _) (Nat.le_refl _)
def f_X9_option (p0 : Int32) (p1 : Int32) (s : ST) : Option (Int32 × ST) := (f_X3_moveAt 36 p0 s).bind (fun q1 => (if q1.1 < 0 then some ((Int32.ofInt (-1)), q1.2) else (if p1 < 0 then some ((Int32.ofInt (-1)), q1.2) else (if p1 ≤ (Int32.ofInt 4) then (f_X9_placeOfMove q1.1 q1.2).bind (fun q5 => (if p1 = 0 then (f_X9_manOfMove q1.1 q5.2).bind (fun q7 => some (q7.1, q7.2)) else (if p1 = 1 then some ((q5.1 - q5.1 / (Int32.ofInt 5) * (Int32.ofInt 5)), q5.2) else (if p1 = 2 then some ((q5.1 / (Int32.ofInt 5)), q5.2) else (if p1 = 3 then gd (ib q5.1 25) ((f_X9_byteOfMan (q5.2.1 40 q5.1.toNatClampNeg) q5.2).bind (fun q12 => some (q12.1, q12.2))) else ((f_X3_copy 46 36 q5.2).bind (fun q13 => (f_X3_strike 46 q1.1 q13).bind (fun q14 => some ((q14.2.1 46 13), q14.2))))))))) else some ((Int32.ofInt (-1)), q1.2)))))
set_option maxHeartbeats 2000000 in
set_option maxRecDepth 20000 in
theorem e_X9_option {l : Launch} {d : Nat} (hd : 5 ≤ d) (p0 : Int32) (p1 : Int32) (s : ST) (r : Int32 × ST) (hf : f_X9_option p0 p1 s = some r) : Cl l d mi_X9_option [.ref 0, .int p0, .int p1] (hp s) (some (.int r.1), hp r.2) := by
  refine Ev.entry (by decide +kernel) rfl rfl ?_
  show Ev l d mi_X9_option 0 [some (.ref 0), some (.int p0), some (.int p1), none, none] [] (hp s) 0 0 _
  unfold f_X9_option at hf
  refine Ev.blk (pc' := 5) [(.aload_n 0, 0, 0, 0), (.getfield 56, 0, 9, 6), (.iload_n 1, 0, 0, 0)] (by decide +kernel) ⟨kf_9_56, trivial⟩ rfl (And.intro (kc rfl rfl) (Exists.intro 36 (And.intro rfl (?_))))
  show Ev l d mi_X9_option 5 [some (.ref 0), some (.int p0), some (.int p1), none, none] [.int p0, .ref 36] (hp s) 0 0 _
  obtain ⟨q1, hq1, hf⟩ := bd_some hf
  refine Ev.callV (o := 36) (M' := mi_X3_moveAt) (d' := d - 1) (As := [.int p0]) (rest := []) (r' := (some (.int q1.1), hp q1.2)) (e_X3_moveAt (d := d - 1) (by omega) 36 p0 s _ hq1) (by omega) wm_X3_moveAt wi_X3_moveAt wv_X3_moveAt km_9_223 (kc rfl rfl) (Nat.le_of_ble_eq_true rfl) rfl rfl rfl (Nat.le_of_ble_eq_true rfl) ⟨Nat.le_of_ble_eq_true rfl, Nat.le_of_ble_eq_true rfl⟩ (by decide +kernel) ?_
  show Ev l d mi_X9_option 8 [some (.ref 0), some (.int p0), some (.int p1), none, none] [.int q1.1] (hp q1.2) 0 0 _
  refine Ev.blk (pc' := 10) [(.istore_n 3, 0, 0, 0), (.iload_n 3, 0, 0, 0)] (by decide +kernel) trivial rfl (And.intro (Nat.le_of_ble_eq_true rfl) (?_))
  show Ev l d mi_X9_option 10 [some (.ref 0), some (.int p0), some (.int p1), some (.int q1.1), none] [.int q1.1] (hp q1.2) 0 0 _
  refine Ev.if_lt (off := 12) (tgt := 22) (by decide +kernel) (by decide) (fun b2 => ?_) (fun b2 => ?_)
  · have hf := (if_pos b2).symm.trans hf
    refine Ev.blk (pc' := 23) [(.iconst (-1), 0, 0, 0)] (by decide +kernel) trivial rfl (?_)
    show Ev l d mi_X9_option 23 [some (.ref 0), some (.int p0), some (.int p1), some (.int q1.1), none] [.int (Int32.ofInt (-1))] (hp q1.2) 0 0 _
    cases hf
    exact Ev.iret .int rfl rfl (by decide +kernel) (Nat.le_refl _) (Nat.le_refl _)
  · have hf := (if_neg b2).symm.trans hf
    refine Ev.blk (pc' := 14) [(.iload_n 2, 0, 0, 0)] (by decide +kernel) trivial rfl (?_)
    show Ev l d mi_X9_option 14 [some (.ref 0), some (.int p0), some (.int p1), some (.int q1.1), none] [.int p1] (hp q1.2) 0 0 _
    refine Ev.if_lt (off := 8) (tgt := 22) (by decide +kernel) (by decide) (fun b3 => ?_) (fun b3 => ?_)
    · have hf := (if_pos b3).symm.trans hf
      refine Ev.blk (pc' := 23) [(.iconst (-1), 0, 0, 0)] (by decide +kernel) trivial rfl (?_)
      show Ev l d mi_X9_option 23 [some (.ref 0), some (.int p0), some (.int p1), some (.int q1.1), none] [.int (Int32.ofInt (-1))] (hp q1.2) 0 0 _
      cases hf
      exact Ev.iret .int rfl rfl (by decide +kernel) (Nat.le_refl _) (Nat.le_refl _)
    · have hf := (if_neg b3).symm.trans hf
      refine Ev.blk (pc' := 19) [(.iload_n 2, 0, 0, 0), (.iconst 4, 0, 0, 0)] (by decide +kernel) trivial rfl (?_)
      show Ev l d mi_X9_option 19 [some (.ref 0), some (.int p0), some (.int p1), some (.int q1.1), none] [.int (Int32.ofInt 4), .int p1] (hp q1.2) 0 0 _
      refine Ev.icmp_le (off := 5) (tgt := 24) (by decide +kernel) (by decide) (fun b4 => ?_) (fun b4 => ?_)
      · have hf := (if_pos b4).symm.trans hf
        refine Ev.blk (pc' := 25) [(.iload_n 3, 0, 0, 0)] (by decide +kernel) trivial rfl (?_)
        show Ev l d mi_X9_option 25 [some (.ref 0), some (.int p0), some (.int p1), some (.int q1.1), none] [.int q1.1] (hp q1.2) 0 0 _
        obtain ⟨q5, hq5, hf⟩ := bd_some hf
        refine Ev.callS (M' := mi_X9_placeOfMove) (d' := d - 1) (As := [.int q1.1]) (rest := []) (r' := (some (.int q5.1), hp q5.2)) (e_X9_placeOfMove (d := d - 1) (by omega) q1.1 q1.2 _ hq5) (by omega) wm_X9_placeOfMove wt_X9_placeOfMove km_9_226 rfl rfl rfl (Nat.le_of_ble_eq_true rfl) ⟨Nat.le_of_ble_eq_true rfl, Nat.le_of_ble_eq_true rfl⟩ (by decide +kernel) ?_
        show Ev l d mi_X9_option 28 [some (.ref 0), some (.int p0), some (.int p1), some (.int q1.1), none] [.int q5.1] (hp q5.2) 0 0 _
        refine Ev.blk (pc' := 31) [(.istore 4, 0, 0, 0), (.iload_n 2, 0, 0, 0)] (by decide +kernel) trivial rfl (And.intro (Nat.le_of_ble_eq_true rfl) (?_))
        show Ev l d mi_X9_option 31 [some (.ref 0), some (.int p0), some (.int p1), some (.int q1.1), some (.int q5.1)] [.int p1] (hp q5.2) 0 0 _
        by_cases b6 : p1 = 0
        · have hf := (if_pos b6).symm.trans hf
          refine Ev.tswitch (dflt := 58) (lo := 0) (hi := 3) (offs := #[29, 34, 39, 44]) (len := 29) (tgt := 60) (by decide +kernel) (by rw [b6]; decide) (by decide) ?_
          refine Ev.blk (pc' := 61) [(.iload_n 3, 0, 0, 0)] (by decide +kernel) trivial rfl (?_)
          show Ev l d mi_X9_option 61 [some (.ref 0), some (.int p0), some (.int p1), some (.int q1.1), some (.int q5.1)] [.int q1.1] (hp q5.2) 0 0 _
          obtain ⟨q7, hq7, hf⟩ := bd_some hf
          refine Ev.callS (M' := mi_X9_manOfMove) (d' := d - 1) (As := [.int q1.1]) (rest := []) (r' := (some (.int q7.1), hp q7.2)) (e_X9_manOfMove (d := d - 1) (by omega) q1.1 q5.2 _ hq7) (by omega) wm_X9_manOfMove wt_X9_manOfMove km_9_229 rfl rfl rfl (Nat.le_of_ble_eq_true rfl) ⟨Nat.le_of_ble_eq_true rfl, Nat.le_of_ble_eq_true rfl⟩ (by decide +kernel) ?_
          show Ev l d mi_X9_option 64 [some (.ref 0), some (.int p0), some (.int p1), some (.int q1.1), some (.int q5.1)] [.int q7.1] (hp q7.2) 0 0 _
          cases hf
          exact Ev.iret .int rfl rfl (by decide +kernel) (Nat.le_refl _) (Nat.le_refl _)
        · have hf := (if_neg b6).symm.trans hf
          by_cases b8 : p1 = 1
          · have hf := (if_pos b8).symm.trans hf
            refine Ev.tswitch (dflt := 58) (lo := 0) (hi := 3) (offs := #[29, 34, 39, 44]) (len := 29) (tgt := 65) (by decide +kernel) (by rw [b8]; decide) (by decide) ?_
            refine Ev.blk (pc' := 69) [(.iload 4, 0, 0, 0), (.iconst 5, 0, 0, 0), (.irem, 0, 0, 0)] (by decide +kernel) trivial rfl (And.intro (by decide) (?_))
            show Ev l d mi_X9_option 69 [some (.ref 0), some (.int p0), some (.int p1), some (.int q1.1), some (.int q5.1)] [.int (q5.1 - q5.1 / (Int32.ofInt 5) * (Int32.ofInt 5))] (hp q5.2) 0 0 _
            cases hf
            exact Ev.iret .int rfl rfl (by decide +kernel) (Nat.le_refl _) (Nat.le_refl _)
          · have hf := (if_neg b8).symm.trans hf
            by_cases b9 : p1 = 2
            · have hf := (if_pos b9).symm.trans hf
              refine Ev.tswitch (dflt := 58) (lo := 0) (hi := 3) (offs := #[29, 34, 39, 44]) (len := 29) (tgt := 70) (by decide +kernel) (by rw [b9]; decide) (by decide) ?_
              refine Ev.blk (pc' := 74) [(.iload 4, 0, 0, 0), (.iconst 5, 0, 0, 0), (.idiv, 0, 0, 0)] (by decide +kernel) trivial rfl (And.intro (by decide) (?_))
              show Ev l d mi_X9_option 74 [some (.ref 0), some (.int p0), some (.int p1), some (.int q1.1), some (.int q5.1)] [.int (q5.1 / (Int32.ofInt 5))] (hp q5.2) 0 0 _
              cases hf
              exact Ev.iret .int rfl rfl (by decide +kernel) (Nat.le_refl _) (Nat.le_refl _)
            · have hf := (if_neg b9).symm.trans hf
              by_cases b10 : p1 = 3
              · have hf := (if_pos b10).symm.trans hf
                refine Ev.tswitch (dflt := 58) (lo := 0) (hi := 3) (offs := #[29, 34, 39, 44]) (len := 29) (tgt := 75) (by decide +kernel) (by rw [b10]; decide) (by decide) ?_
                obtain ⟨c11, hf⟩ := gd_some hf
                refine Ev.blk (pc' := 85) [(.aload_n 0, 0, 0, 0), (.getfield 56, 0, 9, 6), (.getfield 220, 0, 3, 6), (.iload 4, 0, 0, 0), (.iaload, 0, 0, 0)] (by decide +kernel) ⟨kf_9_56, ⟨kf_9_220, trivial⟩⟩ rfl (And.intro (kc rfl rfl) (Exists.intro 36 (And.intro rfl (And.intro (kc rfl rfl) (Exists.intro 40 (And.intro rfl (And.intro (kc rfl rfl) (And.intro (ib_ok c11) (?_)))))))))
                show Ev l d mi_X9_option 85 [some (.ref 0), some (.int p0), some (.int p1), some (.int q1.1), some (.int q5.1)] [.int (q5.2.1 40 q5.1.toNatClampNeg)] (hp q5.2) 0 0 _
                obtain ⟨q12, hq12, hf⟩ := bd_some hf
                refine Ev.callS (M' := mi_X9_byteOfMan) (d' := d - 1) (As := [.int (q5.2.1 40 q5.1.toNatClampNeg)]) (rest := []) (r' := (some (.int q12.1), hp q12.2)) (e_X9_byteOfMan (d := d - 1) (by omega) (q5.2.1 40 q5.1.toNatClampNeg) q5.2 _ hq12) (by omega) wm_X9_byteOfMan wt_X9_byteOfMan km_9_232 rfl rfl rfl (Nat.le_of_ble_eq_true rfl) ⟨Nat.le_of_ble_eq_true rfl, Nat.le_of_ble_eq_true rfl⟩ (by decide +kernel) ?_
                show Ev l d mi_X9_option 88 [some (.ref 0), some (.int p0), some (.int p1), some (.int q1.1), some (.int q5.1)] [.int q12.1] (hp q12.2) 0 0 _
                cases hf
                exact Ev.iret .int rfl rfl (by decide +kernel) (Nat.le_refl _) (Nat.le_refl _)
              · have hf := (if_neg b10).symm.trans hf
                refine Ev.tswitch (dflt := 58) (lo := 0) (hi := 3) (offs := #[29, 34, 39, 44]) (len := 29) (tgt := 89) (by decide +kernel) (by have e0 := sw_ne b6 (c := (0)) (by decide); have e1 := sw_ne b8 (c := (1)) (by decide); have e2 := sw_ne b9 (c := (2)) (by decide); have e3 := sw_ne b10 (c := (3)) (by decide); rw [if_pos (by omega)]; decide) (by decide) ?_
                refine Ev.blk (pc' := 97) [(.aload_n 0, 0, 0, 0), (.getfield 60, 0, 9, 7), (.aload_n 0, 0, 0, 0), (.getfield 56, 0, 9, 6)] (by decide +kernel) ⟨kf_9_60, ⟨kf_9_56, trivial⟩⟩ rfl (And.intro (kc rfl rfl) (Exists.intro 46 (And.intro rfl (And.intro (kc rfl rfl) (Exists.intro 36 (And.intro rfl (?_)))))))
                show Ev l d mi_X9_option 97 [some (.ref 0), some (.int p0), some (.int p1), some (.int q1.1), some (.int q5.1)] [.ref 36, .ref 46] (hp q5.2) 0 0 _
                obtain ⟨q13, hq13, hf⟩ := bd_some hf
                refine Ev.callV (o := 46) (M' := mi_X3_copy) (d' := d - 1) (As := [.ref 36]) (rest := []) (r' := (none, hp q13)) (e_X3_copy (d := d - 1) (by omega) 46 36 q5.2 _ hq13) (by omega) wm_X3_copy wi_X3_copy wv_X3_copy km_9_235 (kc rfl rfl) (Nat.le_of_ble_eq_true rfl) rfl rfl rfl (Nat.le_of_ble_eq_true rfl) ⟨Nat.le_of_ble_eq_true rfl, Nat.le_of_ble_eq_true rfl⟩ (by decide +kernel) ?_
                show Ev l d mi_X9_option 100 [some (.ref 0), some (.int p0), some (.int p1), some (.int q1.1), some (.int q5.1)] [] (hp q13) 0 0 _
                refine Ev.blk (pc' := 105) [(.aload_n 0, 0, 0, 0), (.getfield 60, 0, 9, 7), (.iload_n 3, 0, 0, 0)] (by decide +kernel) ⟨kf_9_60, trivial⟩ rfl (And.intro (kc rfl rfl) (Exists.intro 46 (And.intro rfl (?_))))
                show Ev l d mi_X9_option 105 [some (.ref 0), some (.int p0), some (.int p1), some (.int q1.1), some (.int q5.1)] [.int q1.1, .ref 46] (hp q13) 0 0 _
                obtain ⟨q14, hq14, hf⟩ := bd_some hf
                refine Ev.callV (o := 46) (M' := mi_X3_strike) (d' := d - 1) (As := [.int q1.1]) (rest := []) (r' := (some (.int q14.1), hp q14.2)) (e_X3_strike (d := d - 1) (by omega) 46 q1.1 q13 _ hq14) (by omega) wm_X3_strike wi_X3_strike wv_X3_strike km_9_239 (kc rfl rfl) (Nat.le_of_ble_eq_true rfl) rfl rfl rfl (Nat.le_of_ble_eq_true rfl) ⟨Nat.le_of_ble_eq_true rfl, Nat.le_of_ble_eq_true rfl⟩ (by decide +kernel) ?_
                show Ev l d mi_X9_option 108 [some (.ref 0), some (.int p0), some (.int p1), some (.int q1.1), some (.int q5.1)] [.int q14.1] (hp q14.2) 0 0 _
                refine Ev.blk (pc' := 116) [(.pop, 0, 0, 0), (.aload_n 0, 0, 0, 0), (.getfield 60, 0, 9, 7), (.getfield 242, 0, 3, 13)] (by decide +kernel) ⟨kf_9_60, ⟨kf_9_242, trivial⟩⟩ rfl (And.intro rfl (And.intro (kc rfl rfl) (Exists.intro 46 (And.intro rfl (And.intro (kc rfl rfl) (?_))))))
                show Ev l d mi_X9_option 116 [some (.ref 0), some (.int p0), some (.int p1), some (.int q1.1), some (.int q5.1)] [.int (q14.2.1 46 13)] (hp q14.2) 0 0 _
                cases hf
                exact Ev.iret .int rfl rfl (by decide +kernel) (Nat.le_refl _) (Nat.le_refl _)
      · have hf := (if_neg b4).symm.trans hf
        refine Ev.blk (pc' := 23) [(.iconst (-1), 0, 0, 0)] (by decide +kernel) trivial rfl (?_)
        show Ev l d mi_X9_option 23 [some (.ref 0), some (.int p0), some (.int p1), some (.int q1.1), none] [.int (Int32.ofInt (-1))] (hp q1.2) 0 0 _
        cases hf
        exact Ev.iret .int rfl rfl (by decide +kernel) (Nat.le_refl _) (Nat.le_refl _)
def f_X9_kept (p0 : Int32) (p1 : Int32) (s : ST) : Option (Int32 × ST) := (f_X0_tell p0 p1 s).bind (fun q1 => some (q1.1, q1.2))
set_option maxHeartbeats 2000000 in
set_option maxRecDepth 20000 in
theorem e_X9_kept {l : Launch} {d : Nat} (hd : 4 ≤ d) (p0 : Int32) (p1 : Int32) (s : ST) (r : Int32 × ST) (hf : f_X9_kept p0 p1 s = some r) : Cl l d mi_X9_kept [.ref 0, .int p0, .int p1] (hp s) (some (.int r.1), hp r.2) := by
  refine Ev.entry (by decide +kernel) rfl rfl ?_
  show Ev l d mi_X9_kept 0 [some (.ref 0), some (.int p0), some (.int p1)] [] (hp s) 0 0 _
  unfold f_X9_kept at hf
  refine Ev.blk (pc' := 6) [(.aload_n 0, 0, 0, 0), (.getfield 66, 0, 9, 8), (.iload_n 1, 0, 0, 0), (.iload_n 2, 0, 0, 0)] (by decide +kernel) ⟨kf_9_66, trivial⟩ rfl (And.intro (kc rfl rfl) (Exists.intro 56 (And.intro rfl (?_))))
  show Ev l d mi_X9_kept 6 [some (.ref 0), some (.int p0), some (.int p1)] [.int p1, .int p0, .ref 56] (hp s) 0 0 _
  obtain ⟨q1, hq1, hf⟩ := bd_some hf
  refine Ev.callV (o := 56) (M' := mi_X0_tell) (d' := d - 1) (As := [.int p0, .int p1]) (rest := []) (r' := (some (.int q1.1), hp q1.2)) (e_X0_tell (d := d - 1) (by omega) p0 p1 s _ hq1) (by omega) wm_X0_tell wi_X0_tell wv_X0_tell km_9_245 (kc rfl rfl) (Nat.le_of_ble_eq_true rfl) rfl rfl rfl (Nat.le_of_ble_eq_true rfl) ⟨Nat.le_of_ble_eq_true rfl, Nat.le_of_ble_eq_true rfl⟩ (by decide +kernel) ?_
  show Ev l d mi_X9_kept 9 [some (.ref 0), some (.int p0), some (.int p1)] [.int q1.1] (hp q1.2) 0 0 _
  cases hf
  exact Ev.iret .int rfl rfl (by decide +kernel) (Nat.le_refl _) (Nat.le_refl _)
def f_X9_isSide (p0 : Int32) (s : ST) : Option (Int32 × ST) := (if p0 = 0 then some ((Int32.ofInt 1), s) else (if p0 = (Int32.ofInt 1) then some ((Int32.ofInt 1), s) else some ((Int32.ofInt 0), s)))
set_option maxHeartbeats 2000000 in
set_option maxRecDepth 20000 in
theorem e_X9_isSide {l : Launch} {d : Nat} (hd : 1 ≤ d) (p0 : Int32) (s : ST) (r : Int32 × ST) (hf : f_X9_isSide p0 s = some r) : Cl l d mi_X9_isSide [.int p0] (hp s) (some (.int r.1), hp r.2) := by
  refine Ev.entry (by decide +kernel) rfl rfl ?_
  show Ev l d mi_X9_isSide 0 [some (.int p0)] [] (hp s) 0 0 _
  unfold f_X9_isSide at hf
  refine Ev.blk (pc' := 1) [(.iload_n 0, 0, 0, 0)] (by decide +kernel) trivial rfl (?_)
  show Ev l d mi_X9_isSide 1 [some (.int p0)] [.int p0] (hp s) 0 0 _
  refine Ev.if_eq (off := 8) (tgt := 9) (by decide +kernel) (by decide) (fun b1 => ?_) (fun b1 => ?_)
  · have hf := (if_pos b1).symm.trans hf
    refine Ev.blk (pc' := 10) [(.iconst 1, 0, 0, 0)] (by decide +kernel) trivial rfl (?_)
    show Ev l d mi_X9_isSide 10 [some (.int p0)] [.int (Int32.ofInt 1)] (hp s) 0 0 _
    refine Ev.goto (off := 4) (tgt := 14) (by decide +kernel) (by decide) ?_
    cases hf
    exact Ev.iret .boolean rfl rfl (by decide +kernel) (Nat.le_refl _) (Nat.le_refl _)
  · have hf := (if_neg b1).symm.trans hf
    refine Ev.blk (pc' := 6) [(.iload_n 0, 0, 0, 0), (.iconst 1, 0, 0, 0)] (by decide +kernel) trivial rfl (?_)
    show Ev l d mi_X9_isSide 6 [some (.int p0)] [.int (Int32.ofInt 1), .int p0] (hp s) 0 0 _
    refine Ev.icmp_ne (off := 7) (tgt := 13) (by decide +kernel) (by decide) (fun b2 => ?_) (fun b2 => ?_)
    · have hf := (if_neg b2).symm.trans hf
      refine Ev.blk (pc' := 14) [(.iconst 0, 0, 0, 0)] (by decide +kernel) trivial rfl (?_)
      show Ev l d mi_X9_isSide 14 [some (.int p0)] [.int (Int32.ofInt 0)] (hp s) 0 0 _
      cases hf
      exact Ev.iret .boolean rfl rfl (by decide +kernel) (Nat.le_refl _) (Nat.le_refl _)
    · have hf := (if_pos b2).symm.trans hf
      refine Ev.blk (pc' := 10) [(.iconst 1, 0, 0, 0)] (by decide +kernel) trivial rfl (?_)
      show Ev l d mi_X9_isSide 10 [some (.int p0)] [.int (Int32.ofInt 1)] (hp s) 0 0 _
      refine Ev.goto (off := 4) (tgt := 14) (by decide +kernel) (by decide) ?_
      cases hf
      exact Ev.iret .boolean rfl rfl (by decide +kernel) (Nat.le_refl _) (Nat.le_refl _)
def f_X9_balance (p0 : Int32) (s : ST) : Option (Int64 × ST) := (f_X9_isTold s).bind (fun q1 => (if q1.1 = 0 then some ((Int64.ofInt (-1000000000000000)), q1.2) else (f_X9_isSide p0 q1.2).bind (fun q3 => (if q3.1 = 0 then some ((Int64.ofInt (-1000000000000000)), q3.2) else (f_X3_balanceOf 36 p0 q3.2).bind (fun q5 => some ((q5.1).toInt64, q5.2))))))
set_option maxHeartbeats 2000000 in
set_option maxRecDepth 20000 in
theorem e_X9_balance {l : Launch} {d : Nat} (hd : 2 ≤ d) (p0 : Int32) (s : ST) (r : Int64 × ST) (hf : f_X9_balance p0 s = some r) : Cl l d mi_X9_balance [.ref 0, .int p0] (hp s) (some (.long r.1), hp r.2) := by
  refine Ev.entry (by decide +kernel) rfl rfl ?_
  show Ev l d mi_X9_balance 0 [some (.ref 0), some (.int p0)] [] (hp s) 0 0 _
  unfold f_X9_balance at hf
  refine Ev.blk (pc' := 1) [(.aload_n 0, 0, 0, 0)] (by decide +kernel) trivial rfl (?_)
  show Ev l d mi_X9_balance 1 [some (.ref 0), some (.int p0)] [.ref 0] (hp s) 0 0 _
  obtain ⟨q1, hq1, hf⟩ := bd_some hf
  refine Ev.callV (o := 0) (M' := mi_X9_isTold) (d' := d - 1) (As := []) (rest := []) (r' := (some (.int q1.1), hp q1.2)) (e_X9_isTold (d := d - 1) (by omega) s _ hq1) (by omega) wm_X9_isTold wi_X9_isTold wv_X9_isTold km_9_150 (kc rfl rfl) (Nat.le_of_ble_eq_true rfl) rfl rfl rfl (Nat.le_of_ble_eq_true rfl) ⟨Nat.le_of_ble_eq_true rfl, Nat.le_of_ble_eq_true rfl⟩ (by decide +kernel) ?_
  show Ev l d mi_X9_balance 4 [some (.ref 0), some (.int p0)] [.int q1.1] (hp q1.2) 0 0 _
  refine Ev.if_eq (off := 22) (tgt := 26) (by decide +kernel) (by decide) (fun b2 => ?_) (fun b2 => ?_)
  · have hf := (if_pos b2).symm.trans hf
    refine Ev.blk (pc' := 29) [(.ldc2_w 253, (-1000000000000000), 0, 0)] (by decide +kernel) ⟨kl_9_253, trivial⟩ rfl (?_)
    show Ev l d mi_X9_balance 29 [some (.ref 0), some (.int p0)] [.long (Int64.ofInt (-1000000000000000))] (hp q1.2) 0 0 _
    cases hf
    exact Ev.lret rfl (by decide +kernel) (Nat.le_refl _) (Nat.le_refl _)
  · have hf := (if_neg b2).symm.trans hf
    refine Ev.blk (pc' := 8) [(.iload_n 1, 0, 0, 0)] (by decide +kernel) trivial rfl (?_)
    show Ev l d mi_X9_balance 8 [some (.ref 0), some (.int p0)] [.int p0] (hp q1.2) 0 0 _
    obtain ⟨q3, hq3, hf⟩ := bd_some hf
    refine Ev.callS (M' := mi_X9_isSide) (d' := d - 1) (As := [.int p0]) (rest := []) (r' := (some (.int q3.1), hp q3.2)) (e_X9_isSide (d := d - 1) (by omega) p0 q1.2 _ hq3) (by omega) wm_X9_isSide wt_X9_isSide km_9_247 rfl rfl rfl (Nat.le_of_ble_eq_true rfl) ⟨Nat.le_of_ble_eq_true rfl, Nat.le_of_ble_eq_true rfl⟩ (by decide +kernel) ?_
    show Ev l d mi_X9_balance 11 [some (.ref 0), some (.int p0)] [.int q3.1] (hp q3.2) 0 0 _
    refine Ev.if_eq (off := 15) (tgt := 26) (by decide +kernel) (by decide) (fun b4 => ?_) (fun b4 => ?_)
    · have hf := (if_pos b4).symm.trans hf
      refine Ev.blk (pc' := 29) [(.ldc2_w 253, (-1000000000000000), 0, 0)] (by decide +kernel) ⟨kl_9_253, trivial⟩ rfl (?_)
      show Ev l d mi_X9_balance 29 [some (.ref 0), some (.int p0)] [.long (Int64.ofInt (-1000000000000000))] (hp q3.2) 0 0 _
      cases hf
      exact Ev.lret rfl (by decide +kernel) (Nat.le_refl _) (Nat.le_refl _)
    · have hf := (if_neg b4).symm.trans hf
      refine Ev.blk (pc' := 19) [(.aload_n 0, 0, 0, 0), (.getfield 56, 0, 9, 6), (.iload_n 1, 0, 0, 0)] (by decide +kernel) ⟨kf_9_56, trivial⟩ rfl (And.intro (kc rfl rfl) (Exists.intro 36 (And.intro rfl (?_))))
      show Ev l d mi_X9_balance 19 [some (.ref 0), some (.int p0)] [.int p0, .ref 36] (hp q3.2) 0 0 _
      obtain ⟨q5, hq5, hf⟩ := bd_some hf
      refine Ev.callV (o := 36) (M' := mi_X3_balanceOf) (d' := d - 1) (As := [.int p0]) (rest := []) (r' := (some (.int q5.1), hp q5.2)) (e_X3_balanceOf (d := d - 1) (by omega) 36 p0 q3.2 _ hq5) (by omega) wm_X3_balanceOf wi_X3_balanceOf wv_X3_balanceOf km_9_250 (kc rfl rfl) (Nat.le_of_ble_eq_true rfl) rfl rfl rfl (Nat.le_of_ble_eq_true rfl) ⟨Nat.le_of_ble_eq_true rfl, Nat.le_of_ble_eq_true rfl⟩ (by decide +kernel) ?_
      show Ev l d mi_X9_balance 22 [some (.ref 0), some (.int p0)] [.int q5.1] (hp q5.2) 0 0 _
      refine Ev.blk (pc' := 23) [(.i2l, 0, 0, 0)] (by decide +kernel) trivial rfl (?_)
      show Ev l d mi_X9_balance 23 [some (.ref 0), some (.int p0)] [.long (q5.1).toInt64] (hp q5.2) 0 0 _
      refine Ev.goto (off := 6) (tgt := 29) (by decide +kernel) (by decide) ?_
      cases hf
      exact Ev.lret rfl (by decide +kernel) (Nat.le_refl _) (Nat.le_refl _)
def f_X9_value (p0 : Int32) (s : ST) : Option (Int64 × ST) := (f_X9_isTold s).bind (fun q1 => (if q1.1 = 0 then some ((Int64.ofInt (-1000000000000000)), q1.2) else (if p0 < 0 then some ((Int64.ofInt (-1000000000000000)), q1.2) else (if (Int32.ofInt 3) < p0 then some ((Int64.ofInt (-1000000000000000)), q1.2) else (t_X3_outlook 36 (q1.2.1 36 2) p0 q1.2).bind (fun q5 => some ((q5.1).toInt64, q5.2))))))
set_option maxHeartbeats 2000000 in
set_option maxRecDepth 20000 in
theorem e_X9_value {l : Launch} {d : Nat} (hd : 25 ≤ d) (p0 : Int32) (s : ST) (r : Int64 × ST) (hf : f_X9_value p0 s = some r) : Cl l d mi_X9_value [.ref 0, .int p0] (hp s) (some (.long r.1), hp r.2) := by
  refine Ev.entry (by decide +kernel) rfl rfl ?_
  show Ev l d mi_X9_value 0 [some (.ref 0), some (.int p0)] [] (hp s) 0 0 _
  unfold f_X9_value at hf
  refine Ev.blk (pc' := 1) [(.aload_n 0, 0, 0, 0)] (by decide +kernel) trivial rfl (?_)
  show Ev l d mi_X9_value 1 [some (.ref 0), some (.int p0)] [.ref 0] (hp s) 0 0 _
  obtain ⟨q1, hq1, hf⟩ := bd_some hf
  refine Ev.callV (o := 0) (M' := mi_X9_isTold) (d' := d - 1) (As := []) (rest := []) (r' := (some (.int q1.1), hp q1.2)) (e_X9_isTold (d := d - 1) (by omega) s _ hq1) (by omega) wm_X9_isTold wi_X9_isTold wv_X9_isTold km_9_150 (kc rfl rfl) (Nat.le_of_ble_eq_true rfl) rfl rfl rfl (Nat.le_of_ble_eq_true rfl) ⟨Nat.le_of_ble_eq_true rfl, Nat.le_of_ble_eq_true rfl⟩ (by decide +kernel) ?_
  show Ev l d mi_X9_value 4 [some (.ref 0), some (.int p0)] [.int q1.1] (hp q1.2) 0 0 _
  refine Ev.if_eq (off := 31) (tgt := 35) (by decide +kernel) (by decide) (fun b2 => ?_) (fun b2 => ?_)
  · have hf := (if_pos b2).symm.trans hf
    refine Ev.blk (pc' := 38) [(.ldc2_w 253, (-1000000000000000), 0, 0)] (by decide +kernel) ⟨kl_9_253, trivial⟩ rfl (?_)
    show Ev l d mi_X9_value 38 [some (.ref 0), some (.int p0)] [.long (Int64.ofInt (-1000000000000000))] (hp q1.2) 0 0 _
    cases hf
    exact Ev.lret rfl (by decide +kernel) (Nat.le_refl _) (Nat.le_refl _)
  · have hf := (if_neg b2).symm.trans hf
    refine Ev.blk (pc' := 8) [(.iload_n 1, 0, 0, 0)] (by decide +kernel) trivial rfl (?_)
    show Ev l d mi_X9_value 8 [some (.ref 0), some (.int p0)] [.int p0] (hp q1.2) 0 0 _
    refine Ev.if_lt (off := 27) (tgt := 35) (by decide +kernel) (by decide) (fun b3 => ?_) (fun b3 => ?_)
    · have hf := (if_pos b3).symm.trans hf
      refine Ev.blk (pc' := 38) [(.ldc2_w 253, (-1000000000000000), 0, 0)] (by decide +kernel) ⟨kl_9_253, trivial⟩ rfl (?_)
      show Ev l d mi_X9_value 38 [some (.ref 0), some (.int p0)] [.long (Int64.ofInt (-1000000000000000))] (hp q1.2) 0 0 _
      cases hf
      exact Ev.lret rfl (by decide +kernel) (Nat.le_refl _) (Nat.le_refl _)
    · have hf := (if_neg b3).symm.trans hf
      refine Ev.blk (pc' := 13) [(.iload_n 1, 0, 0, 0), (.iconst 3, 0, 0, 0)] (by decide +kernel) trivial rfl (?_)
      show Ev l d mi_X9_value 13 [some (.ref 0), some (.int p0)] [.int (Int32.ofInt 3), .int p0] (hp q1.2) 0 0 _
      refine Ev.icmp_gt (off := 22) (tgt := 35) (by decide +kernel) (by decide) (fun b4 => ?_) (fun b4 => ?_)
      · have hf := (if_pos b4).symm.trans hf
        refine Ev.blk (pc' := 38) [(.ldc2_w 253, (-1000000000000000), 0, 0)] (by decide +kernel) ⟨kl_9_253, trivial⟩ rfl (?_)
        show Ev l d mi_X9_value 38 [some (.ref 0), some (.int p0)] [.long (Int64.ofInt (-1000000000000000))] (hp q1.2) 0 0 _
        cases hf
        exact Ev.lret rfl (by decide +kernel) (Nat.le_refl _) (Nat.le_refl _)
      · have hf := (if_neg b4).symm.trans hf
        refine Ev.blk (pc' := 28) [(.aload_n 0, 0, 0, 0), (.getfield 56, 0, 9, 6), (.aload_n 0, 0, 0, 0), (.getfield 56, 0, 9, 6), (.getfield 147, 0, 3, 2), (.iload_n 1, 0, 0, 0)] (by decide +kernel) ⟨kf_9_56, ⟨kf_9_56, ⟨kf_9_147, trivial⟩⟩⟩ rfl (And.intro (kc rfl rfl) (Exists.intro 36 (And.intro rfl (And.intro (kc rfl rfl) (Exists.intro 36 (And.intro rfl (And.intro (kc rfl rfl) (?_))))))))
        show Ev l d mi_X9_value 28 [some (.ref 0), some (.int p0)] [.int p0, .int (q1.2.1 36 2), .ref 36] (hp q1.2) 0 0 _
        obtain ⟨q5, hq5, hf⟩ := bd_some hf
        refine Ev.callV (o := 36) (M' := mi_X3_outlook) (d' := d - 1) (As := [.int (q1.2.1 36 2), .int p0]) (rest := []) (r' := (some (.int q5.1), hp q5.2)) (te_X3_outlook (d := d - 1) (by omega) 36 (q1.2.1 36 2) p0 q1.2 _ hq5) (by omega) wm_X3_outlook wi_X3_outlook wv_X3_outlook km_9_255 (kc rfl rfl) (Nat.le_of_ble_eq_true rfl) rfl rfl rfl (Nat.le_of_ble_eq_true rfl) ⟨Nat.le_of_ble_eq_true rfl, Nat.le_of_ble_eq_true rfl⟩ (by decide +kernel) ?_
        show Ev l d mi_X9_value 31 [some (.ref 0), some (.int p0)] [.int q5.1] (hp q5.2) 0 0 _
        refine Ev.blk (pc' := 32) [(.i2l, 0, 0, 0)] (by decide +kernel) trivial rfl (?_)
        show Ev l d mi_X9_value 32 [some (.ref 0), some (.int p0)] [.long (q5.1).toInt64] (hp q5.2) 0 0 _
        refine Ev.goto (off := 6) (tgt := 38) (by decide +kernel) (by decide) ?_
        cases hf
        exact Ev.lret rfl (by decide +kernel) (Nat.le_refl _) (Nat.le_refl _)
def f_X9_best (p0 : Int32) (s : ST) : Option (Int32 × ST) := (if p0 < (Int32.ofInt 1) then some ((Int32.ofInt (-1)), s) else (if (Int32.ofInt 3) < p0 then some ((Int32.ofInt (-1)), s) else (f_X3_bestMove 36 p0 s).bind (fun q3 => (f_X3_numberOf 36 q3.1 q3.2).bind (fun q4 => some (q4.1, q4.2)))))
set_option maxHeartbeats 2000000 in
set_option maxRecDepth 20000 in
theorem e_X9_best {l : Launch} {d : Nat} (hd : 25 ≤ d) (p0 : Int32) (s : ST) (r : Int32 × ST) (hf : f_X9_best p0 s = some r) : Cl l d mi_X9_best [.ref 0, .int p0] (hp s) (some (.int r.1), hp r.2) := by
  refine Ev.entry (by decide +kernel) rfl rfl ?_
  show Ev l d mi_X9_best 0 [some (.ref 0), some (.int p0)] [] (hp s) 0 0 _
  unfold f_X9_best at hf
  refine Ev.blk (pc' := 2) [(.iload_n 1, 0, 0, 0), (.iconst 1, 0, 0, 0)] (by decide +kernel) trivial rfl (?_)
  show Ev l d mi_X9_best 2 [some (.ref 0), some (.int p0)] [.int (Int32.ofInt 1), .int p0] (hp s) 0 0 _
  refine Ev.icmp_lt (off := 26) (tgt := 28) (by decide +kernel) (by decide) (fun b1 => ?_) (fun b1 => ?_)
  · have hf := (if_pos b1).symm.trans hf
    refine Ev.blk (pc' := 29) [(.iconst (-1), 0, 0, 0)] (by decide +kernel) trivial rfl (?_)
    show Ev l d mi_X9_best 29 [some (.ref 0), some (.int p0)] [.int (Int32.ofInt (-1))] (hp s) 0 0 _
    cases hf
    exact Ev.iret .int rfl rfl (by decide +kernel) (Nat.le_refl _) (Nat.le_refl _)
  · have hf := (if_neg b1).symm.trans hf
    refine Ev.blk (pc' := 7) [(.iload_n 1, 0, 0, 0), (.iconst 3, 0, 0, 0)] (by decide +kernel) trivial rfl (?_)
    show Ev l d mi_X9_best 7 [some (.ref 0), some (.int p0)] [.int (Int32.ofInt 3), .int p0] (hp s) 0 0 _
    refine Ev.icmp_gt (off := 21) (tgt := 28) (by decide +kernel) (by decide) (fun b2 => ?_) (fun b2 => ?_)
    · have hf := (if_pos b2).symm.trans hf
      refine Ev.blk (pc' := 29) [(.iconst (-1), 0, 0, 0)] (by decide +kernel) trivial rfl (?_)
      show Ev l d mi_X9_best 29 [some (.ref 0), some (.int p0)] [.int (Int32.ofInt (-1))] (hp s) 0 0 _
      cases hf
      exact Ev.iret .int rfl rfl (by decide +kernel) (Nat.le_refl _) (Nat.le_refl _)
    · have hf := (if_neg b2).symm.trans hf
      refine Ev.blk (pc' := 19) [(.aload_n 0, 0, 0, 0), (.getfield 56, 0, 9, 6), (.aload_n 0, 0, 0, 0), (.getfield 56, 0, 9, 6), (.iload_n 1, 0, 0, 0)] (by decide +kernel) ⟨kf_9_56, ⟨kf_9_56, trivial⟩⟩ rfl (And.intro (kc rfl rfl) (Exists.intro 36 (And.intro rfl (And.intro (kc rfl rfl) (Exists.intro 36 (And.intro rfl (?_)))))))
      show Ev l d mi_X9_best 19 [some (.ref 0), some (.int p0)] [.int p0, .ref 36, .ref 36] (hp s) 0 0 _
      obtain ⟨q3, hq3, hf⟩ := bd_some hf
      refine Ev.callV (o := 36) (M' := mi_X3_bestMove) (d' := d - 1) (As := [.int p0]) (rest := [.ref 36]) (r' := (some (.int q3.1), hp q3.2)) (e_X3_bestMove (d := d - 1) (by omega) 36 p0 s _ hq3) (by omega) wm_X3_bestMove wi_X3_bestMove wv_X3_bestMove km_9_258 (kc rfl rfl) (Nat.le_of_ble_eq_true rfl) rfl rfl rfl (Nat.le_of_ble_eq_true rfl) ⟨Nat.le_of_ble_eq_true rfl, Nat.le_of_ble_eq_true rfl⟩ (by decide +kernel) ?_
      show Ev l d mi_X9_best 22 [some (.ref 0), some (.int p0)] [.int q3.1, .ref 36] (hp q3.2) 0 0 _
      obtain ⟨q4, hq4, hf⟩ := bd_some hf
      refine Ev.callV (o := 36) (M' := mi_X3_numberOf) (d' := d - 1) (As := [.int q3.1]) (rest := []) (r' := (some (.int q4.1), hp q4.2)) (e_X3_numberOf (d := d - 1) (by omega) 36 q3.1 q3.2 _ hq4) (by omega) wm_X3_numberOf wi_X3_numberOf wv_X3_numberOf km_9_261 (kc rfl rfl) (Nat.le_of_ble_eq_true rfl) rfl rfl rfl (Nat.le_of_ble_eq_true rfl) ⟨Nat.le_of_ble_eq_true rfl, Nat.le_of_ble_eq_true rfl⟩ (by decide +kernel) ?_
      show Ev l d mi_X9_best 25 [some (.ref 0), some (.int p0)] [.int q4.1] (hp q4.2) 0 0 _
      refine Ev.goto (off := 4) (tgt := 29) (by decide +kernel) (by decide) ?_
      cases hf
      exact Ev.iret .int rfl rfl (by decide +kernel) (Nat.le_refl _) (Nat.le_refl _)
def f_X9_forced (s : ST) : Option (Int32 × ST) := (f_X3_forcedBy 36 s).bind (fun q1 => some (q1.1, q1.2))
set_option maxHeartbeats 2000000 in
set_option maxRecDepth 20000 in
theorem e_X9_forced {l : Launch} {d : Nat} (hd : 7 ≤ d) (s : ST) (r : Int32 × ST) (hf : f_X9_forced s = some r) : Cl l d mi_X9_forced [.ref 0] (hp s) (some (.int r.1), hp r.2) := by
  refine Ev.entry (by decide +kernel) rfl rfl ?_
  show Ev l d mi_X9_forced 0 [some (.ref 0)] [] (hp s) 0 0 _
  unfold f_X9_forced at hf
  refine Ev.blk (pc' := 4) [(.aload_n 0, 0, 0, 0), (.getfield 56, 0, 9, 6)] (by decide +kernel) ⟨kf_9_56, trivial⟩ rfl (And.intro (kc rfl rfl) (Exists.intro 36 (And.intro rfl (?_))))
  show Ev l d mi_X9_forced 4 [some (.ref 0)] [.ref 36] (hp s) 0 0 _
  obtain ⟨q1, hq1, hf⟩ := bd_some hf
  refine Ev.callV (o := 36) (M' := mi_X3_forcedBy) (d' := d - 1) (As := []) (rest := []) (r' := (some (.int q1.1), hp q1.2)) (e_X3_forcedBy (d := d - 1) (by omega) 36 s _ hq1) (by omega) wm_X3_forcedBy wi_X3_forcedBy wv_X3_forcedBy km_9_264 (kc rfl rfl) (Nat.le_of_ble_eq_true rfl) rfl rfl rfl (Nat.le_of_ble_eq_true rfl) ⟨Nat.le_of_ble_eq_true rfl, Nat.le_of_ble_eq_true rfl⟩ (by decide +kernel) ?_
  show Ev l d mi_X9_forced 7 [some (.ref 0)] [.int q1.1] (hp q1.2) 0 0 _
  cases hf
  exact Ev.iret .int rfl rfl (by decide +kernel) (Nat.le_refl _) (Nat.le_refl _)
def f_X9_canCome (p0 : Int32) (p1 : Int32) (p2 : Int32) (s : ST) : Option (Int32 × ST) := (f_X9_isTold s).bind (fun q1 => (if q1.1 = 0 then some ((Int32.ofInt 0), q1.2) else (if p0 < p1 then some ((Int32.ofInt 0), q1.2) else (if p2 < p0 then some ((Int32.ofInt 0), q1.2) else (if ((Int16.ofInt 999).toInt32) < ((q1.2.1 36 1) + p0) then some ((Int32.ofInt 0), q1.2) else some ((Int32.ofInt 1), q1.2))))))
set_option maxHeartbeats 2000000 in
set_option maxRecDepth 20000 in
theorem e_X9_canCome {l : Launch} {d : Nat} (hd : 2 ≤ d) (p0 : Int32) (p1 : Int32) (p2 : Int32) (s : ST) (r : Int32 × ST) (hf : f_X9_canCome p0 p1 p2 s = some r) : Cl l d mi_X9_canCome [.ref 0, .int p0, .int p1, .int p2] (hp s) (some (.int r.1), hp r.2) := by
  refine Ev.entry (by decide +kernel) rfl rfl ?_
  show Ev l d mi_X9_canCome 0 [some (.ref 0), some (.int p0), some (.int p1), some (.int p2)] [] (hp s) 0 0 _
  unfold f_X9_canCome at hf
  refine Ev.blk (pc' := 1) [(.aload_n 0, 0, 0, 0)] (by decide +kernel) trivial rfl (?_)
  show Ev l d mi_X9_canCome 1 [some (.ref 0), some (.int p0), some (.int p1), some (.int p2)] [.ref 0] (hp s) 0 0 _
  obtain ⟨q1, hq1, hf⟩ := bd_some hf
  refine Ev.callV (o := 0) (M' := mi_X9_isTold) (d' := d - 1) (As := []) (rest := []) (r' := (some (.int q1.1), hp q1.2)) (e_X9_isTold (d := d - 1) (by omega) s _ hq1) (by omega) wm_X9_isTold wi_X9_isTold wv_X9_isTold km_9_150 (kc rfl rfl) (Nat.le_of_ble_eq_true rfl) rfl rfl rfl (Nat.le_of_ble_eq_true rfl) ⟨Nat.le_of_ble_eq_true rfl, Nat.le_of_ble_eq_true rfl⟩ (by decide +kernel) ?_
  show Ev l d mi_X9_canCome 4 [some (.ref 0), some (.int p0), some (.int p1), some (.int p2)] [.int q1.1] (hp q1.2) 0 0 _
  refine Ev.if_eq (off := 32) (tgt := 36) (by decide +kernel) (by decide) (fun b2 => ?_) (fun b2 => ?_)
  · have hf := (if_pos b2).symm.trans hf
    refine Ev.blk (pc' := 37) [(.iconst 0, 0, 0, 0)] (by decide +kernel) trivial rfl (?_)
    show Ev l d mi_X9_canCome 37 [some (.ref 0), some (.int p0), some (.int p1), some (.int p2)] [.int (Int32.ofInt 0)] (hp q1.2) 0 0 _
    cases hf
    exact Ev.iret .boolean rfl rfl (by decide +kernel) (Nat.le_refl _) (Nat.le_refl _)
  · have hf := (if_neg b2).symm.trans hf
    refine Ev.blk (pc' := 9) [(.iload_n 1, 0, 0, 0), (.iload_n 2, 0, 0, 0)] (by decide +kernel) trivial rfl (?_)
    show Ev l d mi_X9_canCome 9 [some (.ref 0), some (.int p0), some (.int p1), some (.int p2)] [.int p1, .int p0] (hp q1.2) 0 0 _
    refine Ev.icmp_lt (off := 27) (tgt := 36) (by decide +kernel) (by decide) (fun b3 => ?_) (fun b3 => ?_)
    · have hf := (if_pos b3).symm.trans hf
      refine Ev.blk (pc' := 37) [(.iconst 0, 0, 0, 0)] (by decide +kernel) trivial rfl (?_)
      show Ev l d mi_X9_canCome 37 [some (.ref 0), some (.int p0), some (.int p1), some (.int p2)] [.int (Int32.ofInt 0)] (hp q1.2) 0 0 _
      cases hf
      exact Ev.iret .boolean rfl rfl (by decide +kernel) (Nat.le_refl _) (Nat.le_refl _)
    · have hf := (if_neg b3).symm.trans hf
      refine Ev.blk (pc' := 14) [(.iload_n 1, 0, 0, 0), (.iload_n 3, 0, 0, 0)] (by decide +kernel) trivial rfl (?_)
      show Ev l d mi_X9_canCome 14 [some (.ref 0), some (.int p0), some (.int p1), some (.int p2)] [.int p2, .int p0] (hp q1.2) 0 0 _
      refine Ev.icmp_gt (off := 22) (tgt := 36) (by decide +kernel) (by decide) (fun b4 => ?_) (fun b4 => ?_)
      · have hf := (if_pos b4).symm.trans hf
        refine Ev.blk (pc' := 37) [(.iconst 0, 0, 0, 0)] (by decide +kernel) trivial rfl (?_)
        show Ev l d mi_X9_canCome 37 [some (.ref 0), some (.int p0), some (.int p1), some (.int p2)] [.int (Int32.ofInt 0)] (hp q1.2) 0 0 _
        cases hf
        exact Ev.iret .boolean rfl rfl (by decide +kernel) (Nat.le_refl _) (Nat.le_refl _)
      · have hf := (if_neg b4).symm.trans hf
        refine Ev.blk (pc' := 29) [(.aload_n 0, 0, 0, 0), (.getfield 56, 0, 9, 6), (.getfield 144, 0, 3, 1), (.iload_n 1, 0, 0, 0), (.iadd, 0, 0, 0), (.sipush 999, 0, 0, 0)] (by decide +kernel) ⟨kf_9_56, ⟨kf_9_144, trivial⟩⟩ rfl (And.intro (kc rfl rfl) (Exists.intro 36 (And.intro rfl (And.intro (kc rfl rfl) (?_)))))
        show Ev l d mi_X9_canCome 29 [some (.ref 0), some (.int p0), some (.int p1), some (.int p2)] [.int ((Int16.ofInt 999).toInt32), .int ((q1.2.1 36 1) + p0)] (hp q1.2) 0 0 _
        refine Ev.icmp_gt (off := 7) (tgt := 36) (by decide +kernel) (by decide) (fun b5 => ?_) (fun b5 => ?_)
        · have hf := (if_pos b5).symm.trans hf
          refine Ev.blk (pc' := 37) [(.iconst 0, 0, 0, 0)] (by decide +kernel) trivial rfl (?_)
          show Ev l d mi_X9_canCome 37 [some (.ref 0), some (.int p0), some (.int p1), some (.int p2)] [.int (Int32.ofInt 0)] (hp q1.2) 0 0 _
          cases hf
          exact Ev.iret .boolean rfl rfl (by decide +kernel) (Nat.le_refl _) (Nat.le_refl _)
        · have hf := (if_neg b5).symm.trans hf
          refine Ev.blk (pc' := 33) [(.iconst 1, 0, 0, 0)] (by decide +kernel) trivial rfl (?_)
          show Ev l d mi_X9_canCome 33 [some (.ref 0), some (.int p0), some (.int p1), some (.int p2)] [.int (Int32.ofInt 1)] (hp q1.2) 0 0 _
          refine Ev.goto (off := 4) (tgt := 37) (by decide +kernel) (by decide) ?_
          cases hf
          exact Ev.iret .boolean rfl rfl (by decide +kernel) (Nat.le_refl _) (Nat.le_refl _)
def f_X9_later (p0 : Int32) (p1 : Int32) (s : ST) : Option (Int32 × ST) := (if p1 < 0 then some ((Int32.ofInt (-1)), s) else (if (Int32.ofInt 3) < p1 then some ((Int32.ofInt (-1)), s) else (f_X9_canCome p0 (Int32.ofInt 0) ((Int8.ofInt 20).toInt32) s).bind (fun q3 => (if q3.1 = 0 then some ((Int32.ofInt (-1)), q3.2) else (f_X3_copy 46 36 q3.2).bind (fun q5 => (f_X3_passDays 46 p0 q5).bind (fun q6 => (if p1 = 0 then (f_X3_menOf 46 (Int32.ofInt 0) q6).bind (fun q8 => some (q8.1, q8.2)) else (if p1 = 1 then (f_X3_menOf 46 (Int32.ofInt 1) q6).bind (fun q10 => some (q10.1, q10.2)) else (if p1 = 2 then (f_X3_borne 46 q6).bind (fun q12 => some (q12.1, q12.2)) else ((f_X3_isOver 46 q6).bind (fun q13 => (if q13.1 = 0 then some ((Int32.ofInt 0), q13.2) else some ((Int32.ofInt 1), q13.2)))))))))))))
set_option maxHeartbeats 2000000 in
set_option maxRecDepth 20000 in
theorem e_X9_later {l : Launch} {d : Nat} (hd : 26 ≤ d) (p0 : Int32) (p1 : Int32) (s : ST) (r : Int32 × ST) (hf : f_X9_later p0 p1 s = some r) : Cl l d mi_X9_later [.ref 0, .int p0, .int p1] (hp s) (some (.int r.1), hp r.2) := by
  refine Ev.entry (by decide +kernel) rfl rfl ?_
  show Ev l d mi_X9_later 0 [some (.ref 0), some (.int p0), some (.int p1)] [] (hp s) 0 0 _
  unfold f_X9_later at hf
  refine Ev.blk (pc' := 1) [(.iload_n 2, 0, 0, 0)] (by decide +kernel) trivial rfl (?_)
  show Ev l d mi_X9_later 1 [some (.ref 0), some (.int p0), some (.int p1)] [.int p1] (hp s) 0 0 _
  refine Ev.if_lt (off := 19) (tgt := 20) (by decide +kernel) (by decide) (fun b1 => ?_) (fun b1 => ?_)
  · have hf := (if_pos b1).symm.trans hf
    refine Ev.blk (pc' := 21) [(.iconst (-1), 0, 0, 0)] (by decide +kernel) trivial rfl (?_)
    show Ev l d mi_X9_later 21 [some (.ref 0), some (.int p0), some (.int p1)] [.int (Int32.ofInt (-1))] (hp s) 0 0 _
    cases hf
    exact Ev.iret .int rfl rfl (by decide +kernel) (Nat.le_refl _) (Nat.le_refl _)
  · have hf := (if_neg b1).symm.trans hf
    refine Ev.blk (pc' := 6) [(.iload_n 2, 0, 0, 0), (.iconst 3, 0, 0, 0)] (by decide +kernel) trivial rfl (?_)
    show Ev l d mi_X9_later 6 [some (.ref 0), some (.int p0), some (.int p1)] [.int (Int32.ofInt 3), .int p1] (hp s) 0 0 _
    refine Ev.icmp_gt (off := 14) (tgt := 20) (by decide +kernel) (by decide) (fun b2 => ?_) (fun b2 => ?_)
    · have hf := (if_pos b2).symm.trans hf
      refine Ev.blk (pc' := 21) [(.iconst (-1), 0, 0, 0)] (by decide +kernel) trivial rfl (?_)
      show Ev l d mi_X9_later 21 [some (.ref 0), some (.int p0), some (.int p1)] [.int (Int32.ofInt (-1))] (hp s) 0 0 _
      cases hf
      exact Ev.iret .int rfl rfl (by decide +kernel) (Nat.le_refl _) (Nat.le_refl _)
    · have hf := (if_neg b2).symm.trans hf
      refine Ev.blk (pc' := 14) [(.aload_n 0, 0, 0, 0), (.iload_n 1, 0, 0, 0), (.iconst 0, 0, 0, 0), (.bipush 20, 0, 0, 0)] (by decide +kernel) trivial rfl (?_)
      show Ev l d mi_X9_later 14 [some (.ref 0), some (.int p0), some (.int p1)] [.int ((Int8.ofInt 20).toInt32), .int (Int32.ofInt 0), .int p0, .ref 0] (hp s) 0 0 _
      obtain ⟨q3, hq3, hf⟩ := bd_some hf
      refine Ev.callV (o := 0) (M' := mi_X9_canCome) (d' := d - 1) (As := [.int p0, .int (Int32.ofInt 0), .int ((Int8.ofInt 20).toInt32)]) (rest := []) (r' := (some (.int q3.1), hp q3.2)) (e_X9_canCome (d := d - 1) (by omega) p0 (Int32.ofInt 0) ((Int8.ofInt 20).toInt32) s _ hq3) (by omega) wm_X9_canCome wi_X9_canCome wv_X9_canCome km_9_267 (kc rfl rfl) (Nat.le_of_ble_eq_true rfl) rfl rfl rfl (Nat.le_of_ble_eq_true rfl) ⟨Nat.le_of_ble_eq_true rfl, Nat.le_of_ble_eq_true rfl⟩ (by decide +kernel) ?_
      show Ev l d mi_X9_later 17 [some (.ref 0), some (.int p0), some (.int p1)] [.int q3.1] (hp q3.2) 0 0 _
      refine Ev.if_ne (off := 5) (tgt := 22) (by decide +kernel) (by decide) (fun b4 => ?_) (fun b4 => ?_)
      · have hf := (if_neg b4).symm.trans hf
        refine Ev.blk (pc' := 30) [(.aload_n 0, 0, 0, 0), (.getfield 60, 0, 9, 7), (.aload_n 0, 0, 0, 0), (.getfield 56, 0, 9, 6)] (by decide +kernel) ⟨kf_9_60, ⟨kf_9_56, trivial⟩⟩ rfl (And.intro (kc rfl rfl) (Exists.intro 46 (And.intro rfl (And.intro (kc rfl rfl) (Exists.intro 36 (And.intro rfl (?_)))))))
        show Ev l d mi_X9_later 30 [some (.ref 0), some (.int p0), some (.int p1)] [.ref 36, .ref 46] (hp q3.2) 0 0 _
        obtain ⟨q5, hq5, hf⟩ := bd_some hf
        refine Ev.callV (o := 46) (M' := mi_X3_copy) (d' := d - 1) (As := [.ref 36]) (rest := []) (r' := (none, hp q5)) (e_X3_copy (d := d - 1) (by omega) 46 36 q3.2 _ hq5) (by omega) wm_X3_copy wi_X3_copy wv_X3_copy km_9_235 (kc rfl rfl) (Nat.le_of_ble_eq_true rfl) rfl rfl rfl (Nat.le_of_ble_eq_true rfl) ⟨Nat.le_of_ble_eq_true rfl, Nat.le_of_ble_eq_true rfl⟩ (by decide +kernel) ?_
        show Ev l d mi_X9_later 33 [some (.ref 0), some (.int p0), some (.int p1)] [] (hp q5) 0 0 _
        refine Ev.blk (pc' := 38) [(.aload_n 0, 0, 0, 0), (.getfield 60, 0, 9, 7), (.iload_n 1, 0, 0, 0)] (by decide +kernel) ⟨kf_9_60, trivial⟩ rfl (And.intro (kc rfl rfl) (Exists.intro 46 (And.intro rfl (?_))))
        show Ev l d mi_X9_later 38 [some (.ref 0), some (.int p0), some (.int p1)] [.int p0, .ref 46] (hp q5) 0 0 _
        obtain ⟨q6, hq6, hf⟩ := bd_some hf
        refine Ev.callV (o := 46) (M' := mi_X3_passDays) (d' := d - 1) (As := [.int p0]) (rest := []) (r' := (none, hp q6)) (e_X3_passDays (d := d - 1) (by omega) 46 p0 q5 _ hq6) (by omega) wm_X3_passDays wi_X3_passDays wv_X3_passDays km_9_271 (kc rfl rfl) (Nat.le_of_ble_eq_true rfl) rfl rfl rfl (Nat.le_of_ble_eq_true rfl) ⟨Nat.le_of_ble_eq_true rfl, Nat.le_of_ble_eq_true rfl⟩ (by decide +kernel) ?_
        show Ev l d mi_X9_later 41 [some (.ref 0), some (.int p0), some (.int p1)] [] (hp q6) 0 0 _
        refine Ev.blk (pc' := 42) [(.iload_n 2, 0, 0, 0)] (by decide +kernel) trivial rfl (?_)
        show Ev l d mi_X9_later 42 [some (.ref 0), some (.int p0), some (.int p1)] [.int p1] (hp q6) 0 0 _
        by_cases b7 : p1 = 0
        · have hf := (if_pos b7).symm.trans hf
          refine Ev.tswitch (dflt := 52) (lo := 0) (hi := 2) (offs := #[26, 35, 44]) (len := 26) (tgt := 68) (by decide +kernel) (by rw [b7]; decide) (by decide) ?_
          refine Ev.blk (pc' := 73) [(.aload_n 0, 0, 0, 0), (.getfield 60, 0, 9, 7), (.iconst 0, 0, 0, 0)] (by decide +kernel) ⟨kf_9_60, trivial⟩ rfl (And.intro (kc rfl rfl) (Exists.intro 46 (And.intro rfl (?_))))
          show Ev l d mi_X9_later 73 [some (.ref 0), some (.int p0), some (.int p1)] [.int (Int32.ofInt 0), .ref 46] (hp q6) 0 0 _
          obtain ⟨q8, hq8, hf⟩ := bd_some hf
          refine Ev.callV (o := 46) (M' := mi_X3_menOf) (d' := d - 1) (As := [.int (Int32.ofInt 0)]) (rest := []) (r' := (some (.int q8.1), hp q8.2)) (e_X3_menOf (d := d - 1) (by omega) 46 (Int32.ofInt 0) q6 _ hq8) (by omega) wm_X3_menOf wi_X3_menOf wv_X3_menOf km_9_157 (kc rfl rfl) (Nat.le_of_ble_eq_true rfl) rfl rfl rfl (Nat.le_of_ble_eq_true rfl) ⟨Nat.le_of_ble_eq_true rfl, Nat.le_of_ble_eq_true rfl⟩ (by decide +kernel) ?_
          show Ev l d mi_X9_later 76 [some (.ref 0), some (.int p0), some (.int p1)] [.int q8.1] (hp q8.2) 0 0 _
          cases hf
          exact Ev.iret .int rfl rfl (by decide +kernel) (Nat.le_refl _) (Nat.le_refl _)
        · have hf := (if_neg b7).symm.trans hf
          by_cases b9 : p1 = 1
          · have hf := (if_pos b9).symm.trans hf
            refine Ev.tswitch (dflt := 52) (lo := 0) (hi := 2) (offs := #[26, 35, 44]) (len := 26) (tgt := 77) (by decide +kernel) (by rw [b9]; decide) (by decide) ?_
            refine Ev.blk (pc' := 82) [(.aload_n 0, 0, 0, 0), (.getfield 60, 0, 9, 7), (.iconst 1, 0, 0, 0)] (by decide +kernel) ⟨kf_9_60, trivial⟩ rfl (And.intro (kc rfl rfl) (Exists.intro 46 (And.intro rfl (?_))))
            show Ev l d mi_X9_later 82 [some (.ref 0), some (.int p0), some (.int p1)] [.int (Int32.ofInt 1), .ref 46] (hp q6) 0 0 _
            obtain ⟨q10, hq10, hf⟩ := bd_some hf
            refine Ev.callV (o := 46) (M' := mi_X3_menOf) (d' := d - 1) (As := [.int (Int32.ofInt 1)]) (rest := []) (r' := (some (.int q10.1), hp q10.2)) (e_X3_menOf (d := d - 1) (by omega) 46 (Int32.ofInt 1) q6 _ hq10) (by omega) wm_X3_menOf wi_X3_menOf wv_X3_menOf km_9_157 (kc rfl rfl) (Nat.le_of_ble_eq_true rfl) rfl rfl rfl (Nat.le_of_ble_eq_true rfl) ⟨Nat.le_of_ble_eq_true rfl, Nat.le_of_ble_eq_true rfl⟩ (by decide +kernel) ?_
            show Ev l d mi_X9_later 85 [some (.ref 0), some (.int p0), some (.int p1)] [.int q10.1] (hp q10.2) 0 0 _
            cases hf
            exact Ev.iret .int rfl rfl (by decide +kernel) (Nat.le_refl _) (Nat.le_refl _)
          · have hf := (if_neg b9).symm.trans hf
            by_cases b11 : p1 = 2
            · have hf := (if_pos b11).symm.trans hf
              refine Ev.tswitch (dflt := 52) (lo := 0) (hi := 2) (offs := #[26, 35, 44]) (len := 26) (tgt := 86) (by decide +kernel) (by rw [b11]; decide) (by decide) ?_
              refine Ev.blk (pc' := 90) [(.aload_n 0, 0, 0, 0), (.getfield 60, 0, 9, 7)] (by decide +kernel) ⟨kf_9_60, trivial⟩ rfl (And.intro (kc rfl rfl) (Exists.intro 46 (And.intro rfl (?_))))
              show Ev l d mi_X9_later 90 [some (.ref 0), some (.int p0), some (.int p1)] [.ref 46] (hp q6) 0 0 _
              obtain ⟨q12, hq12, hf⟩ := bd_some hf
              refine Ev.callV (o := 46) (M' := mi_X3_borne) (d' := d - 1) (As := []) (rest := []) (r' := (some (.int q12.1), hp q12.2)) (e_X3_borne (d := d - 1) (by omega) 46 q6 _ hq12) (by omega) wm_X3_borne wi_X3_borne wv_X3_borne km_9_160 (kc rfl rfl) (Nat.le_of_ble_eq_true rfl) rfl rfl rfl (Nat.le_of_ble_eq_true rfl) ⟨Nat.le_of_ble_eq_true rfl, Nat.le_of_ble_eq_true rfl⟩ (by decide +kernel) ?_
              show Ev l d mi_X9_later 93 [some (.ref 0), some (.int p0), some (.int p1)] [.int q12.1] (hp q12.2) 0 0 _
              cases hf
              exact Ev.iret .int rfl rfl (by decide +kernel) (Nat.le_refl _) (Nat.le_refl _)
            · have hf := (if_neg b11).symm.trans hf
              refine Ev.tswitch (dflt := 52) (lo := 0) (hi := 2) (offs := #[26, 35, 44]) (len := 26) (tgt := 94) (by decide +kernel) (by have e0 := sw_ne b7 (c := (0)) (by decide); have e1 := sw_ne b9 (c := (1)) (by decide); have e2 := sw_ne b11 (c := (2)) (by decide); rw [if_pos (by omega)]; decide) (by decide) ?_
              refine Ev.blk (pc' := 98) [(.aload_n 0, 0, 0, 0), (.getfield 60, 0, 9, 7)] (by decide +kernel) ⟨kf_9_60, trivial⟩ rfl (And.intro (kc rfl rfl) (Exists.intro 46 (And.intro rfl (?_))))
              show Ev l d mi_X9_later 98 [some (.ref 0), some (.int p0), some (.int p1)] [.ref 46] (hp q6) 0 0 _
              obtain ⟨q13, hq13, hf⟩ := bd_some hf
              refine Ev.callV (o := 46) (M' := mi_X3_isOver) (d' := d - 1) (As := []) (rest := []) (r' := (some (.int q13.1), hp q13.2)) (e_X3_isOver (d := d - 1) (by omega) 46 q6 _ hq13) (by omega) wm_X3_isOver wi_X3_isOver wv_X3_isOver km_9_154 (kc rfl rfl) (Nat.le_of_ble_eq_true rfl) rfl rfl rfl (Nat.le_of_ble_eq_true rfl) ⟨Nat.le_of_ble_eq_true rfl, Nat.le_of_ble_eq_true rfl⟩ (by decide +kernel) ?_
              show Ev l d mi_X9_later 101 [some (.ref 0), some (.int p0), some (.int p1)] [.int q13.1] (hp q13.2) 0 0 _
              refine Ev.if_eq (off := 7) (tgt := 108) (by decide +kernel) (by decide) (fun b14 => ?_) (fun b14 => ?_)
              · have hf := (if_pos b14).symm.trans hf
                refine Ev.blk (pc' := 109) [(.iconst 0, 0, 0, 0)] (by decide +kernel) trivial rfl (?_)
                show Ev l d mi_X9_later 109 [some (.ref 0), some (.int p0), some (.int p1)] [.int (Int32.ofInt 0)] (hp q13.2) 0 0 _
                cases hf
                exact Ev.iret .int rfl rfl (by decide +kernel) (Nat.le_refl _) (Nat.le_refl _)
              · have hf := (if_neg b14).symm.trans hf
                refine Ev.blk (pc' := 105) [(.iconst 1, 0, 0, 0)] (by decide +kernel) trivial rfl (?_)
                show Ev l d mi_X9_later 105 [some (.ref 0), some (.int p0), some (.int p1)] [.int (Int32.ofInt 1)] (hp q13.2) 0 0 _
                refine Ev.goto (off := 4) (tgt := 109) (by decide +kernel) (by decide) ?_
                cases hf
                exact Ev.iret .int rfl rfl (by decide +kernel) (Nat.le_refl _) (Nat.le_refl _)
      · have hf := (if_pos b4).symm.trans hf
        refine Ev.blk (pc' := 21) [(.iconst (-1), 0, 0, 0)] (by decide +kernel) trivial rfl (?_)
        show Ev l d mi_X9_later 21 [some (.ref 0), some (.int p0), some (.int p1)] [.int (Int32.ofInt (-1))] (hp q3.2) 0 0 _
        cases hf
        exact Ev.iret .int rfl rfl (by decide +kernel) (Nat.le_refl _) (Nat.le_refl _)
def f_X9_crop (p0 : Int32) (p1 : Int32) (s : ST) : Option (Int32 × ST) := (f_X9_isField p0 s).bind (fun q1 => (if q1.1 = 0 then some ((Int32.ofInt (-1)), q1.2) else (f_X9_canCome p1 (Int32.ofInt 0) ((Int8.ofInt 20).toInt32) q1.2).bind (fun q3 => (if q3.1 = 0 then some ((Int32.ofInt (-1)), q3.2) else (f_X3_copy 46 36 q3.2).bind (fun q5 => (f_X3_passDays 46 p1 q5).bind (fun q6 => gd (ib p0 6) (some ((q6.1 49 p0.toNatClampNeg), q6))))))))
set_option maxHeartbeats 2000000 in
set_option maxRecDepth 20000 in
theorem e_X9_crop {l : Launch} {d : Nat} (hd : 26 ≤ d) (p0 : Int32) (p1 : Int32) (s : ST) (r : Int32 × ST) (hf : f_X9_crop p0 p1 s = some r) : Cl l d mi_X9_crop [.ref 0, .int p0, .int p1] (hp s) (some (.int r.1), hp r.2) := by
  refine Ev.entry (by decide +kernel) rfl rfl ?_
  show Ev l d mi_X9_crop 0 [some (.ref 0), some (.int p0), some (.int p1)] [] (hp s) 0 0 _
  unfold f_X9_crop at hf
  refine Ev.blk (pc' := 2) [(.aload_n 0, 0, 0, 0), (.iload_n 1, 0, 0, 0)] (by decide +kernel) trivial rfl (?_)
  show Ev l d mi_X9_crop 2 [some (.ref 0), some (.int p0), some (.int p1)] [.int p0, .ref 0] (hp s) 0 0 _
  obtain ⟨q1, hq1, hf⟩ := bd_some hf
  refine Ev.callV (o := 0) (M' := mi_X9_isField) (d' := d - 1) (As := [.int p0]) (rest := []) (r' := (some (.int q1.1), hp q1.2)) (e_X9_isField (d := d - 1) (by omega) p0 s _ hq1) (by omega) wm_X9_isField wi_X9_isField wv_X9_isField km_9_206 (kc rfl rfl) (Nat.le_of_ble_eq_true rfl) rfl rfl rfl (Nat.le_of_ble_eq_true rfl) ⟨Nat.le_of_ble_eq_true rfl, Nat.le_of_ble_eq_true rfl⟩ (by decide +kernel) ?_
  show Ev l d mi_X9_crop 5 [some (.ref 0), some (.int p0), some (.int p1)] [.int q1.1] (hp q1.2) 0 0 _
  refine Ev.if_eq (off := 14) (tgt := 19) (by decide +kernel) (by decide) (fun b2 => ?_) (fun b2 => ?_)
  · have hf := (if_pos b2).symm.trans hf
    refine Ev.blk (pc' := 20) [(.iconst (-1), 0, 0, 0)] (by decide +kernel) trivial rfl (?_)
    show Ev l d mi_X9_crop 20 [some (.ref 0), some (.int p0), some (.int p1)] [.int (Int32.ofInt (-1))] (hp q1.2) 0 0 _
    cases hf
    exact Ev.iret .int rfl rfl (by decide +kernel) (Nat.le_refl _) (Nat.le_refl _)
  · have hf := (if_neg b2).symm.trans hf
    refine Ev.blk (pc' := 13) [(.aload_n 0, 0, 0, 0), (.iload_n 2, 0, 0, 0), (.iconst 0, 0, 0, 0), (.bipush 20, 0, 0, 0)] (by decide +kernel) trivial rfl (?_)
    show Ev l d mi_X9_crop 13 [some (.ref 0), some (.int p0), some (.int p1)] [.int ((Int8.ofInt 20).toInt32), .int (Int32.ofInt 0), .int p1, .ref 0] (hp q1.2) 0 0 _
    obtain ⟨q3, hq3, hf⟩ := bd_some hf
    refine Ev.callV (o := 0) (M' := mi_X9_canCome) (d' := d - 1) (As := [.int p1, .int (Int32.ofInt 0), .int ((Int8.ofInt 20).toInt32)]) (rest := []) (r' := (some (.int q3.1), hp q3.2)) (e_X9_canCome (d := d - 1) (by omega) p1 (Int32.ofInt 0) ((Int8.ofInt 20).toInt32) q1.2 _ hq3) (by omega) wm_X9_canCome wi_X9_canCome wv_X9_canCome km_9_267 (kc rfl rfl) (Nat.le_of_ble_eq_true rfl) rfl rfl rfl (Nat.le_of_ble_eq_true rfl) ⟨Nat.le_of_ble_eq_true rfl, Nat.le_of_ble_eq_true rfl⟩ (by decide +kernel) ?_
    show Ev l d mi_X9_crop 16 [some (.ref 0), some (.int p0), some (.int p1)] [.int q3.1] (hp q3.2) 0 0 _
    refine Ev.if_ne (off := 5) (tgt := 21) (by decide +kernel) (by decide) (fun b4 => ?_) (fun b4 => ?_)
    · have hf := (if_neg b4).symm.trans hf
      refine Ev.blk (pc' := 29) [(.aload_n 0, 0, 0, 0), (.getfield 60, 0, 9, 7), (.aload_n 0, 0, 0, 0), (.getfield 56, 0, 9, 6)] (by decide +kernel) ⟨kf_9_60, ⟨kf_9_56, trivial⟩⟩ rfl (And.intro (kc rfl rfl) (Exists.intro 46 (And.intro rfl (And.intro (kc rfl rfl) (Exists.intro 36 (And.intro rfl (?_)))))))
      show Ev l d mi_X9_crop 29 [some (.ref 0), some (.int p0), some (.int p1)] [.ref 36, .ref 46] (hp q3.2) 0 0 _
      obtain ⟨q5, hq5, hf⟩ := bd_some hf
      refine Ev.callV (o := 46) (M' := mi_X3_copy) (d' := d - 1) (As := [.ref 36]) (rest := []) (r' := (none, hp q5)) (e_X3_copy (d := d - 1) (by omega) 46 36 q3.2 _ hq5) (by omega) wm_X3_copy wi_X3_copy wv_X3_copy km_9_235 (kc rfl rfl) (Nat.le_of_ble_eq_true rfl) rfl rfl rfl (Nat.le_of_ble_eq_true rfl) ⟨Nat.le_of_ble_eq_true rfl, Nat.le_of_ble_eq_true rfl⟩ (by decide +kernel) ?_
      show Ev l d mi_X9_crop 32 [some (.ref 0), some (.int p0), some (.int p1)] [] (hp q5) 0 0 _
      refine Ev.blk (pc' := 37) [(.aload_n 0, 0, 0, 0), (.getfield 60, 0, 9, 7), (.iload_n 2, 0, 0, 0)] (by decide +kernel) ⟨kf_9_60, trivial⟩ rfl (And.intro (kc rfl rfl) (Exists.intro 46 (And.intro rfl (?_))))
      show Ev l d mi_X9_crop 37 [some (.ref 0), some (.int p0), some (.int p1)] [.int p1, .ref 46] (hp q5) 0 0 _
      obtain ⟨q6, hq6, hf⟩ := bd_some hf
      refine Ev.callV (o := 46) (M' := mi_X3_passDays) (d' := d - 1) (As := [.int p1]) (rest := []) (r' := (none, hp q6)) (e_X3_passDays (d := d - 1) (by omega) 46 p1 q5 _ hq6) (by omega) wm_X3_passDays wi_X3_passDays wv_X3_passDays km_9_271 (kc rfl rfl) (Nat.le_of_ble_eq_true rfl) rfl rfl rfl (Nat.le_of_ble_eq_true rfl) ⟨Nat.le_of_ble_eq_true rfl, Nat.le_of_ble_eq_true rfl⟩ (by decide +kernel) ?_
      show Ev l d mi_X9_crop 40 [some (.ref 0), some (.int p0), some (.int p1)] [] (hp q6) 0 0 _
      obtain ⟨c7, hf⟩ := gd_some hf
      refine Ev.blk (pc' := 49) [(.aload_n 0, 0, 0, 0), (.getfield 60, 0, 9, 7), (.getfield 213, 0, 3, 5), (.iload_n 1, 0, 0, 0), (.iaload, 0, 0, 0)] (by decide +kernel) ⟨kf_9_60, ⟨kf_9_213, trivial⟩⟩ rfl (And.intro (kc rfl rfl) (Exists.intro 46 (And.intro rfl (And.intro (kc rfl rfl) (Exists.intro 49 (And.intro rfl (And.intro (kc rfl rfl) (And.intro (ib_ok c7) (?_)))))))))
      show Ev l d mi_X9_crop 49 [some (.ref 0), some (.int p0), some (.int p1)] [.int (q6.1 49 p0.toNatClampNeg)] (hp q6) 0 0 _
      cases hf
      exact Ev.iret .int rfl rfl (by decide +kernel) (Nat.le_refl _) (Nat.le_refl _)
    · have hf := (if_pos b4).symm.trans hf
      refine Ev.blk (pc' := 20) [(.iconst (-1), 0, 0, 0)] (by decide +kernel) trivial rfl (?_)
      show Ev l d mi_X9_crop 20 [some (.ref 0), some (.int p0), some (.int p1)] [.int (Int32.ofInt (-1))] (hp q3.2) 0 0 _
      cases hf
      exact Ev.iret .int rfl rfl (by decide +kernel) (Nat.le_refl _) (Nat.le_refl _)
def f_X9_spare_L48 (k128 : Int32 → Int32 → Int32 → ST → Option (Int32 × ST)) : Nat → Int32 → Int32 → Int32 → Int32 → Int32 → Int32 → Int32 → ST → Option (Int32 × ST)
  | 0, _, _, _, _, _, _, _, _ => none
  | n + 1, x1, x2, x3, x4, x5, x6, x7, s => (if x4 ≤ x7 then k128 x3 x5 x6 s else (f_X3_copy 46 36 s).bind (fun q9 => (f_X3_moveAt 36 x7 q9).bind (fun q10 => (f_X3_passDay 46 q10.1 q10.2).bind (fun q11 => (f_X3_passDays 46 (x2 - (Int32.ofInt 1)) q11.2).bind (fun q12 => gd (ib x1 6) ((if (q12.1 49 x1.toNatClampNeg) ≤ x6 then (f_X9_spare_L48 k128 n) x1 x2 x3 x4 x5 x6 (x7 + Int32.ofInt 1) q12 else gd (ib x1 6) ((f_X9_spare_L48 k128 n) x1 x2 x3 x4 x7 (q12.1 49 x1.toNatClampNeg) (x7 + Int32.ofInt 1) q12))))))))
set_option maxHeartbeats 2000000 in
set_option maxRecDepth 20000 in
theorem e_X9_spare_L48 {l : Launch} {d : Nat} (hd : 26 ≤ d) (k128 : Int32 → Int32 → Int32 → ST → Option (Int32 × ST)) (hk128 : ∀ (x3 : Int32) (x5 : Int32) (x6 : Int32) (s : ST) (r : Int32 × ST), k128 x3 x5 x6 s = some r → Ev l d mi_X9_spare 128 [none, none, none, some (.int x3), none, some (.int x5), some (.int x6), none] [] (hp s) 0 0 (some (.int r.1), hp r.2)) : ∀ (n : Nat) (x1 : Int32) (x2 : Int32) (x3 : Int32) (x4 : Int32) (x5 : Int32) (x6 : Int32) (x7 : Int32) (s : ST) (r : Int32 × ST), f_X9_spare_L48 k128 n x1 x2 x3 x4 x5 x6 x7 s = some r → Ev l d mi_X9_spare 48 [some (.ref 0), some (.int x1), some (.int x2), some (.int x3), some (.int x4), some (.int x5), some (.int x6), some (.int x7)] [] (hp s) 0 0 (some (.int r.1), hp r.2) := by
  intro n
  induction n with
  | zero =>
    intro x1 x2 x3 x4 x5 x6 x7 s r hf
    cases hf
  | succ n ih =>
    intro x1 x2 x3 x4 x5 x6 x7 s r hf
    unfold f_X9_spare_L48 at hf
    refine Ev.blk (pc' := 52) [(.iload 7, 0, 0, 0), (.iload 4, 0, 0, 0)] (by decide +kernel) trivial rfl (?_)
    show Ev l d mi_X9_spare 52 [some (.ref 0), some (.int x1), some (.int x2), some (.int x3), some (.int x4), some (.int x5), some (.int x6), some (.int x7)] [.int x4, .int x7] (hp s) 0 0 _
    refine Ev.icmp_ge (off := 76) (tgt := 128) (by decide +kernel) (by decide) (fun b8 => ?_) (fun b8 => ?_)
    · have hf := (if_pos b8).symm.trans hf
      exact Ev.wk (hk128 x3 x5 x6 s _ hf) (And.intro (Or.inl rfl) (And.intro (Or.inl rfl) (And.intro (Or.inl rfl) (And.intro (Or.inr rfl) (And.intro (Or.inl rfl) (And.intro (Or.inr rfl) (And.intro (Or.inr rfl) (And.intro (Or.inl rfl) (trivial)))))))))
    · have hf := (if_neg b8).symm.trans hf
      refine Ev.blk (pc' := 63) [(.aload_n 0, 0, 0, 0), (.getfield 60, 0, 9, 7), (.aload_n 0, 0, 0, 0), (.getfield 56, 0, 9, 6)] (by decide +kernel) ⟨kf_9_60, ⟨kf_9_56, trivial⟩⟩ rfl (And.intro (kc rfl rfl) (Exists.intro 46 (And.intro rfl (And.intro (kc rfl rfl) (Exists.intro 36 (And.intro rfl (?_)))))))
      show Ev l d mi_X9_spare 63 [some (.ref 0), some (.int x1), some (.int x2), some (.int x3), some (.int x4), some (.int x5), some (.int x6), some (.int x7)] [.ref 36, .ref 46] (hp s) 0 0 _
      obtain ⟨q9, hq9, hf⟩ := bd_some hf
      refine Ev.callV (o := 46) (M' := mi_X3_copy) (d' := d - 1) (As := [.ref 36]) (rest := []) (r' := (none, hp q9)) (e_X3_copy (d := d - 1) (by omega) 46 36 s _ hq9) (by omega) wm_X3_copy wi_X3_copy wv_X3_copy km_9_235 (kc rfl rfl) (Nat.le_of_ble_eq_true rfl) rfl rfl rfl (Nat.le_of_ble_eq_true rfl) ⟨Nat.le_of_ble_eq_true rfl, Nat.le_of_ble_eq_true rfl⟩ (by decide +kernel) ?_
      show Ev l d mi_X9_spare 66 [some (.ref 0), some (.int x1), some (.int x2), some (.int x3), some (.int x4), some (.int x5), some (.int x6), some (.int x7)] [] (hp q9) 0 0 _
      refine Ev.blk (pc' := 76) [(.aload_n 0, 0, 0, 0), (.getfield 60, 0, 9, 7), (.aload_n 0, 0, 0, 0), (.getfield 56, 0, 9, 6), (.iload 7, 0, 0, 0)] (by decide +kernel) ⟨kf_9_60, ⟨kf_9_56, trivial⟩⟩ rfl (And.intro (kc rfl rfl) (Exists.intro 46 (And.intro rfl (And.intro (kc rfl rfl) (Exists.intro 36 (And.intro rfl (?_)))))))
      show Ev l d mi_X9_spare 76 [some (.ref 0), some (.int x1), some (.int x2), some (.int x3), some (.int x4), some (.int x5), some (.int x6), some (.int x7)] [.int x7, .ref 36, .ref 46] (hp q9) 0 0 _
      obtain ⟨q10, hq10, hf⟩ := bd_some hf
      refine Ev.callV (o := 36) (M' := mi_X3_moveAt) (d' := d - 1) (As := [.int x7]) (rest := [.ref 46]) (r' := (some (.int q10.1), hp q10.2)) (e_X3_moveAt (d := d - 1) (by omega) 36 x7 q9 _ hq10) (by omega) wm_X3_moveAt wi_X3_moveAt wv_X3_moveAt km_9_223 (kc rfl rfl) (Nat.le_of_ble_eq_true rfl) rfl rfl rfl (Nat.le_of_ble_eq_true rfl) ⟨Nat.le_of_ble_eq_true rfl, Nat.le_of_ble_eq_true rfl⟩ (by decide +kernel) ?_
      show Ev l d mi_X9_spare 79 [some (.ref 0), some (.int x1), some (.int x2), some (.int x3), some (.int x4), some (.int x5), some (.int x6), some (.int x7)] [.int q10.1, .ref 46] (hp q10.2) 0 0 _
      obtain ⟨q11, hq11, hf⟩ := bd_some hf
      refine Ev.callV (o := 46) (M' := mi_X3_passDay) (d' := d - 1) (As := [.int q10.1]) (rest := []) (r' := (some (.int q11.1), hp q11.2)) (e_X3_passDay (d := d - 1) (by omega) 46 q10.1 q10.2 _ hq11) (by omega) wm_X3_passDay wi_X3_passDay wv_X3_passDay km_9_277 (kc rfl rfl) (Nat.le_of_ble_eq_true rfl) rfl rfl rfl (Nat.le_of_ble_eq_true rfl) ⟨Nat.le_of_ble_eq_true rfl, Nat.le_of_ble_eq_true rfl⟩ (by decide +kernel) ?_
      show Ev l d mi_X9_spare 82 [some (.ref 0), some (.int x1), some (.int x2), some (.int x3), some (.int x4), some (.int x5), some (.int x6), some (.int x7)] [.int q11.1] (hp q11.2) 0 0 _
      refine Ev.blk (pc' := 90) [(.pop, 0, 0, 0), (.aload_n 0, 0, 0, 0), (.getfield 60, 0, 9, 7), (.iload_n 2, 0, 0, 0), (.iconst 1, 0, 0, 0), (.isub, 0, 0, 0)] (by decide +kernel) ⟨kf_9_60, trivial⟩ rfl (And.intro rfl (And.intro (kc rfl rfl) (Exists.intro 46 (And.intro rfl (?_)))))
      show Ev l d mi_X9_spare 90 [some (.ref 0), some (.int x1), some (.int x2), some (.int x3), some (.int x4), some (.int x5), some (.int x6), some (.int x7)] [.int (x2 - (Int32.ofInt 1)), .ref 46] (hp q11.2) 0 0 _
      obtain ⟨q12, hq12, hf⟩ := bd_some hf
      refine Ev.callV (o := 46) (M' := mi_X3_passDays) (d' := d - 1) (As := [.int (x2 - (Int32.ofInt 1))]) (rest := []) (r' := (none, hp q12)) (e_X3_passDays (d := d - 1) (by omega) 46 (x2 - (Int32.ofInt 1)) q11.2 _ hq12) (by omega) wm_X3_passDays wi_X3_passDays wv_X3_passDays km_9_271 (kc rfl rfl) (Nat.le_of_ble_eq_true rfl) rfl rfl rfl (Nat.le_of_ble_eq_true rfl) ⟨Nat.le_of_ble_eq_true rfl, Nat.le_of_ble_eq_true rfl⟩ (by decide +kernel) ?_
      show Ev l d mi_X9_spare 93 [some (.ref 0), some (.int x1), some (.int x2), some (.int x3), some (.int x4), some (.int x5), some (.int x6), some (.int x7)] [] (hp q12) 0 0 _
      obtain ⟨c13, hf⟩ := gd_some hf
      refine Ev.blk (pc' := 104) [(.aload_n 0, 0, 0, 0), (.getfield 60, 0, 9, 7), (.getfield 213, 0, 3, 5), (.iload_n 1, 0, 0, 0), (.iaload, 0, 0, 0), (.iload 6, 0, 0, 0)] (by decide +kernel) ⟨kf_9_60, ⟨kf_9_213, trivial⟩⟩ rfl (And.intro (kc rfl rfl) (Exists.intro 46 (And.intro rfl (And.intro (kc rfl rfl) (Exists.intro 49 (And.intro rfl (And.intro (kc rfl rfl) (And.intro (ib_ok c13) (?_)))))))))
      show Ev l d mi_X9_spare 104 [some (.ref 0), some (.int x1), some (.int x2), some (.int x3), some (.int x4), some (.int x5), some (.int x6), some (.int x7)] [.int x6, .int (q12.1 49 x1.toNatClampNeg)] (hp q12) 0 0 _
      refine Ev.icmp_le (off := 18) (tgt := 122) (by decide +kernel) (by decide) (fun b14 => ?_) (fun b14 => ?_)
      · have hf := (if_pos b14).symm.trans hf
        refine Ev.blk (pc' := 125) [(.iinc 7 1, 0, 0, 0)] (by decide +kernel) trivial rfl (And.intro (Nat.le_of_ble_eq_true rfl) (?_))
        show Ev l d mi_X9_spare 125 [some (.ref 0), some (.int x1), some (.int x2), some (.int x3), some (.int x4), some (.int x5), some (.int x6), some (.int (x7 + Int32.ofInt 1))] [] (hp q12) 0 0 _
        refine Ev.goto (off := -77) (tgt := 48) (by decide +kernel) (by decide) ?_
        exact ih x1 x2 x3 x4 x5 x6 (x7 + Int32.ofInt 1) q12 _ hf
      · have hf := (if_neg b14).symm.trans hf
        obtain ⟨c15, hf⟩ := gd_some hf
        refine Ev.blk (pc' := 125) [(.iload 7, 0, 0, 0), (.istore 5, 0, 0, 0), (.aload_n 0, 0, 0, 0), (.getfield 60, 0, 9, 7), (.getfield 213, 0, 3, 5), (.iload_n 1, 0, 0, 0), (.iaload, 0, 0, 0), (.istore 6, 0, 0, 0), (.iinc 7 1, 0, 0, 0)] (by decide +kernel) ⟨kf_9_60, ⟨kf_9_213, trivial⟩⟩ rfl (And.intro (Nat.le_of_ble_eq_true rfl) (And.intro (kc rfl rfl) (Exists.intro 46 (And.intro rfl (And.intro (kc rfl rfl) (Exists.intro 49 (And.intro rfl (And.intro (kc rfl rfl) (And.intro (ib_ok c15) (And.intro (Nat.le_of_ble_eq_true rfl) (And.intro (Nat.le_of_ble_eq_true rfl) (?_))))))))))))
        show Ev l d mi_X9_spare 125 [some (.ref 0), some (.int x1), some (.int x2), some (.int x3), some (.int x4), some (.int x7), some (.int (q12.1 49 x1.toNatClampNeg)), some (.int (x7 + Int32.ofInt 1))] [] (hp q12) 0 0 _
        refine Ev.goto (off := -77) (tgt := 48) (by decide +kernel) (by decide) ?_
        exact ih x1 x2 x3 x4 x7 (q12.1 49 x1.toNatClampNeg) (x7 + Int32.ofInt 1) q12 _ hf
def f_X9_spare_j128 (x3 : Int32) (x5 : Int32) (x6 : Int32) (s : ST) : Option (Int32 × ST) := (if x3 = 0 then some (x5, s) else some (x6, s))
set_option maxHeartbeats 2000000 in
set_option maxRecDepth 20000 in
theorem e_X9_spare_j128 {l : Launch} {d : Nat} (hd : 26 ≤ d) (x3 : Int32) (x5 : Int32) (x6 : Int32) (s : ST) (r : Int32 × ST) (hf : f_X9_spare_j128 x3 x5 x6 s = some r) : Ev l d mi_X9_spare 128 [none, none, none, some (.int x3), none, some (.int x5), some (.int x6), none] [] (hp s) 0 0 (some (.int r.1), hp r.2) := by
  unfold f_X9_spare_j128 at hf
  refine Ev.blk (pc' := 129) [(.iload_n 3, 0, 0, 0)] (by decide +kernel) trivial rfl (?_)
  show Ev l d mi_X9_spare 129 [none, none, none, some (.int x3), none, some (.int x5), some (.int x6), none] [.int x3] (hp s) 0 0 _
  refine Ev.if_ne (off := 8) (tgt := 137) (by decide +kernel) (by decide) (fun b16 => ?_) (fun b16 => ?_)
  · have hf := (if_neg b16).symm.trans hf
    refine Ev.blk (pc' := 139) [(.iload 6, 0, 0, 0)] (by decide +kernel) trivial rfl (?_)
    show Ev l d mi_X9_spare 139 [none, none, none, some (.int x3), none, some (.int x5), some (.int x6), none] [.int x6] (hp s) 0 0 _
    cases hf
    exact Ev.iret .int rfl rfl (by decide +kernel) (Nat.le_refl _) (Nat.le_refl _)
  · have hf := (if_pos b16).symm.trans hf
    refine Ev.blk (pc' := 134) [(.iload 5, 0, 0, 0)] (by decide +kernel) trivial rfl (?_)
    show Ev l d mi_X9_spare 134 [none, none, none, some (.int x3), none, some (.int x5), some (.int x6), none] [.int x5] (hp s) 0 0 _
    refine Ev.goto (off := 5) (tgt := 139) (by decide +kernel) (by decide) ?_
    cases hf
    exact Ev.iret .int rfl rfl (by decide +kernel) (Nat.le_refl _) (Nat.le_refl _)
def f_X9_spare (p0 : Int32) (p1 : Int32) (p2 : Int32) (s : ST) : Option (Int32 × ST) := (f_X9_isField p0 s).bind (fun q1 => (if q1.1 = 0 then some ((Int32.ofInt (-1)), q1.2) else (if p2 < 0 then some ((Int32.ofInt (-1)), q1.2) else (if (Int32.ofInt 1) < p2 then some ((Int32.ofInt (-1)), q1.2) else (f_X9_canCome p1 (Int32.ofInt 1) ((Int8.ofInt 6).toInt32) q1.2).bind (fun q5 => (if q5.1 = 0 then some ((Int32.ofInt (-1)), q5.2) else (f_X3_moveCount 36 q5.2).bind (fun q7 => (f_X9_spare_L48 f_X9_spare_j128 fuel) p0 p1 p2 q7.1 (Int32.ofInt (-1)) (Int32.ofInt (-1)) (Int32.ofInt 0) q7.2)))))))
set_option maxHeartbeats 2000000 in
set_option maxRecDepth 20000 in
theorem e_X9_spare {l : Launch} {d : Nat} (hd : 26 ≤ d) (p0 : Int32) (p1 : Int32) (p2 : Int32) (s : ST) (r : Int32 × ST) (hf : f_X9_spare p0 p1 p2 s = some r) : Cl l d mi_X9_spare [.ref 0, .int p0, .int p1, .int p2] (hp s) (some (.int r.1), hp r.2) := by
  refine Ev.entry (by decide +kernel) rfl rfl ?_
  show Ev l d mi_X9_spare 0 [some (.ref 0), some (.int p0), some (.int p1), some (.int p2), none, none, none, none] [] (hp s) 0 0 _
  unfold f_X9_spare at hf
  refine Ev.blk (pc' := 2) [(.aload_n 0, 0, 0, 0), (.iload_n 1, 0, 0, 0)] (by decide +kernel) trivial rfl (?_)
  show Ev l d mi_X9_spare 2 [some (.ref 0), some (.int p0), some (.int p1), some (.int p2), none, none, none, none] [.int p0, .ref 0] (hp s) 0 0 _
  obtain ⟨q1, hq1, hf⟩ := bd_some hf
  refine Ev.callV (o := 0) (M' := mi_X9_isField) (d' := d - 1) (As := [.int p0]) (rest := []) (r' := (some (.int q1.1), hp q1.2)) (e_X9_isField (d := d - 1) (by omega) p0 s _ hq1) (by omega) wm_X9_isField wi_X9_isField wv_X9_isField km_9_206 (kc rfl rfl) (Nat.le_of_ble_eq_true rfl) rfl rfl rfl (Nat.le_of_ble_eq_true rfl) ⟨Nat.le_of_ble_eq_true rfl, Nat.le_of_ble_eq_true rfl⟩ (by decide +kernel) ?_
  show Ev l d mi_X9_spare 5 [some (.ref 0), some (.int p0), some (.int p1), some (.int p2), none, none, none, none] [.int q1.1] (hp q1.2) 0 0 _
  refine Ev.if_eq (off := 23) (tgt := 28) (by decide +kernel) (by decide) (fun b2 => ?_) (fun b2 => ?_)
  · have hf := (if_pos b2).symm.trans hf
    refine Ev.blk (pc' := 29) [(.iconst (-1), 0, 0, 0)] (by decide +kernel) trivial rfl (?_)
    show Ev l d mi_X9_spare 29 [some (.ref 0), some (.int p0), some (.int p1), some (.int p2), none, none, none, none] [.int (Int32.ofInt (-1))] (hp q1.2) 0 0 _
    cases hf
    exact Ev.iret .int rfl rfl (by decide +kernel) (Nat.le_refl _) (Nat.le_refl _)
  · have hf := (if_neg b2).symm.trans hf
    refine Ev.blk (pc' := 9) [(.iload_n 3, 0, 0, 0)] (by decide +kernel) trivial rfl (?_)
    show Ev l d mi_X9_spare 9 [some (.ref 0), some (.int p0), some (.int p1), some (.int p2), none, none, none, none] [.int p2] (hp q1.2) 0 0 _
    refine Ev.if_lt (off := 19) (tgt := 28) (by decide +kernel) (by decide) (fun b3 => ?_) (fun b3 => ?_)
    · have hf := (if_pos b3).symm.trans hf
      refine Ev.blk (pc' := 29) [(.iconst (-1), 0, 0, 0)] (by decide +kernel) trivial rfl (?_)
      show Ev l d mi_X9_spare 29 [some (.ref 0), some (.int p0), some (.int p1), some (.int p2), none, none, none, none] [.int (Int32.ofInt (-1))] (hp q1.2) 0 0 _
      cases hf
      exact Ev.iret .int rfl rfl (by decide +kernel) (Nat.le_refl _) (Nat.le_refl _)
    · have hf := (if_neg b3).symm.trans hf
      refine Ev.blk (pc' := 14) [(.iload_n 3, 0, 0, 0), (.iconst 1, 0, 0, 0)] (by decide +kernel) trivial rfl (?_)
      show Ev l d mi_X9_spare 14 [some (.ref 0), some (.int p0), some (.int p1), some (.int p2), none, none, none, none] [.int (Int32.ofInt 1), .int p2] (hp q1.2) 0 0 _
      refine Ev.icmp_gt (off := 14) (tgt := 28) (by decide +kernel) (by decide) (fun b4 => ?_) (fun b4 => ?_)
      · have hf := (if_pos b4).symm.trans hf
        refine Ev.blk (pc' := 29) [(.iconst (-1), 0, 0, 0)] (by decide +kernel) trivial rfl (?_)
        show Ev l d mi_X9_spare 29 [some (.ref 0), some (.int p0), some (.int p1), some (.int p2), none, none, none, none] [.int (Int32.ofInt (-1))] (hp q1.2) 0 0 _
        cases hf
        exact Ev.iret .int rfl rfl (by decide +kernel) (Nat.le_refl _) (Nat.le_refl _)
      · have hf := (if_neg b4).symm.trans hf
        refine Ev.blk (pc' := 22) [(.aload_n 0, 0, 0, 0), (.iload_n 2, 0, 0, 0), (.iconst 1, 0, 0, 0), (.bipush 6, 0, 0, 0)] (by decide +kernel) trivial rfl (?_)
        show Ev l d mi_X9_spare 22 [some (.ref 0), some (.int p0), some (.int p1), some (.int p2), none, none, none, none] [.int ((Int8.ofInt 6).toInt32), .int (Int32.ofInt 1), .int p1, .ref 0] (hp q1.2) 0 0 _
        obtain ⟨q5, hq5, hf⟩ := bd_some hf
        refine Ev.callV (o := 0) (M' := mi_X9_canCome) (d' := d - 1) (As := [.int p1, .int (Int32.ofInt 1), .int ((Int8.ofInt 6).toInt32)]) (rest := []) (r' := (some (.int q5.1), hp q5.2)) (e_X9_canCome (d := d - 1) (by omega) p1 (Int32.ofInt 1) ((Int8.ofInt 6).toInt32) q1.2 _ hq5) (by omega) wm_X9_canCome wi_X9_canCome wv_X9_canCome km_9_267 (kc rfl rfl) (Nat.le_of_ble_eq_true rfl) rfl rfl rfl (Nat.le_of_ble_eq_true rfl) ⟨Nat.le_of_ble_eq_true rfl, Nat.le_of_ble_eq_true rfl⟩ (by decide +kernel) ?_
        show Ev l d mi_X9_spare 25 [some (.ref 0), some (.int p0), some (.int p1), some (.int p2), none, none, none, none] [.int q5.1] (hp q5.2) 0 0 _
        refine Ev.if_ne (off := 5) (tgt := 30) (by decide +kernel) (by decide) (fun b6 => ?_) (fun b6 => ?_)
        · have hf := (if_neg b6).symm.trans hf
          refine Ev.blk (pc' := 34) [(.aload_n 0, 0, 0, 0), (.getfield 56, 0, 9, 6)] (by decide +kernel) ⟨kf_9_56, trivial⟩ rfl (And.intro (kc rfl rfl) (Exists.intro 36 (And.intro rfl (?_))))
          show Ev l d mi_X9_spare 34 [some (.ref 0), some (.int p0), some (.int p1), some (.int p2), none, none, none, none] [.ref 36] (hp q5.2) 0 0 _
          obtain ⟨q7, hq7, hf⟩ := bd_some hf
          refine Ev.callV (o := 36) (M' := mi_X3_moveCount) (d' := d - 1) (As := []) (rest := []) (r' := (some (.int q7.1), hp q7.2)) (e_X3_moveCount (d := d - 1) (by omega) 36 q5.2 _ hq7) (by omega) wm_X3_moveCount wi_X3_moveCount wv_X3_moveCount km_9_274 (kc rfl rfl) (Nat.le_of_ble_eq_true rfl) rfl rfl rfl (Nat.le_of_ble_eq_true rfl) ⟨Nat.le_of_ble_eq_true rfl, Nat.le_of_ble_eq_true rfl⟩ (by decide +kernel) ?_
          show Ev l d mi_X9_spare 37 [some (.ref 0), some (.int p0), some (.int p1), some (.int p2), none, none, none, none] [.int q7.1] (hp q7.2) 0 0 _
          refine Ev.blk (pc' := 48) [(.istore 4, 0, 0, 0), (.iconst (-1), 0, 0, 0), (.istore 5, 0, 0, 0), (.iconst (-1), 0, 0, 0), (.istore 6, 0, 0, 0), (.iconst 0, 0, 0, 0), (.istore 7, 0, 0, 0)] (by decide +kernel) trivial rfl (And.intro (Nat.le_of_ble_eq_true rfl) (And.intro (Nat.le_of_ble_eq_true rfl) (And.intro (Nat.le_of_ble_eq_true rfl) (And.intro (Nat.le_of_ble_eq_true rfl) (?_)))))
          show Ev l d mi_X9_spare 48 [some (.ref 0), some (.int p0), some (.int p1), some (.int p2), some (.int q7.1), some (.int (Int32.ofInt (-1))), some (.int (Int32.ofInt (-1))), some (.int (Int32.ofInt 0))] [] (hp q7.2) 0 0 _
          exact (e_X9_spare_L48 hd f_X9_spare_j128 (e_X9_spare_j128 hd) fuel) p0 p1 p2 q7.1 (Int32.ofInt (-1)) (Int32.ofInt (-1)) (Int32.ofInt 0) q7.2 _ hf
        · have hf := (if_pos b6).symm.trans hf
          refine Ev.blk (pc' := 29) [(.iconst (-1), 0, 0, 0)] (by decide +kernel) trivial rfl (?_)
          show Ev l d mi_X9_spare 29 [some (.ref 0), some (.int p0), some (.int p1), some (.int p2), none, none, none, none] [.int (Int32.ofInt (-1))] (hp q5.2) 0 0 _
          cases hf
          exact Ev.iret .int rfl rfl (by decide +kernel) (Nat.le_refl _) (Nat.le_refl _)
def f_X9_addHarm_L2 : Nat → Int32 → ST → Option (ST)
  | 0, _, _ => none
  | n + 1, x1, s => (if ((Int8.ofInt 25).toInt32) ≤ x1 then some s else (RR s.2.2 0 3).bind (fun a2 => (f_X4_isPlace a2 (x1 - x1 / (Int32.ofInt 5) * (Int32.ofInt 5)) (x1 / (Int32.ofInt 5)) s).bind (fun q3 => gd (kk a2 4) ((if q3.1 = 0 then (f_X9_addHarm_L2 n) (x1 + Int32.ofInt 1) q3.2 else gd (ib x1 25) ((f_X3_harmTo 46 x1 q3.2).bind (fun q7 => gd (ib x1 25) (lt (uI q7.2 64 x1.toNatClampNeg ((q3.2.1 64 x1.toNatClampNeg) + q7.1)) (fun s9 => (f_X9_addHarm_L2 n) (x1 + Int32.ofInt 1) s9)))))))))
set_option maxHeartbeats 2000000 in
set_option maxRecDepth 20000 in
theorem e_X9_addHarm_L2 {l : Launch} {d : Nat} (hd : 5 ≤ d) : ∀ (n : Nat) (x1 : Int32) (s : ST) (r : ST), f_X9_addHarm_L2 n x1 s = some r → Ev l d mi_X9_addHarm 2 [some (.ref 0), some (.int x1)] [] (hp s) 0 0 (none, hp r) := by
  intro n
  induction n with
  | zero =>
    intro x1 s r hf
    cases hf
  | succ n ih =>
    intro x1 s r hf
    unfold f_X9_addHarm_L2 at hf
    refine Ev.blk (pc' := 5) [(.iload_n 1, 0, 0, 0), (.bipush 25, 0, 0, 0)] (by decide +kernel) trivial rfl (?_)
    show Ev l d mi_X9_addHarm 5 [some (.ref 0), some (.int x1)] [.int ((Int8.ofInt 25).toInt32), .int x1] (hp s) 0 0 _
    refine Ev.icmp_ge (off := 42) (tgt := 47) (by decide +kernel) (by decide) (fun b1 => ?_) (fun b1 => ?_)
    · have hf := (if_pos b1).symm.trans hf
      cases hf
      exact Ev.vret rfl (by decide +kernel) (Nat.le_refl _) (Nat.le_refl _)
    · have hf := (if_neg b1).symm.trans hf
      obtain ⟨a2, ha2, hf⟩ := bd_some hf
      refine Ev.blk (pc' := 18) [(.aload_n 0, 0, 0, 0), (.getfield 37, 0, 9, 3), (.iload_n 1, 0, 0, 0), (.iconst 5, 0, 0, 0), (.irem, 0, 0, 0), (.iload_n 1, 0, 0, 0), (.iconst 5, 0, 0, 0), (.idiv, 0, 0, 0)] (by decide +kernel) ⟨kf_9_37, trivial⟩ rfl (And.intro (kc rfl rfl) (Exists.intro a2 (And.intro ha2 (And.intro (by decide) (And.intro (by decide) (?_))))))
      show Ev l d mi_X9_addHarm 18 [some (.ref 0), some (.int x1)] [.int (x1 / (Int32.ofInt 5)), .int (x1 - x1 / (Int32.ofInt 5) * (Int32.ofInt 5)), .ref a2] (hp s) 0 0 _
      obtain ⟨q3, hq3, hf⟩ := bd_some hf
      obtain ⟨c4, hf⟩ := gd_some hf
      refine Ev.callV (o := a2) (M' := mi_X4_isPlace) (d' := d - 1) (As := [.int (x1 - x1 / (Int32.ofInt 5) * (Int32.ofInt 5)), .int (x1 / (Int32.ofInt 5))]) (rest := []) (r' := (some (.int q3.1), hp q3.2)) (e_X4_isPlace (d := d - 1) (by omega) a2 (x1 - x1 / (Int32.ofInt 5) * (Int32.ofInt 5)) (x1 / (Int32.ofInt 5)) s _ hq3) (by omega) wm_X4_isPlace wi_X4_isPlace wv_X4_isPlace km_9_216 (kk_ok c4) (Nat.le_of_ble_eq_true rfl) rfl rfl rfl (Nat.le_of_ble_eq_true rfl) ⟨Nat.le_of_ble_eq_true rfl, Nat.le_of_ble_eq_true rfl⟩ (by decide +kernel) ?_
      show Ev l d mi_X9_addHarm 21 [some (.ref 0), some (.int x1)] [.int q3.1] (hp q3.2) 0 0 _
      refine Ev.if_eq (off := 20) (tgt := 41) (by decide +kernel) (by decide) (fun b5 => ?_) (fun b5 => ?_)
      · have hf := (if_pos b5).symm.trans hf
        refine Ev.blk (pc' := 44) [(.iinc 1 1, 0, 0, 0)] (by decide +kernel) trivial rfl (And.intro (Nat.le_of_ble_eq_true rfl) (?_))
        show Ev l d mi_X9_addHarm 44 [some (.ref 0), some (.int (x1 + Int32.ofInt 1))] [] (hp q3.2) 0 0 _
        refine Ev.goto (off := -42) (tgt := 2) (by decide +kernel) (by decide) ?_
        exact ih (x1 + Int32.ofInt 1) q3.2 _ hf
      · have hf := (if_neg b5).symm.trans hf
        obtain ⟨c6, hf⟩ := gd_some hf
        refine Ev.blk (pc' := 36) [(.aload_n 0, 0, 0, 0), (.getfield 102, 0, 9, 19), (.iload_n 1, 0, 0, 0), (.dup2, 0, 0, 0), (.iaload, 0, 0, 0), (.aload_n 0, 0, 0, 0), (.getfield 60, 0, 9, 7), (.iload_n 1, 0, 0, 0)] (by decide +kernel) ⟨kf_9_102, ⟨kf_9_60, trivial⟩⟩ rfl (And.intro (kc rfl rfl) (Exists.intro 64 (And.intro rfl (And.intro (And.intro rfl rfl) (And.intro (kc rfl rfl) (And.intro (ib_ok c6) (And.intro (kc rfl rfl) (Exists.intro 46 (And.intro rfl (?_))))))))))
        show Ev l d mi_X9_addHarm 36 [some (.ref 0), some (.int x1)] [.int x1, .ref 46, .int (q3.2.1 64 x1.toNatClampNeg), .int x1, .ref 64] (hp q3.2) 0 0 _
        obtain ⟨q7, hq7, hf⟩ := bd_some hf
        refine Ev.callV (o := 46) (M' := mi_X3_harmTo) (d' := d - 1) (As := [.int x1]) (rest := [.int (q3.2.1 64 x1.toNatClampNeg), .int x1, .ref 64]) (r' := (some (.int q7.1), hp q7.2)) (e_X3_harmTo (d := d - 1) (by omega) 46 x1 q3.2 _ hq7) (by omega) wm_X3_harmTo wi_X3_harmTo wv_X3_harmTo km_9_385 (kc rfl rfl) (Nat.le_of_ble_eq_true rfl) rfl rfl rfl (Nat.le_of_ble_eq_true rfl) ⟨Nat.le_of_ble_eq_true rfl, Nat.le_of_ble_eq_true rfl⟩ (by decide +kernel) ?_
        show Ev l d mi_X9_addHarm 39 [some (.ref 0), some (.int x1)] [.int q7.1, .int (q3.2.1 64 x1.toNatClampNeg), .int x1, .ref 64] (hp q7.2) 0 0 _
        obtain ⟨c8, hf⟩ := gd_some hf
        obtain ⟨s9, hs9, hf⟩ := lt_some hf
        refine Ev.blk (pc' := 44) [(.iadd, 0, 0, 0), (.iastore, 0, 0, 0), (.iinc 1 1, 0, 0, 0)] (by decide +kernel) trivial rfl (And.intro (kc rfl rfl) (And.intro (ib_ok c8) (And.intro (Nat.le_of_ble_eq_true rfl) (?_))))
        show Ev l d mi_X9_addHarm 44 [some (.ref 0), some (.int (x1 + Int32.ofInt 1))] [] (hp (uI q7.2 64 x1.toNatClampNeg ((q3.2.1 64 x1.toNatClampNeg) + q7.1))) 0 0 _
        rw [← hs9]
        refine Ev.goto (off := -42) (tgt := 2) (by decide +kernel) (by decide) ?_
        exact ih (x1 + Int32.ofInt 1) s9 _ hf
def f_X9_addHarm (s : ST) : Option (ST) := (f_X9_addHarm_L2 fuel) (Int32.ofInt 0) s
set_option maxHeartbeats 2000000 in
set_option maxRecDepth 20000 in
theorem e_X9_addHarm {l : Launch} {d : Nat} (hd : 5 ≤ d) (s : ST) (r : ST) (hf : f_X9_addHarm s = some r) : Cl l d mi_X9_addHarm [.ref 0] (hp s) (none, hp r) := by
  refine Ev.entry (by decide +kernel) rfl rfl ?_
  show Ev l d mi_X9_addHarm 0 [some (.ref 0), none] [] (hp s) 0 0 _
  unfold f_X9_addHarm at hf
  refine Ev.blk (pc' := 2) [(.iconst 0, 0, 0, 0), (.istore_n 1, 0, 0, 0)] (by decide +kernel) trivial rfl (And.intro (Nat.le_of_ble_eq_true rfl) (?_))
  show Ev l d mi_X9_addHarm 2 [some (.ref 0), some (.int (Int32.ofInt 0))] [] (hp s) 0 0 _
  exact (e_X9_addHarm_L2 hd fuel) (Int32.ofInt 0) s _ hf
def f_X9_gatherHarm_j65 (k21 : Int32 → Int32 → ST → Option (ST)) (x1 : Int32) (x2 : Int32) (s : ST) : Option (ST) := (f_X3_turn 46 s).bind (fun q10 => k21 x1 (x2 + Int32.ofInt 1) q10)
set_option maxHeartbeats 2000000 in
set_option maxRecDepth 20000 in
theorem e_X9_gatherHarm_j65 {l : Launch} {d : Nat} (hd : 25 ≤ d) (k21 : Int32 → Int32 → ST → Option (ST)) (hk21 : ∀ (x1 : Int32) (x2 : Int32) (s : ST) (r : ST), k21 x1 x2 s = some r → Ev l d mi_X9_gatherHarm 21 [some (.ref 0), some (.int x1), some (.int x2), none] [] (hp s) 0 0 (none, hp r)) (x1 : Int32) (x2 : Int32) (s : ST) (r : ST) (hf : f_X9_gatherHarm_j65 k21 x1 x2 s = some r) : Ev l d mi_X9_gatherHarm 65 [some (.ref 0), some (.int x1), some (.int x2), none] [] (hp s) 0 0 (none, hp r) := by
  unfold f_X9_gatherHarm_j65 at hf
  refine Ev.blk (pc' := 69) [(.aload_n 0, 0, 0, 0), (.getfield 60, 0, 9, 7)] (by decide +kernel) ⟨kf_9_60, trivial⟩ rfl (And.intro (kc rfl rfl) (Exists.intro 46 (And.intro rfl (?_))))
  show Ev l d mi_X9_gatherHarm 69 [some (.ref 0), some (.int x1), some (.int x2), none] [.ref 46] (hp s) 0 0 _
  obtain ⟨q10, hq10, hf⟩ := bd_some hf
  refine Ev.callV (o := 46) (M' := mi_X3_turn) (d' := d - 1) (As := []) (rest := []) (r' := (none, hp q10)) (e_X3_turn (d := d - 1) (by omega) 46 s _ hq10) (by omega) wm_X3_turn wi_X3_turn wv_X3_turn km_9_382 (kc rfl rfl) (Nat.le_of_ble_eq_true rfl) rfl rfl rfl (Nat.le_of_ble_eq_true rfl) ⟨Nat.le_of_ble_eq_true rfl, Nat.le_of_ble_eq_true rfl⟩ (by decide +kernel) ?_
  show Ev l d mi_X9_gatherHarm 72 [some (.ref 0), some (.int x1), some (.int x2), none] [] (hp q10) 0 0 _
  refine Ev.blk (pc' := 75) [(.iinc 2 1, 0, 0, 0)] (by decide +kernel) trivial rfl (And.intro (Nat.le_of_ble_eq_true rfl) (?_))
  show Ev l d mi_X9_gatherHarm 75 [some (.ref 0), some (.int x1), some (.int (x2 + Int32.ofInt 1)), none] [] (hp q10) 0 0 _
  refine Ev.goto (off := -54) (tgt := 21) (by decide +kernel) (by decide) ?_
  exact hk21 x1 (x2 + Int32.ofInt 1) q10 _ hf
def f_X9_gatherHarm_L21 : Nat → Int32 → Int32 → ST → Option (ST)
  | 0, _, _, _ => none
  | n + 1, x1, x2, s => (if x1 ≤ x2 then some s else (f_X3_depth 46 s).bind (fun q4 => (f_X3_bestMove 46 q4.1 q4.2).bind (fun q5 => (if q5.1 < 0 then (f_X9_gatherHarm_j65 (f_X9_gatherHarm_L21 n)) x1 x2 q5.2 else (f_X3_strike 46 q5.1 q5.2).bind (fun q7 => (f_X9_addHarm q7.2).bind (fun q8 => (f_X3_wither 46 q8).bind (fun q9 => (f_X9_gatherHarm_j65 (f_X9_gatherHarm_L21 n)) x1 x2 q9)))))))
set_option maxHeartbeats 2000000 in
set_option maxRecDepth 20000 in
theorem e_X9_gatherHarm_L21 {l : Launch} {d : Nat} (hd : 25 ≤ d) : ∀ (n : Nat) (x1 : Int32) (x2 : Int32) (s : ST) (r : ST), f_X9_gatherHarm_L21 n x1 x2 s = some r → Ev l d mi_X9_gatherHarm 21 [some (.ref 0), some (.int x1), some (.int x2), none] [] (hp s) 0 0 (none, hp r) := by
  intro n
  induction n with
  | zero =>
    intro x1 x2 s r hf
    cases hf
  | succ n ih =>
    intro x1 x2 s r hf
    unfold f_X9_gatherHarm_L21 at hf
    refine Ev.blk (pc' := 23) [(.iload_n 2, 0, 0, 0), (.iload_n 1, 0, 0, 0)] (by decide +kernel) trivial rfl (?_)
    show Ev l d mi_X9_gatherHarm 23 [some (.ref 0), some (.int x1), some (.int x2), none] [.int x1, .int x2] (hp s) 0 0 _
    refine Ev.icmp_ge (off := 55) (tgt := 78) (by decide +kernel) (by decide) (fun b3 => ?_) (fun b3 => ?_)
    · have hf := (if_pos b3).symm.trans hf
      cases hf
      exact Ev.vret rfl (by decide +kernel) (Nat.le_refl _) (Nat.le_refl _)
    · have hf := (if_neg b3).symm.trans hf
      refine Ev.blk (pc' := 34) [(.aload_n 0, 0, 0, 0), (.getfield 60, 0, 9, 7), (.aload_n 0, 0, 0, 0), (.getfield 60, 0, 9, 7)] (by decide +kernel) ⟨kf_9_60, ⟨kf_9_60, trivial⟩⟩ rfl (And.intro (kc rfl rfl) (Exists.intro 46 (And.intro rfl (And.intro (kc rfl rfl) (Exists.intro 46 (And.intro rfl (?_)))))))
      show Ev l d mi_X9_gatherHarm 34 [some (.ref 0), some (.int x1), some (.int x2), none] [.ref 46, .ref 46] (hp s) 0 0 _
      obtain ⟨q4, hq4, hf⟩ := bd_some hf
      refine Ev.callV (o := 46) (M' := mi_X3_depth) (d' := d - 1) (As := []) (rest := [.ref 46]) (r' := (some (.int q4.1), hp q4.2)) (e_X3_depth (d := d - 1) (by omega) 46 s _ hq4) (by omega) wm_X3_depth wi_X3_depth wv_X3_depth km_9_317 (kc rfl rfl) (Nat.le_of_ble_eq_true rfl) rfl rfl rfl (Nat.le_of_ble_eq_true rfl) ⟨Nat.le_of_ble_eq_true rfl, Nat.le_of_ble_eq_true rfl⟩ (by decide +kernel) ?_
      show Ev l d mi_X9_gatherHarm 37 [some (.ref 0), some (.int x1), some (.int x2), none] [.int q4.1, .ref 46] (hp q4.2) 0 0 _
      obtain ⟨q5, hq5, hf⟩ := bd_some hf
      refine Ev.callV (o := 46) (M' := mi_X3_bestMove) (d' := d - 1) (As := [.int q4.1]) (rest := []) (r' := (some (.int q5.1), hp q5.2)) (e_X3_bestMove (d := d - 1) (by omega) 46 q4.1 q4.2 _ hq5) (by omega) wm_X3_bestMove wi_X3_bestMove wv_X3_bestMove km_9_258 (kc rfl rfl) (Nat.le_of_ble_eq_true rfl) rfl rfl rfl (Nat.le_of_ble_eq_true rfl) ⟨Nat.le_of_ble_eq_true rfl, Nat.le_of_ble_eq_true rfl⟩ (by decide +kernel) ?_
      show Ev l d mi_X9_gatherHarm 40 [some (.ref 0), some (.int x1), some (.int x2), none] [.int q5.1] (hp q5.2) 0 0 _
      refine Ev.blk (pc' := 42) [(.istore_n 3, 0, 0, 0), (.iload_n 3, 0, 0, 0)] (by decide +kernel) trivial rfl (And.intro (Nat.le_of_ble_eq_true rfl) (?_))
      show Ev l d mi_X9_gatherHarm 42 [some (.ref 0), some (.int x1), some (.int x2), some (.int q5.1)] [.int q5.1] (hp q5.2) 0 0 _
      refine Ev.if_lt (off := 23) (tgt := 65) (by decide +kernel) (by decide) (fun b6 => ?_) (fun b6 => ?_)
      · have hf := (if_pos b6).symm.trans hf
        exact Ev.wk ((e_X9_gatherHarm_j65 hd (f_X9_gatherHarm_L21 n) ih) x1 x2 q5.2 _ hf) (And.intro (Or.inr rfl) (And.intro (Or.inr rfl) (And.intro (Or.inr rfl) (And.intro (Or.inl rfl) (trivial)))))
      · have hf := (if_neg b6).symm.trans hf
        refine Ev.blk (pc' := 50) [(.aload_n 0, 0, 0, 0), (.getfield 60, 0, 9, 7), (.iload_n 3, 0, 0, 0)] (by decide +kernel) ⟨kf_9_60, trivial⟩ rfl (And.intro (kc rfl rfl) (Exists.intro 46 (And.intro rfl (?_))))
        show Ev l d mi_X9_gatherHarm 50 [some (.ref 0), some (.int x1), some (.int x2), some (.int q5.1)] [.int q5.1, .ref 46] (hp q5.2) 0 0 _
        obtain ⟨q7, hq7, hf⟩ := bd_some hf
        refine Ev.callV (o := 46) (M' := mi_X3_strike) (d' := d - 1) (As := [.int q5.1]) (rest := []) (r' := (some (.int q7.1), hp q7.2)) (e_X3_strike (d := d - 1) (by omega) 46 q5.1 q5.2 _ hq7) (by omega) wm_X3_strike wi_X3_strike wv_X3_strike km_9_239 (kc rfl rfl) (Nat.le_of_ble_eq_true rfl) rfl rfl rfl (Nat.le_of_ble_eq_true rfl) ⟨Nat.le_of_ble_eq_true rfl, Nat.le_of_ble_eq_true rfl⟩ (by decide +kernel) ?_
        show Ev l d mi_X9_gatherHarm 53 [some (.ref 0), some (.int x1), some (.int x2), some (.int q5.1)] [.int q7.1] (hp q7.2) 0 0 _
        refine Ev.blk (pc' := 55) [(.pop, 0, 0, 0), (.aload_n 0, 0, 0, 0)] (by decide +kernel) trivial rfl (And.intro rfl (?_))
        show Ev l d mi_X9_gatherHarm 55 [some (.ref 0), some (.int x1), some (.int x2), some (.int q5.1)] [.ref 0] (hp q7.2) 0 0 _
        obtain ⟨q8, hq8, hf⟩ := bd_some hf
        refine Ev.callV (o := 0) (M' := mi_X9_addHarm) (d' := d - 1) (As := []) (rest := []) (r' := (none, hp q8)) (e_X9_addHarm (d := d - 1) (by omega) q7.2 _ hq8) (by omega) wm_X9_addHarm wi_X9_addHarm wv_X9_addHarm km_9_376 (kc rfl rfl) (Nat.le_of_ble_eq_true rfl) rfl rfl rfl (Nat.le_of_ble_eq_true rfl) ⟨Nat.le_of_ble_eq_true rfl, Nat.le_of_ble_eq_true rfl⟩ (by decide +kernel) ?_
        show Ev l d mi_X9_gatherHarm 58 [some (.ref 0), some (.int x1), some (.int x2), some (.int q5.1)] [] (hp q8) 0 0 _
        refine Ev.blk (pc' := 62) [(.aload_n 0, 0, 0, 0), (.getfield 60, 0, 9, 7)] (by decide +kernel) ⟨kf_9_60, trivial⟩ rfl (And.intro (kc rfl rfl) (Exists.intro 46 (And.intro rfl (?_))))
        show Ev l d mi_X9_gatherHarm 62 [some (.ref 0), some (.int x1), some (.int x2), some (.int q5.1)] [.ref 46] (hp q8) 0 0 _
        obtain ⟨q9, hq9, hf⟩ := bd_some hf
        refine Ev.callV (o := 46) (M' := mi_X3_wither) (d' := d - 1) (As := []) (rest := []) (r' := (none, hp q9)) (e_X3_wither (d := d - 1) (by omega) 46 q8 _ hq9) (by omega) wm_X3_wither wi_X3_wither wv_X3_wither km_9_379 (kc rfl rfl) (Nat.le_of_ble_eq_true rfl) rfl rfl rfl (Nat.le_of_ble_eq_true rfl) ⟨Nat.le_of_ble_eq_true rfl, Nat.le_of_ble_eq_true rfl⟩ (by decide +kernel) ?_
        show Ev l d mi_X9_gatherHarm 65 [some (.ref 0), some (.int x1), some (.int x2), some (.int q5.1)] [] (hp q9) 0 0 _
        exact Ev.wk ((e_X9_gatherHarm_j65 hd (f_X9_gatherHarm_L21 n) ih) x1 x2 q9 _ hf) (And.intro (Or.inr rfl) (And.intro (Or.inr rfl) (And.intro (Or.inr rfl) (And.intro (Or.inl rfl) (trivial)))))
def f_X9_gatherHarm (p0 : Int32) (s : ST) : Option (ST) := (f_J7_fill_53178 64 (Int32.ofInt 0) s).bind (fun q1 => (f_X3_copy 46 36 q1).bind (fun q2 => (f_X9_gatherHarm_L21 fuel) p0 (Int32.ofInt 0) q2))
set_option maxHeartbeats 2000000 in
set_option maxRecDepth 20000 in
theorem e_X9_gatherHarm {l : Launch} {d : Nat} (hd : 25 ≤ d) (p0 : Int32) (s : ST) (r : ST) (hf : f_X9_gatherHarm p0 s = some r) : Cl l d mi_X9_gatherHarm [.ref 0, .int p0] (hp s) (none, hp r) := by
  refine Ev.entry (by decide +kernel) rfl rfl ?_
  show Ev l d mi_X9_gatherHarm 0 [some (.ref 0), some (.int p0), none, none] [] (hp s) 0 0 _
  unfold f_X9_gatherHarm at hf
  refine Ev.blk (pc' := 5) [(.aload_n 0, 0, 0, 0), (.getfield 102, 0, 9, 19), (.iconst 0, 0, 0, 0)] (by decide +kernel) ⟨kf_9_102, trivial⟩ rfl (And.intro (kc rfl rfl) (Exists.intro 64 (And.intro rfl (?_))))
  show Ev l d mi_X9_gatherHarm 5 [some (.ref 0), some (.int p0), none, none] [.int (Int32.ofInt 0), .ref 64] (hp s) 0 0 _
  obtain ⟨q1, hq1, hf⟩ := bd_some hf
  refine Ev.callS (M' := mi_J7_fill_53178) (d' := d - 1) (As := [.ref 64, .int (Int32.ofInt 0)]) (rest := []) (r' := (none, hp q1)) (e_J7_fill_53178 (d := d - 1) (by omega) 64 (Int32.ofInt 0) s _ hq1) (by omega) wm_J7_fill_53178 wt_J7_fill_53178 km_9_370 rfl rfl rfl (Nat.le_of_ble_eq_true rfl) ⟨Nat.le_of_ble_eq_true rfl, Nat.le_of_ble_eq_true rfl⟩ (by decide +kernel) ?_
  show Ev l d mi_X9_gatherHarm 8 [some (.ref 0), some (.int p0), none, none] [] (hp q1) 0 0 _
  refine Ev.blk (pc' := 16) [(.aload_n 0, 0, 0, 0), (.getfield 60, 0, 9, 7), (.aload_n 0, 0, 0, 0), (.getfield 56, 0, 9, 6)] (by decide +kernel) ⟨kf_9_60, ⟨kf_9_56, trivial⟩⟩ rfl (And.intro (kc rfl rfl) (Exists.intro 46 (And.intro rfl (And.intro (kc rfl rfl) (Exists.intro 36 (And.intro rfl (?_)))))))
  show Ev l d mi_X9_gatherHarm 16 [some (.ref 0), some (.int p0), none, none] [.ref 36, .ref 46] (hp q1) 0 0 _
  obtain ⟨q2, hq2, hf⟩ := bd_some hf
  refine Ev.callV (o := 46) (M' := mi_X3_copy) (d' := d - 1) (As := [.ref 36]) (rest := []) (r' := (none, hp q2)) (e_X3_copy (d := d - 1) (by omega) 46 36 q1 _ hq2) (by omega) wm_X3_copy wi_X3_copy wv_X3_copy km_9_235 (kc rfl rfl) (Nat.le_of_ble_eq_true rfl) rfl rfl rfl (Nat.le_of_ble_eq_true rfl) ⟨Nat.le_of_ble_eq_true rfl, Nat.le_of_ble_eq_true rfl⟩ (by decide +kernel) ?_
  show Ev l d mi_X9_gatherHarm 19 [some (.ref 0), some (.int p0), none, none] [] (hp q2) 0 0 _
  refine Ev.blk (pc' := 21) [(.iconst 0, 0, 0, 0), (.istore_n 2, 0, 0, 0)] (by decide +kernel) trivial rfl (And.intro (Nat.le_of_ble_eq_true rfl) (?_))
  show Ev l d mi_X9_gatherHarm 21 [some (.ref 0), some (.int p0), some (.int (Int32.ofInt 0)), none] [] (hp q2) 0 0 _
  exact (e_X9_gatherHarm_L21 hd fuel) p0 (Int32.ofInt 0) q2 _ hf
def f_X9_leastHarmed_L4 : Nat → Int32 → Int32 → ST → Option (Int32 × ST)
  | 0, _, _, _ => none
  | n + 1, x1, x2, s => (if ((Int8.ofInt 25).toInt32) ≤ x2 then some (x1, s) else (RR s.2.2 0 3).bind (fun a2 => (f_X4_isPlace a2 (x2 - x2 / (Int32.ofInt 5) * (Int32.ofInt 5)) (x2 / (Int32.ofInt 5)) s).bind (fun q3 => gd (kk a2 4) ((if q3.1 = 0 then (f_X9_leastHarmed_L4 n) x1 (x2 + Int32.ofInt 1) q3.2 else gd (ib x2 25) (gd (ib x1 25) ((if (q3.2.1 64 x1.toNatClampNeg) ≤ (q3.2.1 64 x2.toNatClampNeg) then (f_X9_leastHarmed_L4 n) x1 (x2 + Int32.ofInt 1) q3.2 else (f_X9_leastHarmed_L4 n) x2 (x2 + Int32.ofInt 1) q3.2))))))))
set_option maxHeartbeats 2000000 in
set_option maxRecDepth 20000 in
theorem e_X9_leastHarmed_L4 {l : Launch} {d : Nat} (hd : 2 ≤ d) : ∀ (n : Nat) (x1 : Int32) (x2 : Int32) (s : ST) (r : Int32 × ST), f_X9_leastHarmed_L4 n x1 x2 s = some r → Ev l d mi_X9_leastHarmed 4 [some (.ref 0), some (.int x1), some (.int x2)] [] (hp s) 0 0 (some (.int r.1), hp r.2) := by
  intro n
  induction n with
  | zero =>
    intro x1 x2 s r hf
    cases hf
  | succ n ih =>
    intro x1 x2 s r hf
    unfold f_X9_leastHarmed_L4 at hf
    refine Ev.blk (pc' := 7) [(.iload_n 2, 0, 0, 0), (.bipush 25, 0, 0, 0)] (by decide +kernel) trivial rfl (?_)
    show Ev l d mi_X9_leastHarmed 7 [some (.ref 0), some (.int x1), some (.int x2)] [.int ((Int8.ofInt 25).toInt32), .int x2] (hp s) 0 0 _
    refine Ev.icmp_ge (off := 42) (tgt := 49) (by decide +kernel) (by decide) (fun b1 => ?_) (fun b1 => ?_)
    · have hf := (if_pos b1).symm.trans hf
      refine Ev.blk (pc' := 50) [(.iload_n 1, 0, 0, 0)] (by decide +kernel) trivial rfl (?_)
      show Ev l d mi_X9_leastHarmed 50 [some (.ref 0), some (.int x1), some (.int x2)] [.int x1] (hp s) 0 0 _
      cases hf
      exact Ev.iret .int rfl rfl (by decide +kernel) (Nat.le_refl _) (Nat.le_refl _)
    · have hf := (if_neg b1).symm.trans hf
      obtain ⟨a2, ha2, hf⟩ := bd_some hf
      refine Ev.blk (pc' := 20) [(.aload_n 0, 0, 0, 0), (.getfield 37, 0, 9, 3), (.iload_n 2, 0, 0, 0), (.iconst 5, 0, 0, 0), (.irem, 0, 0, 0), (.iload_n 2, 0, 0, 0), (.iconst 5, 0, 0, 0), (.idiv, 0, 0, 0)] (by decide +kernel) ⟨kf_9_37, trivial⟩ rfl (And.intro (kc rfl rfl) (Exists.intro a2 (And.intro ha2 (And.intro (by decide) (And.intro (by decide) (?_))))))
      show Ev l d mi_X9_leastHarmed 20 [some (.ref 0), some (.int x1), some (.int x2)] [.int (x2 / (Int32.ofInt 5)), .int (x2 - x2 / (Int32.ofInt 5) * (Int32.ofInt 5)), .ref a2] (hp s) 0 0 _
      obtain ⟨q3, hq3, hf⟩ := bd_some hf
      obtain ⟨c4, hf⟩ := gd_some hf
      refine Ev.callV (o := a2) (M' := mi_X4_isPlace) (d' := d - 1) (As := [.int (x2 - x2 / (Int32.ofInt 5) * (Int32.ofInt 5)), .int (x2 / (Int32.ofInt 5))]) (rest := []) (r' := (some (.int q3.1), hp q3.2)) (e_X4_isPlace (d := d - 1) (by omega) a2 (x2 - x2 / (Int32.ofInt 5) * (Int32.ofInt 5)) (x2 / (Int32.ofInt 5)) s _ hq3) (by omega) wm_X4_isPlace wi_X4_isPlace wv_X4_isPlace km_9_216 (kk_ok c4) (Nat.le_of_ble_eq_true rfl) rfl rfl rfl (Nat.le_of_ble_eq_true rfl) ⟨Nat.le_of_ble_eq_true rfl, Nat.le_of_ble_eq_true rfl⟩ (by decide +kernel) ?_
      show Ev l d mi_X9_leastHarmed 23 [some (.ref 0), some (.int x1), some (.int x2)] [.int q3.1] (hp q3.2) 0 0 _
      refine Ev.if_eq (off := 20) (tgt := 43) (by decide +kernel) (by decide) (fun b5 => ?_) (fun b5 => ?_)
      · have hf := (if_pos b5).symm.trans hf
        refine Ev.blk (pc' := 46) [(.iinc 2 1, 0, 0, 0)] (by decide +kernel) trivial rfl (And.intro (Nat.le_of_ble_eq_true rfl) (?_))
        show Ev l d mi_X9_leastHarmed 46 [some (.ref 0), some (.int x1), some (.int (x2 + Int32.ofInt 1))] [] (hp q3.2) 0 0 _
        refine Ev.goto (off := -42) (tgt := 4) (by decide +kernel) (by decide) ?_
        exact ih x1 (x2 + Int32.ofInt 1) q3.2 _ hf
      · have hf := (if_neg b5).symm.trans hf
        obtain ⟨c6, hf⟩ := gd_some hf
        obtain ⟨c7, hf⟩ := gd_some hf
        refine Ev.blk (pc' := 38) [(.aload_n 0, 0, 0, 0), (.getfield 102, 0, 9, 19), (.iload_n 2, 0, 0, 0), (.iaload, 0, 0, 0), (.aload_n 0, 0, 0, 0), (.getfield 102, 0, 9, 19), (.iload_n 1, 0, 0, 0), (.iaload, 0, 0, 0)] (by decide +kernel) ⟨kf_9_102, ⟨kf_9_102, trivial⟩⟩ rfl (And.intro (kc rfl rfl) (Exists.intro 64 (And.intro rfl (And.intro (kc rfl rfl) (And.intro (ib_ok c6) (And.intro (kc rfl rfl) (Exists.intro 64 (And.intro rfl (And.intro (kc rfl rfl) (And.intro (ib_ok c7) (?_)))))))))))
        show Ev l d mi_X9_leastHarmed 38 [some (.ref 0), some (.int x1), some (.int x2)] [.int (q3.2.1 64 x1.toNatClampNeg), .int (q3.2.1 64 x2.toNatClampNeg)] (hp q3.2) 0 0 _
        refine Ev.icmp_ge (off := 5) (tgt := 43) (by decide +kernel) (by decide) (fun b8 => ?_) (fun b8 => ?_)
        · have hf := (if_pos b8).symm.trans hf
          refine Ev.blk (pc' := 46) [(.iinc 2 1, 0, 0, 0)] (by decide +kernel) trivial rfl (And.intro (Nat.le_of_ble_eq_true rfl) (?_))
          show Ev l d mi_X9_leastHarmed 46 [some (.ref 0), some (.int x1), some (.int (x2 + Int32.ofInt 1))] [] (hp q3.2) 0 0 _
          refine Ev.goto (off := -42) (tgt := 4) (by decide +kernel) (by decide) ?_
          exact ih x1 (x2 + Int32.ofInt 1) q3.2 _ hf
        · have hf := (if_neg b8).symm.trans hf
          refine Ev.blk (pc' := 46) [(.iload_n 2, 0, 0, 0), (.istore_n 1, 0, 0, 0), (.iinc 2 1, 0, 0, 0)] (by decide +kernel) trivial rfl (And.intro (Nat.le_of_ble_eq_true rfl) (And.intro (Nat.le_of_ble_eq_true rfl) (?_)))
          show Ev l d mi_X9_leastHarmed 46 [some (.ref 0), some (.int x2), some (.int (x2 + Int32.ofInt 1))] [] (hp q3.2) 0 0 _
          refine Ev.goto (off := -42) (tgt := 4) (by decide +kernel) (by decide) ?_
          exact ih x2 (x2 + Int32.ofInt 1) q3.2 _ hf
def f_X9_leastHarmed (s : ST) : Option (Int32 × ST) := (f_X9_leastHarmed_L4 fuel) (Int32.ofInt 0) (Int32.ofInt 0) s
set_option maxHeartbeats 2000000 in
set_option maxRecDepth 20000 in
theorem e_X9_leastHarmed {l : Launch} {d : Nat} (hd : 2 ≤ d) (s : ST) (r : Int32 × ST) (hf : f_X9_leastHarmed s = some r) : Cl l d mi_X9_leastHarmed [.ref 0] (hp s) (some (.int r.1), hp r.2) := by
  refine Ev.entry (by decide +kernel) rfl rfl ?_
  show Ev l d mi_X9_leastHarmed 0 [some (.ref 0), none, none] [] (hp s) 0 0 _
  unfold f_X9_leastHarmed at hf
  refine Ev.blk (pc' := 4) [(.iconst 0, 0, 0, 0), (.istore_n 1, 0, 0, 0), (.iconst 0, 0, 0, 0), (.istore_n 2, 0, 0, 0)] (by decide +kernel) trivial rfl (And.intro (Nat.le_of_ble_eq_true rfl) (And.intro (Nat.le_of_ble_eq_true rfl) (?_)))
  show Ev l d mi_X9_leastHarmed 4 [some (.ref 0), some (.int (Int32.ofInt 0)), some (.int (Int32.ofInt 0))] [] (hp s) 0 0 _
  exact (e_X9_leastHarmed_L4 hd fuel) (Int32.ofInt 0) (Int32.ofInt 0) s _ hf
