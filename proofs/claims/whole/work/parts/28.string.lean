/-! THE TEXT'S OWN METHODS: length and charAt of the constant -/
theorem kS_38 : Cond.fieldLink (sm_RC 14) 38 "java/lang/String" "COMPACT_STRINGS" "Z" ∈ sm_Tg := sg_3 (i := 8) rfl rfl
theorem kS_15 : Cond.fieldLink (sm_RC 14) 15 "java/lang/String" "coder" "B" ∈ sm_Tg := sg_9 (i := 212) rfl rfl
theorem kS_9 : Cond.fieldLink (sm_RC 14) 9 "java/lang/String" "value" "[B" ∈ sm_Tg := sg_9 (i := 211) rfl rfl
theorem kS_1053 : Cond.fieldLink (sm_RC 14) 1053 "jdk/internal/util/Preconditions" "SIOOBE_FORMATTER" "Ljava/util/function/BiFunction;" ∈ sm_Tg := sg_3 (i := 24) rfl rfl
section STR
variable {l : Launch} {d : Nat} {h : SH}
theorem cs_coder (hd : 1 ≤ d) : Cl l d mi_J0_coder_7d493 [.ref 1000004] h (some (.int 0), h) := by
  refine Ev.entry (by decide +kernel) rfl rfl ?_
  show Ev l d mi_J0_coder_7d493 0 [some (.ref 1000004)] [] h 0 0 _
  refine Ev.strCompact kS_38 (by decide +kernel) ?_
  refine Ev.if_eq (off := 10) (tgt := 13) (by decide +kernel) (by decide) (fun b => absurd b (by decide)) (fun b => ?_)
  refine Ev.blk (pc' := 7) [(.aload_n 0, 0, 0, 0)] (by decide +kernel) trivial rfl ?_
  show Ev l d mi_J0_coder_7d493 7 [some (.ref 1000004)] [.ref 1000004] h 0 0 _
  refine Ev.strCoder kS_15 (by decide +kernel) ?_
  refine Ev.goto (off := 4) (tgt := 14) (by decide +kernel) (by decide) ?_
  exact Ev.iret .byte rfl rfl (by decide +kernel) (Nat.le_refl _) (Nat.le_refl _)
theorem cs_isLatin1 (hd : 1 ≤ d) : Cl l d mi_J0_isLatin1_aae02 [.ref 1000004] h (some (.int 1), h) := by
  refine Ev.entry (by decide +kernel) rfl rfl ?_
  show Ev l d mi_J0_isLatin1_aae02 0 [some (.ref 1000004)] [] h 0 0 _
  refine Ev.strCompact kS_38 (by decide +kernel) ?_
  refine Ev.if_eq (off := 14) (tgt := 17) (by decide +kernel) (by decide) (fun b => absurd b (by decide)) (fun b => ?_)
  refine Ev.blk (pc' := 7) [(.aload_n 0, 0, 0, 0)] (by decide +kernel) trivial rfl ?_
  show Ev l d mi_J0_isLatin1_aae02 7 [some (.ref 1000004)] [.ref 1000004] h 0 0 _
  refine Ev.strCoder kS_15 (by decide +kernel) ?_
  refine Ev.if_ne (off := 7) (tgt := 17) (by decide +kernel) (by decide) (fun b => absurd rfl b) (fun b => ?_)
  refine Ev.blk (pc' := 14) [(.iconst 1, 0, 0, 0)] (by decide +kernel) trivial rfl ?_
  show Ev l d mi_J0_isLatin1_aae02 14 [some (.ref 1000004)] [.int 1] h 0 0 _
  refine Ev.goto (off := 4) (tgt := 18) (by decide +kernel) (by decide) ?_
  exact Ev.iret .boolean rfl rfl (by decide +kernel) (Nat.le_refl _) (Nat.le_refl _)
theorem cs_length (hd : 2 ≤ d) : Cl l d mi_J0_length_8abf5 [.ref 1000004] h (some (.int (Int32.ofNat sm_wb.length >>> ((0 : Int32) &&& 31))), h) := by
  refine Ev.entry (by decide +kernel) rfl rfl ?_
  show Ev l d mi_J0_length_8abf5 0 [some (.ref 1000004)] [] h 0 0 _
  refine Ev.blk (pc' := 1) [(.aload_n 0, 0, 0, 0)] (by decide +kernel) trivial rfl ?_
  show Ev l d mi_J0_length_8abf5 1 [some (.ref 1000004)] [.ref 1000004] h 0 0 _
  refine Ev.strValue kS_9 (by decide +kernel) ?_
  refine Ev.outLen (by decide +kernel) ?_
  refine Ev.blk (pc' := 6) [(.aload_n 0, 0, 0, 0)] (by decide +kernel) trivial rfl ?_
  show Ev l d mi_J0_length_8abf5 6 [some (.ref 1000004)] [.ref 1000004, .int (Int32.ofNat sm_wb.length)] h 0 0 _
  refine Ev.callStr (M' := mi_J0_coder_7d493) (d' := d - 1) (As := []) (rest := [.int (Int32.ofNat sm_wb.length)]) (r' := (some (.int 0), h)) (cs_coder (by omega)) (by omega) wm_J0_coder_7d493 rfl wi_J0_coder_7d493 wv_J0_coder_7d493 km_14_335 rfl rfl rfl (Nat.le_of_ble_eq_true rfl) ⟨Nat.le_of_ble_eq_true rfl, Nat.le_of_ble_eq_true rfl⟩ (by decide +kernel) ?_
  show Ev l d mi_J0_length_8abf5 9 [some (.ref 1000004)] [.int 0, .int (Int32.ofNat sm_wb.length)] h 0 0 _
  refine Ev.blk (pc' := 10) [(.ishr, 0, 0, 0)] (by decide +kernel) trivial rfl ?_
  show Ev l d mi_J0_length_8abf5 10 [some (.ref 1000004)] [.int (Int32.ofNat sm_wb.length >>> ((0 : Int32) &&& 31))] h 0 0 _
  exact Ev.iret .int rfl rfl (by decide +kernel) (Nat.le_refl _) (Nat.le_refl _)
theorem cs_preIndex (hd : 1 ≤ d) {i n : Int32} {v : Value} (hv : v = .null ∨ v = .ref 1000006) (h1 : ¬ i < 0) (h2 : i < n) : Cl l d mi_J3_checkIndex_8e157 [.int i, .int n, v] h (some (.int i), h) := by
  refine Ev.entry (by decide +kernel) rfl (by rcases hv with rfl | rfl <;> rfl) ?_
  have e : sm_lv 3 [.int i, .int n, v] = [some (.int i), some (.int n), some v] := by rcases hv with rfl | rfl <;> rfl
  show Ev l d mi_J3_checkIndex_8e157 0 (sm_lv 3 [.int i, .int n, v]) [] h 0 0 _
  rw [e]
  refine Ev.blk (pc' := 1) [(.iload_n 0, 0, 0, 0)] (by decide +kernel) trivial rfl ?_
  show Ev l d mi_J3_checkIndex_8e157 1 [some (.int i), some (.int n), some v] [.int i] h 0 0 _
  refine Ev.if_lt (off := 8) (tgt := 9) (by decide +kernel) (by decide) (fun b => absurd b h1) (fun b => ?_)
  refine Ev.blk (pc' := 6) [(.iload_n 0, 0, 0, 0), (.iload_n 1, 0, 0, 0)] (by decide +kernel) trivial rfl ?_
  show Ev l d mi_J3_checkIndex_8e157 6 [some (.int i), some (.int n), some v] [.int n, .int i] h 0 0 _
  refine Ev.icmp_lt (off := 10) (tgt := 16) (by decide +kernel) (by decide) (fun b => ?_) (fun b => absurd h2 b)
  refine Ev.blk (pc' := 17) [(.iload_n 0, 0, 0, 0)] (by decide +kernel) trivial rfl ?_
  show Ev l d mi_J3_checkIndex_8e157 17 [some (.int i), some (.int n), some v] [.int i] h 0 0 _
  exact Ev.iret .int rfl rfl (by decide +kernel) (Nat.le_refl _) (Nat.le_refl _)
theorem cs_checkIndex (hd : 2 ≤ d) {i n : Int32} (h1 : ¬ i < 0) (h2 : i < n) : Cl l d mi_J0_checkIndex_df160 [.int i, .int n] h (none, h) := by
  refine Ev.entry (by decide +kernel) rfl rfl ?_
  show Ev l d mi_J0_checkIndex_df160 0 [some (.int i), some (.int n)] [] h 0 0 _
  refine Ev.blk (pc' := 2) [(.iload_n 0, 0, 0, 0), (.iload_n 1, 0, 0, 0)] (by decide +kernel) trivial rfl ?_
  show Ev l d mi_J0_checkIndex_df160 2 [some (.int i), some (.int n)] [.int n, .int i] h 0 0 _
  refine Ev.strFmt kS_1053 (by decide +kernel) (fun v hv => ?_)
  refine Ev.callS (M' := mi_J3_checkIndex_8e157) (d' := d - 1) (As := [.int i, .int n, v]) (rest := []) (r' := (some (.int i), h)) (cs_preIndex (by omega) hv h1 h2) (by omega) wm_J3_checkIndex_8e157 wt_J3_checkIndex_8e157 km_14_1059 rfl rfl rfl (Nat.le_of_ble_eq_true rfl) ⟨Nat.le_of_ble_eq_true rfl, Nat.le_of_ble_eq_true rfl⟩ (by decide +kernel) ?_
  show Ev l d mi_J0_checkIndex_df160 8 [some (.int i), some (.int n)] [.int i] h 0 0 _
  refine Ev.blk (pc' := 9) [(.pop, 0, 0, 0)] (by decide +kernel) trivial rfl (And.intro rfl ?_)
  exact Ev.vret rfl (by decide +kernel) (Nat.le_refl _) (Nat.le_refl _)
/-- the char at i -/
def sm_ch (i : Int32) : Int32 := ((sm_wb.getD i.toNatClampNeg 0 &&& (Int16.ofInt 255).toInt32).toUInt32 % 65536).toInt32
theorem cs_charAtL (hd : 3 ≤ d) {i : Int32} (hi : vp_in i sm_wb.length) : Cl l d mi_J1_charAt_3b067 [.ref 1000005, .int i] h (some (.int (sm_ch i)), h) := by
  have h1 : ¬ i < 0 := fun z => hi (Or.inl z)
  have hL : sm_wb.length < 2 ^ 31 := by decide +kernel
  have h2 : i < Int32.ofNat sm_wb.length := by
    obtain ⟨j, hj, rfl⟩ := vp_in_of hi hL
    exact nI_lt hj hL
  refine Ev.entry (by decide +kernel) rfl rfl ?_
  show Ev l d mi_J1_charAt_3b067 0 [some (.ref 1000005), some (.int i)] [] h 0 0 _
  refine Ev.blk (pc' := 2) [(.iload_n 1, 0, 0, 0), (.aload_n 0, 0, 0, 0)] (by decide +kernel) trivial rfl ?_
  show Ev l d mi_J1_charAt_3b067 2 [some (.ref 1000005), some (.int i)] [.ref 1000005, .int i] h 0 0 _
  refine Ev.outLen (by decide +kernel) ?_
  refine Ev.callS (M' := mi_J0_checkIndex_df160) (d' := d - 1) (As := [.int i, .int (Int32.ofNat sm_wb.length)]) (rest := []) (r' := (none, h)) (cs_checkIndex (by omega) h1 h2) (by omega) wm_J0_checkIndex_df160 wt_J0_checkIndex_df160 km_15_9 rfl rfl rfl (Nat.le_of_ble_eq_true rfl) ⟨Nat.le_of_ble_eq_true rfl, Nat.le_of_ble_eq_true rfl⟩ (by decide +kernel) ?_
  show Ev l d mi_J1_charAt_3b067 6 [some (.ref 1000005), some (.int i)] [] h 0 0 _
  refine Ev.blk (pc' := 8) [(.aload_n 0, 0, 0, 0), (.iload_n 1, 0, 0, 0)] (by decide +kernel) trivial rfl ?_
  show Ev l d mi_J1_charAt_3b067 8 [some (.ref 1000005), some (.int i)] [.int i, .ref 1000005] h 0 0 _
  refine Ev.outByte hi (by decide +kernel) ?_
  refine Ev.blk (pc' := 14) [(.sipush 255, 0, 0, 0), (.iand, 0, 0, 0), (.i2c, 0, 0, 0)] (by decide +kernel) trivial rfl ?_
  show Ev l d mi_J1_charAt_3b067 14 [some (.ref 1000005), some (.int i)] [.int (sm_ch i)] h 0 0 _
  exact Ev.iret .char rfl (pk_nc _) (by decide +kernel) (Nat.le_refl _) (Nat.le_refl _)
theorem cs_charAt (hd : 4 ≤ d) {i : Int32} (hi : vp_in i sm_wb.length) : Cl l d mi_J0_charAt_5068e [.ref 1000004, .int i] h (some (.int (sm_ch i)), h) := by
  refine Ev.entry (by decide +kernel) rfl rfl ?_
  show Ev l d mi_J0_charAt_5068e 0 [some (.ref 1000004), some (.int i)] [] h 0 0 _
  refine Ev.blk (pc' := 1) [(.aload_n 0, 0, 0, 0)] (by decide +kernel) trivial rfl ?_
  show Ev l d mi_J0_charAt_5068e 1 [some (.ref 1000004), some (.int i)] [.ref 1000004] h 0 0 _
  refine Ev.callStr (M' := mi_J0_isLatin1_aae02) (d' := d - 1) (As := []) (rest := []) (r' := (some (.int 1), h)) (cs_isLatin1 (by omega)) (by omega) wm_J0_isLatin1_aae02 rfl wi_J0_isLatin1_aae02 wv_J0_isLatin1_aae02 km_14_492 rfl rfl rfl (Nat.le_of_ble_eq_true rfl) ⟨Nat.le_of_ble_eq_true rfl, Nat.le_of_ble_eq_true rfl⟩ (by decide +kernel) ?_
  show Ev l d mi_J0_charAt_5068e 4 [some (.ref 1000004), some (.int i)] [.int 1] h 0 0 _
  refine Ev.if_eq (off := 12) (tgt := 16) (by decide +kernel) (by decide) (fun b => absurd b (by decide)) (fun b => ?_)
  refine Ev.blk (pc' := 8) [(.aload_n 0, 0, 0, 0)] (by decide +kernel) trivial rfl ?_
  show Ev l d mi_J0_charAt_5068e 8 [some (.ref 1000004), some (.int i)] [.ref 1000004] h 0 0 _
  refine Ev.strValue kS_9 (by decide +kernel) ?_
  refine Ev.blk (pc' := 12) [(.iload_n 1, 0, 0, 0)] (by decide +kernel) trivial rfl ?_
  show Ev l d mi_J0_charAt_5068e 12 [some (.ref 1000004), some (.int i)] [.int i, .ref 1000005] h 0 0 _
  refine Ev.callS (M' := mi_J1_charAt_3b067) (d' := d - 1) (As := [.ref 1000005, .int i]) (rest := []) (r' := (some (.int (sm_ch i)), h)) (cs_charAtL (by omega) hi) (by omega) wm_J1_charAt_3b067 wt_J1_charAt_3b067 km_14_495 rfl rfl rfl (Nat.le_of_ble_eq_true rfl) ⟨Nat.le_of_ble_eq_true rfl, Nat.le_of_ble_eq_true rfl⟩ (by decide +kernel) ?_
  show Ev l d mi_J0_charAt_5068e 15 [some (.ref 1000004), some (.int i)] [.int (sm_ch i)] h 0 0 _
  exact Ev.iret .char rfl (pk_nc _) (by decide +kernel) (Nat.le_refl _) (Nat.le_refl _)
end STR
def f_J0_length_8abf5 (s : ST) : Option (Int32 × ST) := some (Int32.ofNat sm_wb.length >>> ((0 : Int32) &&& 31), s)
theorem e_J0_length_8abf5 {l : Launch} {d : Nat} (hd : 2 ≤ d) (s : ST) (r : Int32 × ST) (hf : f_J0_length_8abf5 s = some r) : Cl l d mi_J0_length_8abf5 [.ref 1000004] (hp s) (some (.int r.1), hp r.2) := by
  have e : (Int32.ofNat sm_wb.length >>> ((0 : Int32) &&& 31), s) = r := Option.some.inj hf
  rw [← e]
  exact cs_length hd
def f_J0_charAt_5068e (p0 : Int32) (s : ST) : Option (Int32 × ST) := gd (ib p0 sm_wb.length) (some (sm_ch p0, s))
theorem e_J0_charAt_5068e {l : Launch} {d : Nat} (hd : 4 ≤ d) (p0 : Int32) (s : ST) (r : Int32 × ST) (hf : f_J0_charAt_5068e p0 s = some r) : Cl l d mi_J0_charAt_5068e [.ref 1000004, .int p0] (hp s) (some (.int r.1), hp r.2) := by
  obtain ⟨c1, hf⟩ := gd_some hf
  cases hf
  exact cs_charAt hd (ib_ok c1)
