/-! THE LAW: what holds at its entry, in the small machine's words -/
def lw_flat : List Cond := flatC (Jvm.Cond.and given_1 narrow_1)
theorem lw_f {args : Array Value} {s : State} (hgv : (Jvm.Cond.and given_1 narrow_1).before args s = true) (i : Nat) {w : Cond} (h : lw_flat[i]? = some w) : w.before args s = true := flat_of_before _ hgv w (List.mem_of_getElem? h)
theorem sm_eqi {args : Array Value} {s : State} {A : Term} {z : Int32} (h : (Cond.eq A (.int z)).before args s = true) : A.eval args s none [] s = some (.int z) := by
  cases hv : A.eval args s none [] s with
  | none => simp [Cond.before, Cond.holds, Cond.value, hv] at h
  | some w =>
    have hz : (Term.int z).eval args s none [] s = some (.int z) := rfl
    simp only [Cond.before, Cond.holds, Cond.value, hv, hz] at h
    cases w <;> simp_all
abbrev lw_st (j : Nat) : Term := .static RX9 (sm_snm j) "[I"
theorem lw_s0 : ∀ q, q < 16 → lw_flat[28 + q]? = some (Cond.eq (.elem (lw_st 0) (.int (Int32.ofNat q))) (.int ((sm_sv 0).getD q 0))) := by decide +kernel
theorem lw_S0 {b : Nat} {s : State} (hts : ∀ w ∈ lw_tbl, w.before #[Value.ref b] s = true) (hgv : (Jvm.Cond.and given_1 narrow_1).before #[Value.ref b] s = true) : ∃ t : Nat, va_Z RX9 (sm_snm 0) "[I" (.ref t) (sm_A s.heap.size) s s.heap ∧ va_T .int t (sm_sv 0).length (fun i => .int ((sm_sv 0).getD i 0)) (sm_A s.heap.size) s s.heap := by
  have hA : ∀ a : Nat, a < s.heap.size → ¬ sm_A s.heap.size a := fun a h => Nat.not_le.mpr h
  obtain ⟨t, h1, h2⟩ := va_Tof (tm := lw_st 0) (ty := .int) (N := 16) (f := fun i => .int ((sm_sv 0).getD i 0)) (by decide) (lw_f hgv 26 (by decide +kernel)) (sm_eqi (lw_f hgv 27 (by decide +kernel))) (fun q hq => sm_eqi (lw_f hgv _ (lw_s0 q hq))) hA
  exact ⟨t, va_Zref (hts _ (List.mem_append_right _ (show _ ∈ tables_1 from (List.mem_append_right _ (List.mem_append_right _ (List.mem_append_left _ (List.mem_of_getElem? (i := 220) rfl))))))) (hts _ (List.mem_append_right _ (show _ ∈ tables_1 from (List.mem_append_left _ (List.mem_of_getElem? (i := 1) rfl))))) h1 hA, h2⟩
theorem lw_s1 : ∀ q, q < 16 → lw_flat[47 + q]? = some (Cond.eq (.elem (lw_st 1) (.int (Int32.ofNat q))) (.int ((sm_sv 1).getD q 0))) := by decide +kernel
theorem lw_S1 {b : Nat} {s : State} (hts : ∀ w ∈ lw_tbl, w.before #[Value.ref b] s = true) (hgv : (Jvm.Cond.and given_1 narrow_1).before #[Value.ref b] s = true) : ∃ t : Nat, va_Z RX9 (sm_snm 1) "[I" (.ref t) (sm_A s.heap.size) s s.heap ∧ va_T .int t (sm_sv 1).length (fun i => .int ((sm_sv 1).getD i 0)) (sm_A s.heap.size) s s.heap := by
  have hA : ∀ a : Nat, a < s.heap.size → ¬ sm_A s.heap.size a := fun a h => Nat.not_le.mpr h
  obtain ⟨t, h1, h2⟩ := va_Tof (tm := lw_st 1) (ty := .int) (N := 16) (f := fun i => .int ((sm_sv 1).getD i 0)) (by decide) (lw_f hgv 45 (by decide +kernel)) (sm_eqi (lw_f hgv 46 (by decide +kernel))) (fun q hq => sm_eqi (lw_f hgv _ (lw_s1 q hq))) hA
  exact ⟨t, va_Zref (hts _ (List.mem_append_right _ (show _ ∈ tables_1 from (List.mem_append_right _ (List.mem_append_right _ (List.mem_append_left _ (List.mem_of_getElem? (i := 222) rfl))))))) (hts _ (List.mem_append_right _ (show _ ∈ tables_1 from (List.mem_append_left _ (List.mem_of_getElem? (i := 1) rfl))))) h1 hA, h2⟩
theorem lw_s2 : ∀ q, q < 5 → lw_flat[12 + q]? = some (Cond.eq (.elem (lw_st 2) (.int (Int32.ofNat q))) (.int ((sm_sv 2).getD q 0))) := by decide +kernel
theorem lw_S2 {b : Nat} {s : State} (hts : ∀ w ∈ lw_tbl, w.before #[Value.ref b] s = true) (hgv : (Jvm.Cond.and given_1 narrow_1).before #[Value.ref b] s = true) : ∃ t : Nat, va_Z RX9 (sm_snm 2) "[I" (.ref t) (sm_A s.heap.size) s s.heap ∧ va_T .int t (sm_sv 2).length (fun i => .int ((sm_sv 2).getD i 0)) (sm_A s.heap.size) s s.heap := by
  have hA : ∀ a : Nat, a < s.heap.size → ¬ sm_A s.heap.size a := fun a h => Nat.not_le.mpr h
  obtain ⟨t, h1, h2⟩ := va_Tof (tm := lw_st 2) (ty := .int) (N := 5) (f := fun i => .int ((sm_sv 2).getD i 0)) (by decide) (lw_f hgv 10 (by decide +kernel)) (sm_eqi (lw_f hgv 11 (by decide +kernel))) (fun q hq => sm_eqi (lw_f hgv _ (lw_s2 q hq))) hA
  exact ⟨t, va_Zref (hts _ (List.mem_append_right _ (show _ ∈ tables_1 from (List.mem_append_right _ (List.mem_append_right _ (List.mem_append_left _ (List.mem_of_getElem? (i := 212) rfl))))))) (hts _ (List.mem_append_right _ (show _ ∈ tables_1 from (List.mem_append_left _ (List.mem_of_getElem? (i := 1) rfl))))) h1 hA, h2⟩
theorem lw_s3 : ∀ q, q < 5 → lw_flat[20 + q]? = some (Cond.eq (.elem (lw_st 3) (.int (Int32.ofNat q))) (.int ((sm_sv 3).getD q 0))) := by decide +kernel
theorem lw_S3 {b : Nat} {s : State} (hts : ∀ w ∈ lw_tbl, w.before #[Value.ref b] s = true) (hgv : (Jvm.Cond.and given_1 narrow_1).before #[Value.ref b] s = true) : ∃ t : Nat, va_Z RX9 (sm_snm 3) "[I" (.ref t) (sm_A s.heap.size) s s.heap ∧ va_T .int t (sm_sv 3).length (fun i => .int ((sm_sv 3).getD i 0)) (sm_A s.heap.size) s s.heap := by
  have hA : ∀ a : Nat, a < s.heap.size → ¬ sm_A s.heap.size a := fun a h => Nat.not_le.mpr h
  obtain ⟨t, h1, h2⟩ := va_Tof (tm := lw_st 3) (ty := .int) (N := 5) (f := fun i => .int ((sm_sv 3).getD i 0)) (by decide) (lw_f hgv 18 (by decide +kernel)) (sm_eqi (lw_f hgv 19 (by decide +kernel))) (fun q hq => sm_eqi (lw_f hgv _ (lw_s3 q hq))) hA
  exact ⟨t, va_Zref (hts _ (List.mem_append_right _ (show _ ∈ tables_1 from (List.mem_append_right _ (List.mem_append_right _ (List.mem_append_left _ (List.mem_of_getElem? (i := 214) rfl))))))) (hts _ (List.mem_append_right _ (show _ ∈ tables_1 from (List.mem_append_left _ (List.mem_of_getElem? (i := 1) rfl))))) h1 hA, h2⟩
theorem lw_wl : sm_wb.length = 198 := by decide +kernel
theorem lw_tx : ∀ q, q < 198 → lw_flat[67 + q]? = some (Cond.eq (.elem (.field (.string RX5 61) "java/lang/String" "value" "[B") (.int (Int32.ofNat q))) (.int (sm_wb.getD q 0))) := by decide +kernel
theorem lw_txt1 {args : Array Value} {s : State} {tm : Term} {n : Nat} {bs : List Int32} {A : Nat → Prop} (hN : n < 2 ^ 31) (hex : (Cond.exactly tm "java/lang/String").before args s = true) (hco : (Cond.eq (.field tm "java/lang/String" "coder" "B") (.int 0)).before args s = true) (har : (Cond.arrayOf (.field tm "java/lang/String" "value" "[B") .byte).before args s = true)
    (hle : (Cond.eq (.length (.field tm "java/lang/String" "value" "[B")) (.int (Int32.ofNat n))).before args s = true) (hel : ∀ q : Nat, q < n → (Cond.eq (.elem (.field tm "java/lang/String" "value" "[B") (.int (Int32.ofNat q))) (.int (bs.getD q 0))).before args s = true) (hA : ∀ a : Nat, a < s.heap.size → ¬ A a) :
    ∃ k v : Nat, tm.eval args s none [] s = some (.ref k) ∧ vk_S 1 [n] [bs] (fun _ => k) (fun _ => v) A s s.heap := by
  obtain ⟨adK, adV, h1, h2⟩ := vk_Sof (N := 1) (tm := fun _ => tm) (len := [n]) (byt := [bs]) (args := args) (s := s) (A := A)
    (fun i hi => by have e : i = 0 := by omega
                    subst e
                    exact hN)
    (fun i hi => hex) (fun i hi => hco) (fun i hi => har)
    (fun i hi => by have e : i = 0 := by omega
                    subst e
                    exact hle)
    (fun i hi q hq => by have e : i = 0 := by omega
                         subst e
                         exact hel q hq)
    (fun i j hi hj hne => absurd (show i = j by omega) hne) hA
  refine ⟨adK 0, adV 0, h2 0 Nat.zero_lt_one, ?_, fun i j hi hj _ => by omega⟩
  intro i hi
  have e : i = 0 := by omega
  subst e
  exact h1.1 0 Nat.zero_lt_one
theorem lw_txt {b : Nat} {s : State} (hts : ∀ w ∈ lw_tbl, w.before #[Value.ref b] s = true) (hgv : (Jvm.Cond.and given_1 narrow_1).before #[Value.ref b] s = true) : ∃ k v : Nat, vk_R RX5 61 sm_words k s ∧ vk_S 1 [sm_wb.length] [sm_wb] (fun _ => k) (fun _ => v) (sm_A s.heap.size) s s.heap := by
  have hA : ∀ a : Nat, a < s.heap.size → ¬ sm_A s.heap.size a := fun a h => Nat.not_le.mpr h
  obtain ⟨k, v, h2, h1⟩ := lw_txt1 (tm := Term.string RX5 61) (n := sm_wb.length) (bs := sm_wb) (args := #[Value.ref b]) (s := s) (A := sm_A s.heap.size) (by rw [lw_wl]; decide) (lw_f hgv 63 (by decide +kernel)) (lw_f hgv 64 (by decide +kernel)) (lw_f hgv 65 (by decide +kernel)) (by rw [lw_wl]; exact lw_f hgv 66 (by decide +kernel)) (fun q hq => by rw [lw_wl] at hq; exact lw_f hgv _ (lw_tx q hq)) hA
  exact ⟨k, v, vk_R.of (hts _ (List.mem_append_right _ (show _ ∈ tables_1 from (List.mem_append_right _ (List.mem_append_left _ (List.mem_of_getElem? (i := 239) rfl)))))) h2, h1⟩
theorem lw_iN (x : Int32) : Int32.ofNat x.toUInt32.toNat = x := by
  obtain ⟨u⟩ := x
  show Int32.ofUInt32 (UInt32.ofNat u.toNat) = Int32.ofUInt32 u
  rw [UInt32.ofNat_toNat]
def lw_sa (t : Nat → Nat) (b L : Nat) (xs : Nat → Int32) : Nat → Nat := fun j => if j < 7 then t j else if j = 7 then b else if j = 8 then L else if j = 9 then 0 else (xs (j - 10)).toUInt32.toNat
theorem lw_K {b : Nat} {s : State} (hts : ∀ w ∈ sm_Tg, w.before #[Value.ref b] s = true) : ∃ (cy : Nat → ClassId) (D : va_G), va_K D vwCl (sm_tys cy) s := by
  have hq : ∀ c, c < 11 → Cond.instantiable (sm_RC c) (sm_nC c) ∈ sm_Tg := fun c hc => by
    match c, hc with
    | 0, _ => exact kq_0
    | 1, _ => exact kq_1
    | 2, _ => exact kq_2
    | 3, _ => exact kq_3
    | 4, _ => exact kq_4
    | 5, _ => exact kq_5
    | 6, _ => exact kq_6
    | 7, _ => exact kq_7
    | 8, _ => exact kq_8
    | 9, _ => exact kq_9
    | 10, _ => exact kq_10
    | n + 11, h => exact absurd h (by omega)
  have hk : ∀ c, ∃ (cC : ClassId) (iS : Nat → Nat), c < 11 → u_Kn s (sm_RC c) (sm_TC c) (sm_nC c) cC iS := fun c => by
    by_cases hc : c < 11
    · obtain ⟨cC, iS, h⟩ := u_known (C := sm_RC c) (T := sm_TC c) (N := sm_nC c) hts (sm_lay hc) (hts _ (hq c hc))
      exact ⟨cC, iS, fun _ => h⟩
    · exact ⟨0, fun _ => 0, fun h => absurd h hc⟩
  have ha : ∀ ty : FieldType, Cond.arrayClass ty ∈ sm_Tg → (ty = .byte ∨ ty = .char ∨ ty = .int ∨ ty = .long) → ∃ cA : ClassId, ArrOfT s cA ty ∧ va_RA s cA ty := fun ty hw hp => by
    obtain ⟨cA, kA, comp, h1, h2, h3⟩ := Cond.arrayClass_spec (hts _ hw)
    refine ⟨cA, fun n z => ⟨fun k h => (by cases h), kA, h2, comp, h3⟩, ?_⟩
    rcases hp with rfl | rfl | rfl | rfl <;> exact h1
  obtain ⟨a11, x11⟩ := ha _ war_byte (Or.inl rfl)
  obtain ⟨a12, x12⟩ := ha _ war_char (Or.inr (Or.inl rfl))
  obtain ⟨a13, x13⟩ := ha _ war_int (Or.inr (Or.inr (Or.inl rfl)))
  obtain ⟨a14, x14⟩ := ha _ war_long (Or.inr (Or.inr (Or.inr rfl)))
  refine ⟨fun j => if j = 11 then a11 else if j = 12 then a12 else if j = 13 then a13 else a14, (fun c => Classical.choose (hk c), fun c => Classical.choose (Classical.choose_spec (hk c))), ?_, ?_⟩
  · intro c q hc
    have hl : c < 11 := (List.getElem?_eq_some_iff.mp hc).1
    rw [sm_cl hl] at hc
    cases hc
    exact Classical.choose_spec (Classical.choose_spec (hk c)) hl
  · intro k q h
    match k, h with
    | 0, h => cases h; exact x11
    | 1, h => cases h; exact x12
    | 2, h => cases h; exact x13
    | 3, h => cases h; exact x14
    | n + 4, h => simp at h
theorem lw_ctx {p : Program} {s : State} {m : MethodId} {meth : Method} {c : Code} {b L : Nat} {xs : Nat → Int32} (C0 : lw_At p s m meth c b L xs) : ∃ (sa : Nat → Nat) (cy : Nat → ClassId) (D : va_G), sm_Cx mi_law s.heap.size sa cy D p s m #[Value.ref b] meth c ∧ sa 7 = b := by
  obtain ⟨hx, hb, hr, hml, hown, hts, hX, hbl, hlocks, hgv, hname⟩ := C0
  have htg : ∀ w ∈ sm_Tg, w.before #[Value.ref b] s = true := fun w hw => hts w (List.mem_filter.mp hw).1
  have hA : ∀ a : Nat, a < s.heap.size → ¬ sm_A s.heap.size a := fun a h => Nat.not_le.mpr h
  obtain ⟨cy, D, hK⟩ := lw_K htg
  obtain ⟨t0, z0⟩ := lw_S0 hts hgv
  obtain ⟨t1, z1⟩ := lw_S1 hts hgv
  obtain ⟨t2, z2⟩ := lw_S2 hts hgv
  obtain ⟨t3, z3⟩ := lw_S3 hts hgv
  obtain ⟨t4, t5, r4, s4⟩ := lw_txt hts hgv
  have hc : va_Z RJ0 "COMPACT_STRINGS" "Z" (.int 1) (sm_A s.heap.size) s s.heap := va_Zof (hts _ (List.mem_append_right _ (show _ ∈ tables_1 from (List.mem_append_right _ (List.mem_append_right _ (List.mem_append_left _ (List.mem_of_getElem? (i := 9) rfl))))))) (hts _ (List.mem_append_right _ (show _ ∈ tables_1 from (List.mem_append_left _ (List.mem_of_getElem? (i := 13) rfl))))) (va_eqi (lw_f hgv 4 (by decide +kernel))) hA
  have hf : va_Zq RJ3 "SIOOBE_FORMATTER" "Ljava/util/function/BiFunction;" (sm_A s.heap.size) s s.heap := va_Zqof (hts _ (List.mem_append_right _ (show _ ∈ tables_1 from (List.mem_append_right _ (List.mem_append_right _ (List.mem_append_left _ (List.mem_of_getElem? (i := 25) rfl))))))) (hts _ (List.mem_append_right _ (show _ ∈ tables_1 from (List.mem_append_left _ (List.mem_of_getElem? (i := 15) rfl))))) (lw_f hgv 5 (by decide +kernel)) hA
  obtain ⟨t6, hf6⟩ : ∃ t6 : Nat, va_Z RJ3 "SIOOBE_FORMATTER" "Ljava/util/function/BiFunction;" .null (sm_A s.heap.size) s s.heap ∨ va_Z RJ3 "SIOOBE_FORMATTER" "Ljava/util/function/BiFunction;" (.ref t6) (sm_A s.heap.size) s s.heap := by
    rcases hf with h | ⟨t, h⟩
    · exact ⟨0, Or.inl h⟩
    · exact ⟨t, Or.inr h⟩
  have hxs : (fun i => Int32.ofNat (lw_sa (fun j => [t0, t1, t2, t3, t4, t5, t6].getD j 0) b L xs (10 + i))) = xs := by
    funext i
    have e : lw_sa (fun j => [t0, t1, t2, t3, t4, t5, t6].getD j 0) b L xs (10 + i) = (xs i).toUInt32.toNat := by
      unfold lw_sa
      rw [if_neg (by omega), if_neg (by omega), if_neg (by omega), if_neg (by omega), show 10 + i - 10 = i by omega]
    rw [e]
    exact lw_iN (xs i)
  refine ⟨lw_sa (fun j => [t0, t1, t2, t3, t4, t5, t6].getD j 0) b L xs, cy, D, ⟨hx, hb, hml, hr, hlocks, htg, hown, hname, Nat.le_refl _, hK, ?_⟩, rfl⟩
  refine ⟨fun j hj => ?_, r4, s4, ⟨hc, hf6, ?_, hbl, hbl⟩, fun w hw => ?_⟩
  · match j, hj with
    | 0, _ => exact z0
    | 1, _ => exact z1
    | 2, _ => exact z2
    | 3, _ => exact z3
    | n + 4, h => exact absurd h (by omega)
  · show va_X b L (fun i => Int32.ofNat (lw_sa (fun j => [t0, t1, t2, t3, t4, t5, t6].getD j 0) b L xs (10 + i))) s s.heap
    rw [hxs]
    exact hX
  · have h1 := hts w (List.mem_filter.mp hw).1
    have h2 := (List.mem_filter.mp hw).2
    refine va_Nw.of ?_ h1
    unfold sm_isNest at h2
    split at h2
    · rfl
    · rfl
    · cases h2
