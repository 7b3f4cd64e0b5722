/-! THE END: the start, and the claim -/
def B0 : Brd := fun i j => if i = 0 ∧ j = 7 then -1 else 0
def G0 : Gam := fun _ _ => 0
set_option maxRecDepth 100000 in
theorem s0_a : (s0.1 101 3 = Int32.ofInt 0 ∧ s0.1 101 4 = Int32.ofInt 0 ∧ s0.1 101 5 = Int32.ofInt 0 ∧ s0.1 103 4 = Int32.ofInt 0 ∧ s0.1 103 5 = Int32.ofInt 0 ∧ s0.1 103 6 = Int32.ofInt 0 ∧ s0.1 103 7 = Int32.ofInt 0 ∧ s0.1 108 2 = Int32.ofInt 0 ∧ s0.1 108 3 = Int32.ofInt 0) ∧ (s0.1 112 0 = Int32.ofInt 0 ∧ s0.1 112 1 = Int32.ofInt 0) ∧ s0.1 109 1 = Int32.ofInt (-1) ∧ (s0.1 65 58 = Int32.ofInt 0 ∧ s0.1 65 75 = Int32.ofInt 0 ∧ s0.1 65 78 = Int32.ofInt (-1)) ∧ (s0.1 112 24 = Int32.ofInt 0 ∧ s0.1 65 84 = Int32.ofInt 0 ∧ s0.1 65 85 = Int32.ofInt 0 ∧ s0.1 65 80 = Int32.ofInt 0 ∧ s0.2.1 65 86 = Int64.ofInt 1 ∧ s0.1 65 1 = Int32.ofInt 0 ∧ s0.1 65 121 = Int32.ofInt 0) := by decide +kernel
set_option maxRecDepth 100000 in
theorem s0_b : (s0.1 6 0 = Int32.ofInt 0 ∧ s0.1 6 1 = Int32.ofInt 0 ∧ s0.1 6 3 = Int32.ofInt 0 ∧ s0.1 6 8 = Int32.ofInt 0 ∧ s0.1 6 12 = Int32.ofInt 0 ∧ s0.1 6 18 = Int32.ofInt 0 ∧ s0.1 6 19 = Int32.ofInt 0) ∧ s0.1 6 17 = Int32.ofInt 0 ∧ (s0.1 41 0 = Int32.ofInt 0 ∧ s0.1 41 1 = Int32.ofInt 0 ∧ s0.1 36 8 = Int32.ofInt 0 ∧ s0.1 36 9 = Int32.ofInt 0) ∧ (s0.1 36 2 = Int32.ofInt 0 ∧ s0.1 36 1 = Int32.ofInt 0 ∧ s0.1 37 0 = Int32.ofInt 0 ∧ s0.1 37 1 = Int32.ofInt 0) ∧ (s0.1 56 1 = Int32.ofInt 0 ∧ s0.1 56 3 = Int32.ofInt 0 ∧ s0.1 0 11 = Int32.ofInt 0 ∧ s0.1 0 12 = Int32.ofInt 1 ∧ s0.1 1 1 = Int32.ofInt 0 ∧ s0.1 0 17 = Int32.ofInt 0) ∧ (s0.1 0 13 = s0.1 65 7 ∧ s0.1 0 14 = s0.1 65 8) := by decide +kernel
set_option maxRecDepth 100000 in
theorem s0_c : ∀ k : Nat, k < 25 → s0.1 40 k = Int32.ofInt (-1) := by decide +kernel
set_option maxRecDepth 100000 in
theorem s0_d : ∀ k : Nat, k < 6 → s0.1 61 k = s0.1 67 k := by decide +kernel
set_option maxRecDepth 100000 in
theorem s0_e : ∀ o : Nat, o < 146 → ((68 ≤ o ∧ o ≤ 100) ∨ (123 ≤ o ∧ o ≤ 145)) → ∀ j : Nat, j < (WDl (wno o)).length → s0.1 o j = Int32.ofInt ((WDl (wno o)).getD j 0) := by decide +kernel
theorem B0_v : Bv B0 := by
  have e1 : bK B0 = 0 := rfl
  have e2 : bM B0 = 0 := rfl
  have e3 : bF B0 = 0 := rfl
  refine ⟨⟨by decide, by decide, fun _ => ⟨rfl, rfl, rfl, rfl⟩⟩, fun k a b => ?_, fun k a b => ?_, fun k a b => ?_, Or.inr rfl, by decide⟩
  · rw [e1] at b; omega
  · rw [e2] at b; omega
  · rw [e3] at b; omega
theorem G0_v : Gv B0 G0 := by
  have e2 : bM B0 = 0 := rfl
  have e3 : bF B0 = 0 := rfl
  refine ⟨by decide, fun k a b => ?_, fun k l a b => ?_, fun k a b => ?_⟩
  · rw [e2] at b; omega
  · rw [e2] at b; omega
  · rw [e3] at b; omega
theorem cnt0 (k : Int) : cnt B0 k = 0 := by
  unfold cnt
  (repeat' split) <;> rfl
theorem inv0 : Inv 0 s0 := by
  obtain ⟨a1, a2, a3, ⟨a4, a5, a6⟩, a7, a8, a9, a10, a11, a12, a13⟩ := s0_a
  obtain ⟨b1, b2, ⟨b3, b4, b5, b6⟩, ⟨b7, b8, b9, b10⟩, ⟨b11, b12, b13, b14, b15, b16⟩, b17, b18⟩ := s0_b
  have e1 : bK B0 = 0 := rfl
  have e2 : bM B0 = 0 := rfl
  have e3 : bF B0 = 0 := rfl
  have hocc : ∀ t : Int, bmk (occ B0 G0 t) = Int32.ofInt 0 := fun t => by
    rw [← bmk_no]
    exact bmk_congr (fun q _ _ => rfl)
  refine ⟨B0, G0, false, [], [], 0, fun _ => 0, fun _ => 0, 1, fun _ => 0, 0, [], fun _ _ => [], 6, ?_, ?_, ⟨b17, b18, s0_d⟩, ⟨by decide, trivial, by decide⟩⟩
  · refine ⟨⟨⟨⟨B0_v, G0_v, ⟨a1, ?_, ?_, ?_⟩, a2, ?_, ?_⟩, Or.inl ⟨rfl, a3⟩, Or.inl rfl⟩, a4, a5, a6, fun h => (by cases h), fun _ => rfl, by decide⟩, ⟨a7, fun j i h1 h2 => ?_⟩, ⟨0, a8, a9, by decide, by decide, trivial⟩, ⟨a10, by decide, fun i h1 h2 => by omega⟩, ⟨a11, by decide, by decide⟩, ⟨a12, by decide, fun j h1 h2 => by omega⟩, ⟨a13, fun j hj => by cases hj⟩, fun k w h1 h2 h3 h4 => ?_, fun o j ho hj => s0_e o (by unfold wce at ho; omega) ho j hj⟩
    · intro k x y; rw [e1] at y; omega
    · intro k x y; rw [e2] at y; omega
    · intro k x y; rw [e3] at y; omega
    · intro k x y; rw [e2] at y; omega
    · intro k x y; rw [e3] at y; omega
    · have : kn ([] : List Ent) = 0 := rfl
      omega
    · rw [cnt0] at h4; omega
  · refine ⟨⟨⟨⟨⟨⟨B0_v, G0_v⟩, ⟨Or.inl rfl, Or.inl rfl⟩, rfl, ⟨b1, ?_, ?_, ?_, Or.inl ⟨rfl, b2⟩⟩, ⟨?_, ?_, ⟨by rw [hocc]; exact b3, by rw [hocc]; exact b4⟩, b5, b6⟩⟩, b7, ?_⟩, b8, ⟨b9, b10⟩, Or.inl rfl⟩, ⟨rfl, rfl⟩, fun h => (by cases h), fun _ => rfl, by decide⟩, ⟨b11, by decide, fun j hj => by cases hj⟩, ⟨b12, by decide, trivial⟩, ⟨b13, by decide, fun i h1 h2 => by omega⟩, b14, ⟨b15, by decide, fun j h1 h2 => by omega⟩, ⟨b16, fun j hj => by cases hj⟩, fun k w h1 h2 h3 h4 => ?_, rfl⟩
    · intro k x y; rw [e1] at y; omega
    · intro k x y; rw [e2] at y; omega
    · intro k x y; rw [e3] at y; omega
    · intro k x y; rw [e2] at y; omega
    · intro q q0 q1
      exact s0_c q.toNat (by omega)
    · intro k x y; rw [e3] at y; omega
    · rw [cnt0] at h4; omega
theorem k_all (i : Nat) : okAll Inv i := ⟨k_feed i, k_end i, k_board i, k_fault i, k_has i, k_letter i, k_kind i, k_man i, k_field i, k_at i, k_option i, k_kept i, k_balance i, k_value i, k_best i, k_forced i, k_later i, k_crop i, k_spare i, k_sow i, k_deeper i, k_see i, k_played i, k_reached i, k_play i, k_tend i, k_days i, k_chance i, k_undo i, k_seed i, k_ask i, k_image i, k_octet i, k_on i, k_status i⟩
theorem whole_start {p : Program} {e : Env} {s : State} {m : MethodId} {below : List Frame} {meth : Method} {c : Code} (l : Launch) {b L : Nat} {xs : Nat → Int32} (hL : L ≤ 3072) (C0 : lw_At p s m meth c b L xs) : W p l e room_1 s m #[Value.ref b] below meth c s.heap [] 0 0 (lw_Z below #[Value.ref b] s) (entryFrame m ([Value.ref b] : List Value).toArray 4) :=
  whole_of l hL C0 (Inv := Inv) inv0 (fun k _ => k_all k) (fun k _ s h => h)
set_option maxHeartbeats 4000000 in
theorem lw_walk (l : Launch) (b : Addr) (xs : List Int32) : MetFree l x (headSpec (Jvm.Cond.code x code maxLocals ret :: tables_1) room_1) (lw_P b xs) (fun _ _ _ _ _ => True) lw_Q := by
  refine MetFree.of_bodyS (code := code) (maxLocals := maxLocals) (ret := ret) (by decide) ?_ ?_
  · intro args s m h hn
    obtain ⟨meth, c, h1, h2, h3, h4, h5, h6, -, -⟩ := Cond.code_spec hn (atoms_spec (ws := Jvm.Cond.code x code maxLocals ret :: tables_1) h _ List.mem_cons_self)
    exact ⟨meth, c, h1, h2, h3, h4, h5, h6⟩
  · intro p e s m args below meth c s₁ B hml0 hP _
    obtain ⟨rfl, hx, hbd, hgv⟩ := hP
    obtain ⟨scr, harrAt, hlist, hof, hsmall⟩ := hx
    obtain ⟨hcb, hkn, -, -⟩ := State.arrayAt?_spec harrAt
    have hown : s.vm.findClass R_law = some m.cls := findClass_of_methodNamed B.named
    have hts0 : ∀ c ∈ (Jvm.Cond.code x code maxLocals ret :: tables_1), c.before #[Value.ref b] s = true := atoms_spec (ws := Jvm.Cond.code x code maxLocals ret :: tables_1) B.pre
    have hts : ∀ w ∈ lw_tbl, w.before #[Value.ref b] s = true := k2_hts_sels lw_privs (fun w hw => hts0 w (List.mem_cons_of_mem _ hw)) lw_privs_ok
    have hml : c.maxLocals = 4 := B.maxLocals_eq (hts0 _ List.mem_cons_self)
    have X₀ : Stand p l e room_1 s m #[Value.ref b] below meth c s₁ [] 0 0 := Stand.of_body B
    have hh0 : s₁.heap = s.heap := by rw [B.state]; rfl
    have hsz : scr.slots.size = xs.length := by rw [← Array.length_toList, hlist, List.length_map]
    have hval : ∀ j : Nat, j < xs.length → scr.slots[j]? = some (.int (xs.getD j 0)) := fun j hj => by
      rw [← Array.getElem?_toList, hlist]
      simp [hj]
    have hbl : b < s.heap.size := (Array.getElem?_eq_some_iff.mp hcb).1
    have hX : va_X b xs.length (fun j => xs.getD j 0) s s.heap := ⟨scr, hcb, hof, hkn, hsz, hval⟩
    have K : W p l e room_1 s m #[Value.ref b] below meth c s₁.heap [] 0 0 (lw_Z below #[Value.ref b] s) (entryFrame m ([Value.ref b] : List Value).toArray 4) := by
      rw [hh0]
      exact whole_start l hbd ⟨B.exec, B.bytes, B.returns, hml, hown, hts, hX, hbl, B.notSynchronized, hgv, (name_of_methodNamed B.named B.method).1⟩
    obtain ⟨t, a1, o, b1, b2, b3⟩ := K s₁ rfl X₀
    exact ⟨t, o, a1, b1, b2, b3⟩
theorem lw_pre_spec {args : Array Value} {s : State} (h : (Jvm.Cond.and given_1 narrow_1).before args s = true) (hr : rest_1_c.before args s = true) : ∃ (b : Addr) (xs : List Int32), lw_P b xs args s := by
  have hs := flat_of_before _ h
  have hq := flat_of_before _ hr
  have hc : (Cond.count 1).before args s = true := hs _ (by decide +kernel)
  have harr : (Cond.arrayOf (.arg 0) .int).before args s = true := hs _ (by decide +kernel)
  have hle : (Cond.le (.length (.arg 0)) (.int 3072)).before args s = true := hs _ (by decide +kernel)
  have hlen : (Cond.isInt (.length (.arg 0))).before args s = true := hq _ (by decide +kernel)
  have hall : (Cond.all (.arg 0) (.isInt (.elem (.arg 0) (.index 0)))).before args s = true := hq _ (by decide +kernel)
  obtain ⟨b, xs, hb, hx⟩ := State.ints_of_pre rfl harr hlen hall
  have hsm : xs.length < 2 ^ 31 := hx.choose_spec.2.2.2
  have hev : (Term.length (.arg 0)).eval args s none [] s = some (.int xs.length.toInt32) := hx.length_eval hb
  have hv := Cond.le_ints hev (show (Term.int 3072).eval args s none [] s = some (.int 3072) from rfl)
  have hd : xs.length.toInt32 ≤ 3072 := by
    simpa [Cond.before, Cond.holds, hv] using hle
  have hN : xs.length ≤ 3072 := (Int32.ofNat_le_ofNat hsm (by decide)).mp (show Int32.ofNat xs.length ≤ Int32.ofNat 3072 from hd)
  exact ⟨b, xs, Cond.one_arg hc (show args[0]? = some (.ref b) from hb), hx, hN, h⟩
theorem lw_comes (l : Launch) : Comes l x (Jvm.Cond.code x code maxLocals ret :: tables_1) room_1 (fun tb e args s => Calls_1 tb e args s ∧ rest_1 tb e args s ∧ Pre_1 tb e args s)
    (fun _ _ args s o t => lw_Q args s o t) := by
  intro p e ha hc hk s m args below hf hfit hheap happ hpre
  obtain ⟨b, xs, hP⟩ := lw_pre_spec hpre.2.2 hpre.2.1
  obtain ⟨k, o, h1, h2, h3, hQ⟩ := lw_walk l b xs p e ha hc hk s m args below hf ((Spec.applies_iff_loose hf).mp happ).1 hP trivial
  exact ⟨k, o, h1, h2, h3, hQ⟩
theorem lw_frame {s t : State} {o : Outcome} {args : Array Value} (h : Framed s o t [] 600000 7302250) :
    Framed s o t (fieldLocs frame_1_writes args s ++ arrayLocs frame_1_arrays args s ++ staticLocs frame_1_statics s) 600000 7302250 := h
theorem lw_limb (L : Cond) (hL : ∀ (args : Array Value) (s t : State), L.after args s (.returned (some (.int 1))) t = true) :
    ArmFor flags0 classFile x code maxLocals ret World_1 tables_1 room_1 Calls_1 rest_1 Pre_1
      (fun tb e a s o t => postC L tb e a s o t ∧ Framed s o t (fieldLocs frame_1_writes a s ++ arrayLocs frame_1_arrays a s ++ staticLocs frame_1_statics s) 600000 7302250) := by
  intro l _ _ _ p e ha hc hk s m args below hf hfit hheap happ hpre
  obtain ⟨k, o, h1, h2, h3, rfl, hF⟩ := lw_comes l p e ha hc hk s m args below hf hfit hheap happ hpre
  exact ⟨k, _, h1, h2, h3, hL args s _, lw_frame hF⟩
theorem i_vc : Claimed_1_1 ∧ Claimed_1_2 := ⟨lw_limb limb_1_1 (fun args s t => by simp [limb_1_1, Cond.after, Cond.holds, Cond.value]), lw_limb limb_1_2 (fun args s t => Cond.after_iff.mpr (by
  first | (rw [show limb_1_2 = Cond.eq .result (.int 1) from rfl, Cond.eq_ints (x := 1) (y := 1) rfl rfl]; simp; done) | (simp [limb_1_2, Cond.value, Term.eval]; done)))⟩
