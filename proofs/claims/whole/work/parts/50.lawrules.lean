/-! THE LAW: its rules -/
def R_law : String := "GardenChessLaw"
def lw_P (b : Addr) (xs : List Int32) (args : Array Value) (s : State) : Prop := args = #[.ref b] ∧ s.IntsAt b xs ∧ xs.length ≤ 3072 ∧ (Jvm.Cond.and given_1 narrow_1).before args s = true
def lw_Q (_ : Array Value) (s : State) (o : Outcome) (t : State) : Prop := o = .returned (some (.int 1)) ∧ Framed s o t [] 600000 7302250
def lw_Z (below : List Frame) (a : Array Value) (s : State) : State → Prop := fun t => ∃ o, t.status = .running ∧ Ended t below o ∧ lw_Q a s o t
/-- the law's own end, with 1 on the stack, nothing written that was there before, its room as the claim has it -/
theorem lw_ret {p : Program} {l : Launch} {e : Env} {s : State} {m : MethodId} {below : List Frame} {meth : Method} {c : Code} {b : Nat} (hx : p.tables.exec = Jvm.exec) (hb : c.code = code) (hr : meth.sig.returnType = ret) (hlocks : meth.locks = false) {pc : Nat} {H : Heap} {ls : Array Slot} (hdg : decode code pc = .ok (.ireturn, 1)) : W p l e room_1 s m #[Value.ref b] below meth c H [] 600000 7302250 (lw_Z below #[Value.ref b] s) (F0 m pc ls [.int 1]) := by
  intro T hT X
  obtain ⟨fs, hret, hrun, hended, hW, hframe⟩ := X.leave (v := some (.int 1)) (hlocks := hlocks) (fun h => by rw [hr] at h; cases h)
  have hmeth' : T.vm.method? m = some meth := X.method'
  refine ⟨T.setFrames fs, ?_, .returned (some (.int 1)), hrun, hended, rfl, ⟨_, rfl⟩, hW, hframe⟩
  jvm_step X.here [X.here.top, hx, hb, hdg, hmeth', hr, ret, narrow_b1]
  (try refine ⟨rfl, ?_⟩); (try refine ⟨rfl, ?_⟩)
  first | (intro acts; rw [hret _ acts rfl rfl rfl]) | rw [hret _ _ rfl rfl rfl]
  exact Steps.refl _
/-- what holds at the law's entry: the machine, the code, the tables' words (any of lw_tbl by 'hts w (by decide +kernel)'), the script of L ints xs at the cell b, what the Statement gives of the start (any of its parts by flat_of_before) -/
def lw_At (p : Program) (s : State) (m : MethodId) (meth : Method) (c : Code) (b L : Nat) (xs : Nat → Int32) : Prop :=
  p.tables.exec = Jvm.exec ∧ c.code = code ∧ meth.sig.returnType = ret ∧ c.maxLocals = 4 ∧ s.vm.findClass R_law = some m.cls ∧ (∀ w ∈ lw_tbl, w.before #[Value.ref b] s = true) ∧ va_X b L xs s s.heap ∧ b < s.heap.size ∧ meth.locks = false ∧ (Jvm.Cond.and given_1 narrow_1).before #[Value.ref b] s = true ∧ meth.name = "law"
def yLw : MethodName := ⟨RL, "law", "([I)Z"⟩
def mi_law : MI := (yLw, code, 4, some .boolean, 17, 600000, 7302250)
/-- the law's own judgement: from here it comes to its end with 1 -/
def LW (l : Launch) (b L : Nat) (xs : Nat → Int32) (pc : Nat) (lv : LV) (st : List Value) (h : SH) (uc us : Nat) : Prop :=
  ∀ (base : Nat) (sa : Nat → Nat) (cy : Nat → ClassId) (D : va_G) (p : Program) (e : Env) (s : State) (m : MethodId) (args : Array Value) (below : List Frame) (meth : Method) (c : Code) (H : Heap) (locs : List Loc) (ls : Array Slot),
    sm_Cx mi_law base sa cy D p s m args meth c → (base = s.heap.size ∧ args = #[Value.ref b] ∧ sa 7 = b ∧ va_X b L xs s s.heap ∧ b < s.heap.size) → sm_Wd base sa cy D h H → s.heap.size + uc = base + h.1 → va_S (sm_A base) s.heap H locs → sm_Lh base sa ls mi_law.2.2.1 lv →
    W p l e room_1 s m args below meth c H locs uc us (lw_Z below args s) (F0 m pc ls (st.map (sm_mv base sa)))
section LRULES
variable {l : Launch} {b L : Nat} {xs : Nat → Int32} {pc : Nat} {lv : LV} {st : List Value} {h : SH} {uc us : Nat} {Q : LV → List Value → SH → Prop}
theorem LW.iconst {n : Int} (hd : decode mi_law.2.1 pc = .ok (.iconst n, 1)) (hs : sx_iconst n lv st h Q) (kk : ∀ lv' st' h', Q lv' st' h' → LW l b L xs (pc + 1) lv' st' h' uc us) : LW l b L xs pc lv st h uc us := by
  intro base sa cy D p e s m args below meth c H locs ls C hPP hWd hz hS hL
  have C0 := C
  obtain ⟨hx, hb, hml, hret, hlocks, hts, hown, hnm, hbs, hK, hSx⟩ := C
  exact lv_iconst hx hb hd rfl (kk _ _ _ hs base sa cy D p e s m args below meth c H locs ls C0 hPP hWd hz hS hL)
theorem LW.bipush {n : Int} (hd : decode mi_law.2.1 pc = .ok (.bipush n, 2)) (hs : sx_bipush n lv st h Q) (kk : ∀ lv' st' h', Q lv' st' h' → LW l b L xs (pc + 2) lv' st' h' uc us) : LW l b L xs pc lv st h uc us := by
  intro base sa cy D p e s m args below meth c H locs ls C hPP hWd hz hS hL
  have C0 := C
  obtain ⟨hx, hb, hml, hret, hlocks, hts, hown, hnm, hbs, hK, hSx⟩ := C
  exact lv_bipush hx hb hd rfl (kk _ _ _ hs base sa cy D p e s m args below meth c H locs ls C0 hPP hWd hz hS hL)
theorem LW.sipush {n : Int} (hd : decode mi_law.2.1 pc = .ok (.sipush n, 3)) (hs : sx_sipush n lv st h Q) (kk : ∀ lv' st' h', Q lv' st' h' → LW l b L xs (pc + 3) lv' st' h' uc us) : LW l b L xs pc lv st h uc us := by
  intro base sa cy D p e s m args below meth c H locs ls C hPP hWd hz hS hL
  have C0 := C
  obtain ⟨hx, hb, hml, hret, hlocks, hts, hown, hnm, hbs, hK, hSx⟩ := C
  exact lv_sipush hx hb hd rfl (kk _ _ _ hs base sa cy D p e s m args below meth c H locs ls C0 hPP hWd hz hS hL)
theorem LW.lconst {n : Fin 2} (hd : decode mi_law.2.1 pc = .ok (.lconst n, 1)) (hs : sx_lconst n lv st h Q) (kk : ∀ lv' st' h', Q lv' st' h' → LW l b L xs (pc + 1) lv' st' h' uc us) : LW l b L xs pc lv st h uc us := by
  intro base sa cy D p e s m args below meth c H locs ls C hPP hWd hz hS hL
  have C0 := C
  obtain ⟨hx, hb, hml, hret, hlocks, hts, hown, hnm, hbs, hK, hSx⟩ := C
  exact lv_lconst hx hb hd rfl (kk _ _ _ hs base sa cy D p e s m args below meth c H locs ls C0 hPP hWd hz hS hL)
theorem LW.iadd  (hd : decode mi_law.2.1 pc = .ok (.iadd, 1)) (hs : sx_iadd  lv st h Q) (kk : ∀ lv' st' h', Q lv' st' h' → LW l b L xs (pc + 1) lv' st' h' uc us) : LW l b L xs pc lv st h uc us := by
  unfold sx_iadd at hs
  split at hs
  · intro base sa cy D p e s m args below meth c H locs ls C hPP hWd hz hS hL
    have C0 := C
    obtain ⟨hx, hb, hml, hret, hlocks, hts, hown, hnm, hbs, hK, hSx⟩ := C
    exact lv_iadd hx hb hd (kk _ _ _ hs base sa cy D p e s m args below meth c H locs ls C0 hPP hWd hz hS hL)
  · exact hs.elim
theorem LW.isub  (hd : decode mi_law.2.1 pc = .ok (.isub, 1)) (hs : sx_isub  lv st h Q) (kk : ∀ lv' st' h', Q lv' st' h' → LW l b L xs (pc + 1) lv' st' h' uc us) : LW l b L xs pc lv st h uc us := by
  unfold sx_isub at hs
  split at hs
  · intro base sa cy D p e s m args below meth c H locs ls C hPP hWd hz hS hL
    have C0 := C
    obtain ⟨hx, hb, hml, hret, hlocks, hts, hown, hnm, hbs, hK, hSx⟩ := C
    exact lv_isub hx hb hd (kk _ _ _ hs base sa cy D p e s m args below meth c H locs ls C0 hPP hWd hz hS hL)
  · exact hs.elim
theorem LW.imul  (hd : decode mi_law.2.1 pc = .ok (.imul, 1)) (hs : sx_imul  lv st h Q) (kk : ∀ lv' st' h', Q lv' st' h' → LW l b L xs (pc + 1) lv' st' h' uc us) : LW l b L xs pc lv st h uc us := by
  unfold sx_imul at hs
  split at hs
  · intro base sa cy D p e s m args below meth c H locs ls C hPP hWd hz hS hL
    have C0 := C
    obtain ⟨hx, hb, hml, hret, hlocks, hts, hown, hnm, hbs, hK, hSx⟩ := C
    exact lv_imul hx hb hd (kk _ _ _ hs base sa cy D p e s m args below meth c H locs ls C0 hPP hWd hz hS hL)
  · exact hs.elim
theorem LW.iand  (hd : decode mi_law.2.1 pc = .ok (.iand, 1)) (hs : sx_iand  lv st h Q) (kk : ∀ lv' st' h', Q lv' st' h' → LW l b L xs (pc + 1) lv' st' h' uc us) : LW l b L xs pc lv st h uc us := by
  unfold sx_iand at hs
  split at hs
  · intro base sa cy D p e s m args below meth c H locs ls C hPP hWd hz hS hL
    have C0 := C
    obtain ⟨hx, hb, hml, hret, hlocks, hts, hown, hnm, hbs, hK, hSx⟩ := C
    exact lv_iand hx hb hd (kk _ _ _ hs base sa cy D p e s m args below meth c H locs ls C0 hPP hWd hz hS hL)
  · exact hs.elim
theorem LW.ior  (hd : decode mi_law.2.1 pc = .ok (.ior, 1)) (hs : sx_ior  lv st h Q) (kk : ∀ lv' st' h', Q lv' st' h' → LW l b L xs (pc + 1) lv' st' h' uc us) : LW l b L xs pc lv st h uc us := by
  unfold sx_ior at hs
  split at hs
  · intro base sa cy D p e s m args below meth c H locs ls C hPP hWd hz hS hL
    have C0 := C
    obtain ⟨hx, hb, hml, hret, hlocks, hts, hown, hnm, hbs, hK, hSx⟩ := C
    exact lv_ior hx hb hd (kk _ _ _ hs base sa cy D p e s m args below meth c H locs ls C0 hPP hWd hz hS hL)
  · exact hs.elim
theorem LW.ixor  (hd : decode mi_law.2.1 pc = .ok (.ixor, 1)) (hs : sx_ixor  lv st h Q) (kk : ∀ lv' st' h', Q lv' st' h' → LW l b L xs (pc + 1) lv' st' h' uc us) : LW l b L xs pc lv st h uc us := by
  unfold sx_ixor at hs
  split at hs
  · intro base sa cy D p e s m args below meth c H locs ls C hPP hWd hz hS hL
    have C0 := C
    obtain ⟨hx, hb, hml, hret, hlocks, hts, hown, hnm, hbs, hK, hSx⟩ := C
    exact lv_ixor hx hb hd (kk _ _ _ hs base sa cy D p e s m args below meth c H locs ls C0 hPP hWd hz hS hL)
  · exact hs.elim
theorem LW.ishl  (hd : decode mi_law.2.1 pc = .ok (.ishl, 1)) (hs : sx_ishl  lv st h Q) (kk : ∀ lv' st' h', Q lv' st' h' → LW l b L xs (pc + 1) lv' st' h' uc us) : LW l b L xs pc lv st h uc us := by
  unfold sx_ishl at hs
  split at hs
  · intro base sa cy D p e s m args below meth c H locs ls C hPP hWd hz hS hL
    have C0 := C
    obtain ⟨hx, hb, hml, hret, hlocks, hts, hown, hnm, hbs, hK, hSx⟩ := C
    exact lv_ishl hx hb hd (kk _ _ _ hs base sa cy D p e s m args below meth c H locs ls C0 hPP hWd hz hS hL)
  · exact hs.elim
theorem LW.ishr  (hd : decode mi_law.2.1 pc = .ok (.ishr, 1)) (hs : sx_ishr  lv st h Q) (kk : ∀ lv' st' h', Q lv' st' h' → LW l b L xs (pc + 1) lv' st' h' uc us) : LW l b L xs pc lv st h uc us := by
  unfold sx_ishr at hs
  split at hs
  · intro base sa cy D p e s m args below meth c H locs ls C hPP hWd hz hS hL
    have C0 := C
    obtain ⟨hx, hb, hml, hret, hlocks, hts, hown, hnm, hbs, hK, hSx⟩ := C
    exact lv_ishr hx hb hd (kk _ _ _ hs base sa cy D p e s m args below meth c H locs ls C0 hPP hWd hz hS hL)
  · exact hs.elim
theorem LW.iushr  (hd : decode mi_law.2.1 pc = .ok (.iushr, 1)) (hs : sx_iushr  lv st h Q) (kk : ∀ lv' st' h', Q lv' st' h' → LW l b L xs (pc + 1) lv' st' h' uc us) : LW l b L xs pc lv st h uc us := by
  unfold sx_iushr at hs
  split at hs
  · intro base sa cy D p e s m args below meth c H locs ls C hPP hWd hz hS hL
    have C0 := C
    obtain ⟨hx, hb, hml, hret, hlocks, hts, hown, hnm, hbs, hK, hSx⟩ := C
    exact lv_iushr hx hb hd rfl (kk _ _ _ hs base sa cy D p e s m args below meth c H locs ls C0 hPP hWd hz hS hL)
  · exact hs.elim
theorem LW.ladd  (hd : decode mi_law.2.1 pc = .ok (.ladd, 1)) (hs : sx_ladd  lv st h Q) (kk : ∀ lv' st' h', Q lv' st' h' → LW l b L xs (pc + 1) lv' st' h' uc us) : LW l b L xs pc lv st h uc us := by
  unfold sx_ladd at hs
  split at hs
  · intro base sa cy D p e s m args below meth c H locs ls C hPP hWd hz hS hL
    have C0 := C
    obtain ⟨hx, hb, hml, hret, hlocks, hts, hown, hnm, hbs, hK, hSx⟩ := C
    exact lv_ladd hx hb hd (kk _ _ _ hs base sa cy D p e s m args below meth c H locs ls C0 hPP hWd hz hS hL)
  · exact hs.elim
theorem LW.lsub  (hd : decode mi_law.2.1 pc = .ok (.lsub, 1)) (hs : sx_lsub  lv st h Q) (kk : ∀ lv' st' h', Q lv' st' h' → LW l b L xs (pc + 1) lv' st' h' uc us) : LW l b L xs pc lv st h uc us := by
  unfold sx_lsub at hs
  split at hs
  · intro base sa cy D p e s m args below meth c H locs ls C hPP hWd hz hS hL
    have C0 := C
    obtain ⟨hx, hb, hml, hret, hlocks, hts, hown, hnm, hbs, hK, hSx⟩ := C
    exact lv_lsub hx hb hd (kk _ _ _ hs base sa cy D p e s m args below meth c H locs ls C0 hPP hWd hz hS hL)
  · exact hs.elim
theorem LW.lmul  (hd : decode mi_law.2.1 pc = .ok (.lmul, 1)) (hs : sx_lmul  lv st h Q) (kk : ∀ lv' st' h', Q lv' st' h' → LW l b L xs (pc + 1) lv' st' h' uc us) : LW l b L xs pc lv st h uc us := by
  unfold sx_lmul at hs
  split at hs
  · intro base sa cy D p e s m args below meth c H locs ls C hPP hWd hz hS hL
    have C0 := C
    obtain ⟨hx, hb, hml, hret, hlocks, hts, hown, hnm, hbs, hK, hSx⟩ := C
    exact lv_lmul hx hb hd (kk _ _ _ hs base sa cy D p e s m args below meth c H locs ls C0 hPP hWd hz hS hL)
  · exact hs.elim
theorem LW.land  (hd : decode mi_law.2.1 pc = .ok (.land, 1)) (hs : sx_land  lv st h Q) (kk : ∀ lv' st' h', Q lv' st' h' → LW l b L xs (pc + 1) lv' st' h' uc us) : LW l b L xs pc lv st h uc us := by
  unfold sx_land at hs
  split at hs
  · intro base sa cy D p e s m args below meth c H locs ls C hPP hWd hz hS hL
    have C0 := C
    obtain ⟨hx, hb, hml, hret, hlocks, hts, hown, hnm, hbs, hK, hSx⟩ := C
    exact lv_land hx hb hd (kk _ _ _ hs base sa cy D p e s m args below meth c H locs ls C0 hPP hWd hz hS hL)
  · exact hs.elim
theorem LW.idiv  (hd : decode mi_law.2.1 pc = .ok (.idiv, 1)) (hs : sx_idiv  lv st h Q) (kk : ∀ lv' st' h', Q lv' st' h' → LW l b L xs (pc + 1) lv' st' h' uc us) : LW l b L xs pc lv st h uc us := by
  unfold sx_idiv at hs
  split at hs
  · intro base sa cy D p e s m args below meth c H locs ls C hPP hWd hz hS hL
    have C0 := C
    obtain ⟨hx, hb, hml, hret, hlocks, hts, hown, hnm, hbs, hK, hSx⟩ := C
    obtain ⟨hc, hs⟩ := hs
    exact lv_idiv hx hb hd hc (kk _ _ _ hs base sa cy D p e s m args below meth c H locs ls C0 hPP hWd hz hS hL)
  · exact hs.elim
theorem LW.irem  (hd : decode mi_law.2.1 pc = .ok (.irem, 1)) (hs : sx_irem  lv st h Q) (kk : ∀ lv' st' h', Q lv' st' h' → LW l b L xs (pc + 1) lv' st' h' uc us) : LW l b L xs pc lv st h uc us := by
  unfold sx_irem at hs
  split at hs
  · intro base sa cy D p e s m args below meth c H locs ls C hPP hWd hz hS hL
    have C0 := C
    obtain ⟨hx, hb, hml, hret, hlocks, hts, hown, hnm, hbs, hK, hSx⟩ := C
    obtain ⟨hc, hs⟩ := hs
    exact lv_irem hx hb hd hc (kk _ _ _ hs base sa cy D p e s m args below meth c H locs ls C0 hPP hWd hz hS hL)
  · exact hs.elim
theorem LW.ldiv  (hd : decode mi_law.2.1 pc = .ok (.ldiv, 1)) (hs : sx_ldiv  lv st h Q) (kk : ∀ lv' st' h', Q lv' st' h' → LW l b L xs (pc + 1) lv' st' h' uc us) : LW l b L xs pc lv st h uc us := by
  unfold sx_ldiv at hs
  split at hs
  · intro base sa cy D p e s m args below meth c H locs ls C hPP hWd hz hS hL
    have C0 := C
    obtain ⟨hx, hb, hml, hret, hlocks, hts, hown, hnm, hbs, hK, hSx⟩ := C
    obtain ⟨hc, hs⟩ := hs
    exact lv_ldiv hx hb hd hc (kk _ _ _ hs base sa cy D p e s m args below meth c H locs ls C0 hPP hWd hz hS hL)
  · exact hs.elim
theorem LW.lrem  (hd : decode mi_law.2.1 pc = .ok (.lrem, 1)) (hs : sx_lrem  lv st h Q) (kk : ∀ lv' st' h', Q lv' st' h' → LW l b L xs (pc + 1) lv' st' h' uc us) : LW l b L xs pc lv st h uc us := by
  unfold sx_lrem at hs
  split at hs
  · intro base sa cy D p e s m args below meth c H locs ls C hPP hWd hz hS hL
    have C0 := C
    obtain ⟨hx, hb, hml, hret, hlocks, hts, hown, hnm, hbs, hK, hSx⟩ := C
    obtain ⟨hc, hs⟩ := hs
    exact lv_lrem hx hb hd hc (kk _ _ _ hs base sa cy D p e s m args below meth c H locs ls C0 hPP hWd hz hS hL)
  · exact hs.elim
theorem LW.ineg  (hd : decode mi_law.2.1 pc = .ok (.ineg, 1)) (hs : sx_ineg  lv st h Q) (kk : ∀ lv' st' h', Q lv' st' h' → LW l b L xs (pc + 1) lv' st' h' uc us) : LW l b L xs pc lv st h uc us := by
  unfold sx_ineg at hs
  split at hs
  · intro base sa cy D p e s m args below meth c H locs ls C hPP hWd hz hS hL
    have C0 := C
    obtain ⟨hx, hb, hml, hret, hlocks, hts, hown, hnm, hbs, hK, hSx⟩ := C
    exact lv_ineg hx hb hd (kk _ _ _ hs base sa cy D p e s m args below meth c H locs ls C0 hPP hWd hz hS hL)
  · exact hs.elim
theorem LW.i2l  (hd : decode mi_law.2.1 pc = .ok (.i2l, 1)) (hs : sx_i2l  lv st h Q) (kk : ∀ lv' st' h', Q lv' st' h' → LW l b L xs (pc + 1) lv' st' h' uc us) : LW l b L xs pc lv st h uc us := by
  unfold sx_i2l at hs
  split at hs
  · intro base sa cy D p e s m args below meth c H locs ls C hPP hWd hz hS hL
    have C0 := C
    obtain ⟨hx, hb, hml, hret, hlocks, hts, hown, hnm, hbs, hK, hSx⟩ := C
    exact lv_i2l hx hb hd rfl (kk _ _ _ hs base sa cy D p e s m args below meth c H locs ls C0 hPP hWd hz hS hL)
  · exact hs.elim
theorem LW.l2i  (hd : decode mi_law.2.1 pc = .ok (.l2i, 1)) (hs : sx_l2i  lv st h Q) (kk : ∀ lv' st' h', Q lv' st' h' → LW l b L xs (pc + 1) lv' st' h' uc us) : LW l b L xs pc lv st h uc us := by
  unfold sx_l2i at hs
  split at hs
  · intro base sa cy D p e s m args below meth c H locs ls C hPP hWd hz hS hL
    have C0 := C
    obtain ⟨hx, hb, hml, hret, hlocks, hts, hown, hnm, hbs, hK, hSx⟩ := C
    exact lv_l2i hx hb hd rfl (kk _ _ _ hs base sa cy D p e s m args below meth c H locs ls C0 hPP hWd hz hS hL)
  · exact hs.elim
theorem LW.i2b  (hd : decode mi_law.2.1 pc = .ok (.i2b, 1)) (hs : sx_i2b  lv st h Q) (kk : ∀ lv' st' h', Q lv' st' h' → LW l b L xs (pc + 1) lv' st' h' uc us) : LW l b L xs pc lv st h uc us := by
  unfold sx_i2b at hs
  split at hs
  · intro base sa cy D p e s m args below meth c H locs ls C hPP hWd hz hS hL
    have C0 := C
    obtain ⟨hx, hb, hml, hret, hlocks, hts, hown, hnm, hbs, hK, hSx⟩ := C
    exact lv_i2b hx hb hd rfl (kk _ _ _ hs base sa cy D p e s m args below meth c H locs ls C0 hPP hWd hz hS hL)
  · exact hs.elim
theorem LW.i2c  (hd : decode mi_law.2.1 pc = .ok (.i2c, 1)) (hs : sx_i2c  lv st h Q) (kk : ∀ lv' st' h', Q lv' st' h' → LW l b L xs (pc + 1) lv' st' h' uc us) : LW l b L xs pc lv st h uc us := by
  unfold sx_i2c at hs
  split at hs
  · intro base sa cy D p e s m args below meth c H locs ls C hPP hWd hz hS hL
    have C0 := C
    obtain ⟨hx, hb, hml, hret, hlocks, hts, hown, hnm, hbs, hK, hSx⟩ := C
    exact lv_i2c hx hb hd rfl (kk _ _ _ hs base sa cy D p e s m args below meth c H locs ls C0 hPP hWd hz hS hL)
  · exact hs.elim
theorem LW.lcmp  (hd : decode mi_law.2.1 pc = .ok (.lcmp, 1)) (hs : sx_lcmp  lv st h Q) (kk : ∀ lv' st' h', Q lv' st' h' → LW l b L xs (pc + 1) lv' st' h' uc us) : LW l b L xs pc lv st h uc us := by
  unfold sx_lcmp at hs
  split at hs
  · intro base sa cy D p e s m args below meth c H locs ls C hPP hWd hz hS hL
    have C0 := C
    obtain ⟨hx, hb, hml, hret, hlocks, hts, hown, hnm, hbs, hK, hSx⟩ := C
    exact W.lcmp hx hb hd (kk _ _ _ hs base sa cy D p e s m args below meth c H locs ls C0 hPP hWd hz hS hL)
  · exact hs.elim
theorem LW.dup  (hd : decode mi_law.2.1 pc = .ok (.dup, 1)) (hs : sx_dup  lv st h Q) (kk : ∀ lv' st' h', Q lv' st' h' → LW l b L xs (pc + 1) lv' st' h' uc us) : LW l b L xs pc lv st h uc us := by
  unfold sx_dup at hs
  split at hs
  · intro base sa cy D p e s m args below meth c H locs ls C hPP hWd hz hS hL
    have C0 := C
    obtain ⟨hx, hb, hml, hret, hlocks, hts, hown, hnm, hbs, hK, hSx⟩ := C
    obtain ⟨hc, hs⟩ := hs
    exact lv_dup hx hb hd (by rw [sm_cat]; exact hc) (kk _ _ _ hs base sa cy D p e s m args below meth c H locs ls C0 hPP hWd hz hS hL)
  · exact hs.elim
theorem LW.pop  (hd : decode mi_law.2.1 pc = .ok (.pop, 1)) (hs : sx_pop  lv st h Q) (kk : ∀ lv' st' h', Q lv' st' h' → LW l b L xs (pc + 1) lv' st' h' uc us) : LW l b L xs pc lv st h uc us := by
  unfold sx_pop at hs
  split at hs
  · intro base sa cy D p e s m args below meth c H locs ls C hPP hWd hz hS hL
    have C0 := C
    obtain ⟨hx, hb, hml, hret, hlocks, hts, hown, hnm, hbs, hK, hSx⟩ := C
    obtain ⟨hc, hs⟩ := hs
    exact lv_pop hx hb hd (by rw [sm_cat]; exact hc) (kk _ _ _ hs base sa cy D p e s m args below meth c H locs ls C0 hPP hWd hz hS hL)
  · exact hs.elim
theorem LW.dup2  (hd : decode mi_law.2.1 pc = .ok (.dup2, 1)) (hs : sx_dup2  lv st h Q) (kk : ∀ lv' st' h', Q lv' st' h' → LW l b L xs (pc + 1) lv' st' h' uc us) : LW l b L xs pc lv st h uc us := by
  unfold sx_dup2 at hs
  split at hs
  · intro base sa cy D p e s m args below meth c H locs ls C hPP hWd hz hS hL
    have C0 := C
    obtain ⟨hx, hb, hml, hret, hlocks, hts, hown, hnm, hbs, hK, hSx⟩ := C
    obtain ⟨hc, hs⟩ := hs
    exact lv_dup2_11 hx hb hd (by rw [sm_cat]; exact hc.1) (by rw [sm_cat]; exact hc.2) (kk _ _ _ hs base sa cy D p e s m args below meth c H locs ls C0 hPP hWd hz hS hL)
  · exact hs.elim
theorem LW.iload_n {i : Fin 4} (hd : decode mi_law.2.1 pc = .ok (.iload_n i, 1)) (hs : sx_iload_n (i : Nat) lv st h Q) (kk : ∀ lv' st' h', Q lv' st' h' → LW l b L xs (pc + 1) lv' st' h' uc us) : LW l b L xs pc lv st h uc us := by
  unfold sx_iload_n at hs
  split at hs
  · rename_i x hxx
    intro base sa cy D p e s m args below meth c H locs ls C hPP hWd hz hS hL
    have C0 := C
    obtain ⟨hx, hb, hml, hret, hlocks, hts, hown, hnm, hbs, hK, hSx⟩ := C
    exact lv_iload_n hx hb hd rfl (hL.get hxx) (kk _ _ _ hs base sa cy D p e s m args below meth c H locs ls C0 hPP hWd hz hS hL)
  · exact hs.elim
theorem LW.iload {i : Nat} (hd : decode mi_law.2.1 pc = .ok (.iload i, 2)) (hs : sx_iload i lv st h Q) (kk : ∀ lv' st' h', Q lv' st' h' → LW l b L xs (pc + 2) lv' st' h' uc us) : LW l b L xs pc lv st h uc us := by
  unfold sx_iload at hs
  split at hs
  · rename_i x hxx
    intro base sa cy D p e s m args below meth c H locs ls C hPP hWd hz hS hL
    have C0 := C
    obtain ⟨hx, hb, hml, hret, hlocks, hts, hown, hnm, hbs, hK, hSx⟩ := C
    exact lv_iload hx hb hd (hL.get hxx) (kk _ _ _ hs base sa cy D p e s m args below meth c H locs ls C0 hPP hWd hz hS hL)
  · exact hs.elim
theorem LW.istore_n {i : Fin 4} (hd : decode mi_law.2.1 pc = .ok (.istore_n i, 1)) (hs : sx_istore_n (i : Nat) lv st h Q) (kk : ∀ lv' st' h', Q lv' st' h' → LW l b L xs (pc + 1) lv' st' h' uc us) : LW l b L xs pc lv st h uc us := by
  unfold sx_istore_n at hs
  split at hs
  · intro base sa cy D p e s m args below meth c H locs ls C hPP hWd hz hS hL
    have C0 := C
    obtain ⟨hx, hb, hml, hret, hlocks, hts, hown, hnm, hbs, hK, hSx⟩ := C
    refine lv_istore_n hx hb hd rfl hL.2 (by rw [← hL.1]; exact hs.1) rfl (fun ls' hl' => kk _ _ _ hs.2 base sa cy D p e s m args below meth c H locs ls' C0 hPP hWd hz hS (sm_Lh.s1 hL.1 hl'))
  · exact hs.elim
theorem LW.istore {i : Nat} (hd : decode mi_law.2.1 pc = .ok (.istore i, 2)) (hs : sx_istore i lv st h Q) (kk : ∀ lv' st' h', Q lv' st' h' → LW l b L xs (pc + 2) lv' st' h' uc us) : LW l b L xs pc lv st h uc us := by
  unfold sx_istore at hs
  split at hs
  · intro base sa cy D p e s m args below meth c H locs ls C hPP hWd hz hS hL
    have C0 := C
    obtain ⟨hx, hb, hml, hret, hlocks, hts, hown, hnm, hbs, hK, hSx⟩ := C
    refine lv_istore hx hb hd hL.2 (by rw [← hL.1]; exact hs.1) rfl (fun ls' hl' => kk _ _ _ hs.2 base sa cy D p e s m args below meth c H locs ls' C0 hPP hWd hz hS (sm_Lh.s1 hL.1 hl'))
  · exact hs.elim
theorem LW.lload_n {i : Fin 4} (hd : decode mi_law.2.1 pc = .ok (.lload_n i, 1)) (hs : sx_lload_n (i : Nat) lv st h Q) (kk : ∀ lv' st' h', Q lv' st' h' → LW l b L xs (pc + 1) lv' st' h' uc us) : LW l b L xs pc lv st h uc us := by
  unfold sx_lload_n at hs
  split at hs
  · rename_i x hxx
    intro base sa cy D p e s m args below meth c H locs ls C hPP hWd hz hS hL
    have C0 := C
    obtain ⟨hx, hb, hml, hret, hlocks, hts, hown, hnm, hbs, hK, hSx⟩ := C
    exact lv_lload_n hx hb hd rfl (hL.get hxx) (kk _ _ _ hs base sa cy D p e s m args below meth c H locs ls C0 hPP hWd hz hS hL)
  · exact hs.elim
theorem LW.lload {i : Nat} (hd : decode mi_law.2.1 pc = .ok (.lload i, 2)) (hs : sx_lload i lv st h Q) (kk : ∀ lv' st' h', Q lv' st' h' → LW l b L xs (pc + 2) lv' st' h' uc us) : LW l b L xs pc lv st h uc us := by
  unfold sx_lload at hs
  split at hs
  · rename_i x hxx
    intro base sa cy D p e s m args below meth c H locs ls C hPP hWd hz hS hL
    have C0 := C
    obtain ⟨hx, hb, hml, hret, hlocks, hts, hown, hnm, hbs, hK, hSx⟩ := C
    exact lv_lload hx hb hd (hL.get hxx) (kk _ _ _ hs base sa cy D p e s m args below meth c H locs ls C0 hPP hWd hz hS hL)
  · exact hs.elim
theorem LW.lstore_n {i : Fin 4} (hd : decode mi_law.2.1 pc = .ok (.lstore_n i, 1)) (hs : sx_lstore_n (i : Nat) lv st h Q) (kk : ∀ lv' st' h', Q lv' st' h' → LW l b L xs (pc + 1) lv' st' h' uc us) : LW l b L xs pc lv st h uc us := by
  unfold sx_lstore_n at hs
  split at hs
  · intro base sa cy D p e s m args below meth c H locs ls C hPP hWd hz hS hL
    have C0 := C
    obtain ⟨hx, hb, hml, hret, hlocks, hts, hown, hnm, hbs, hK, hSx⟩ := C
    refine lv_lstore_n hx hb hd rfl hL.2 (by rw [← hL.1]; exact hs.1) rfl (fun ls' hl' => kk _ _ _ hs.2 base sa cy D p e s m args below meth c H locs ls' C0 hPP hWd hz hS (sm_Lh.s2 hL.1 hl'))
  · exact hs.elim
theorem LW.lstore {i : Nat} (hd : decode mi_law.2.1 pc = .ok (.lstore i, 2)) (hs : sx_lstore i lv st h Q) (kk : ∀ lv' st' h', Q lv' st' h' → LW l b L xs (pc + 2) lv' st' h' uc us) : LW l b L xs pc lv st h uc us := by
  unfold sx_lstore at hs
  split at hs
  · intro base sa cy D p e s m args below meth c H locs ls C hPP hWd hz hS hL
    have C0 := C
    obtain ⟨hx, hb, hml, hret, hlocks, hts, hown, hnm, hbs, hK, hSx⟩ := C
    refine lv_lstore hx hb hd hL.2 (by rw [← hL.1]; exact hs.1) rfl (fun ls' hl' => kk _ _ _ hs.2 base sa cy D p e s m args below meth c H locs ls' C0 hPP hWd hz hS (sm_Lh.s2 hL.1 hl'))
  · exact hs.elim
theorem LW.aload_n {i : Fin 4} (hd : decode mi_law.2.1 pc = .ok (.aload_n i, 1)) (hs : sx_aload_n (i : Nat) lv st h Q) (kk : ∀ lv' st' h', Q lv' st' h' → LW l b L xs (pc + 1) lv' st' h' uc us) : LW l b L xs pc lv st h uc us := by
  unfold sx_aload_n at hs
  split at hs
  · rename_i x hxx
    intro base sa cy D p e s m args below meth c H locs ls C hPP hWd hz hS hL
    have C0 := C
    obtain ⟨hx, hb, hml, hret, hlocks, hts, hown, hnm, hbs, hK, hSx⟩ := C
    exact lv_aload_n hx hb hd rfl (hL.get hxx) (kk _ _ _ hs base sa cy D p e s m args below meth c H locs ls C0 hPP hWd hz hS hL)
  · exact hs.elim
theorem LW.aload {i : Nat} (hd : decode mi_law.2.1 pc = .ok (.aload i, 2)) (hs : sx_aload i lv st h Q) (kk : ∀ lv' st' h', Q lv' st' h' → LW l b L xs (pc + 2) lv' st' h' uc us) : LW l b L xs pc lv st h uc us := by
  unfold sx_aload at hs
  split at hs
  · rename_i x hxx
    intro base sa cy D p e s m args below meth c H locs ls C hPP hWd hz hS hL
    have C0 := C
    obtain ⟨hx, hb, hml, hret, hlocks, hts, hown, hnm, hbs, hK, hSx⟩ := C
    exact lv_aload hx hb hd (hL.get hxx) (kk _ _ _ hs base sa cy D p e s m args below meth c H locs ls C0 hPP hWd hz hS hL)
  · exact hs.elim
theorem LW.astore_n {i : Fin 4} (hd : decode mi_law.2.1 pc = .ok (.astore_n i, 1)) (hs : sx_astore_n (i : Nat) lv st h Q) (kk : ∀ lv' st' h', Q lv' st' h' → LW l b L xs (pc + 1) lv' st' h' uc us) : LW l b L xs pc lv st h uc us := by
  unfold sx_astore_n at hs
  split at hs
  · intro base sa cy D p e s m args below meth c H locs ls C hPP hWd hz hS hL
    have C0 := C
    obtain ⟨hx, hb, hml, hret, hlocks, hts, hown, hnm, hbs, hK, hSx⟩ := C
    refine lv_astore_n hx hb hd rfl hL.2 (by rw [← hL.1]; exact hs.1) rfl (fun ls' hl' => kk _ _ _ hs.2 base sa cy D p e s m args below meth c H locs ls' C0 hPP hWd hz hS (sm_Lh.s1 hL.1 hl'))
  · exact hs.elim
theorem LW.astore {i : Nat} (hd : decode mi_law.2.1 pc = .ok (.astore i, 2)) (hs : sx_astore i lv st h Q) (kk : ∀ lv' st' h', Q lv' st' h' → LW l b L xs (pc + 2) lv' st' h' uc us) : LW l b L xs pc lv st h uc us := by
  unfold sx_astore at hs
  split at hs
  · intro base sa cy D p e s m args below meth c H locs ls C hPP hWd hz hS hL
    have C0 := C
    obtain ⟨hx, hb, hml, hret, hlocks, hts, hown, hnm, hbs, hK, hSx⟩ := C
    refine lv_astore hx hb hd hL.2 (by rw [← hL.1]; exact hs.1) rfl (fun ls' hl' => kk _ _ _ hs.2 base sa cy D p e s m args below meth c H locs ls' C0 hPP hWd hz hS (sm_Lh.s1 hL.1 hl'))
  · exact hs.elim
theorem LW.iinc {i : Nat} {n : Int} (hd : decode mi_law.2.1 pc = .ok (.iinc i n, 3)) (hs : sx_iinc i n lv st h Q) (kk : ∀ lv' st' h', Q lv' st' h' → LW l b L xs (pc + 3) lv' st' h' uc us) : LW l b L xs pc lv st h uc us := by
  unfold sx_iinc at hs
  split at hs
  · rename_i x hxx
    intro base sa cy D p e s m args below meth c H locs ls C hPP hWd hz hS hL
    have C0 := C
    obtain ⟨hx, hb, hml, hret, hlocks, hts, hown, hnm, hbs, hK, hSx⟩ := C
    obtain ⟨k, hk⟩ := List.getElem?_of_mem (sm_kl_mem (base := base) (sa := sa) (q := (i, Value.int x)) |>.mpr ⟨.int x, hxx, rfl⟩)
    refine lv_iinc hx hb hd hL.2 hk rfl (by rw [← hL.1]; exact hs.1) rfl (fun ls' hl' => kk _ _ _ hs.2 base sa cy D p e s m args below meth c H locs ls' C0 hPP hWd hz hS (sm_Lh.s1 hL.1 hl'))
  · exact hs.elim
theorem LW.ldc {idx : Nat} {z : Int} (hw : Cond.constant (sm_RC mi_law.2.2.2.2.1) idx (Int32.ofInt z) ∈ sm_Tg) (hd : decode mi_law.2.1 pc = .ok (.ldc idx, 2)) (hs : sx_ldc z lv st h Q) (kk : ∀ lv' st' h', Q lv' st' h' → LW l b L xs (pc + 2) lv' st' h' uc us) : LW l b L xs pc lv st h uc us := by
  intro base sa cy D p e s m args below meth c H locs ls C hPP hWd hz hS hL
  have C0 := C
  obtain ⟨hx, hb, hml, hret, hlocks, hts, hown, hnm, hbs, hK, hSx⟩ := C
  exact lv_ldc hx hb hown (hts _ hw) hd (kk _ _ _ hs base sa cy D p e s m args below meth c H locs ls C0 hPP hWd hz hS hL)
theorem LW.ldc_w {idx : Nat} {z : Int} (hw : Cond.constant (sm_RC mi_law.2.2.2.2.1) idx (Int32.ofInt z) ∈ sm_Tg) (hd : decode mi_law.2.1 pc = .ok (.ldc_w idx, 3)) (hs : sx_ldc_w z lv st h Q) (kk : ∀ lv' st' h', Q lv' st' h' → LW l b L xs (pc + 3) lv' st' h' uc us) : LW l b L xs pc lv st h uc us := by
  intro base sa cy D p e s m args below meth c H locs ls C hPP hWd hz hS hL
  have C0 := C
  obtain ⟨hx, hb, hml, hret, hlocks, hts, hown, hnm, hbs, hK, hSx⟩ := C
  exact lv_ldcw hx hb hown (hts _ hw) hd (kk _ _ _ hs base sa cy D p e s m args below meth c H locs ls C0 hPP hWd hz hS hL)
theorem LW.ldc2_w {idx : Nat} {z : Int} (hw : Cond.constantLong (sm_RC mi_law.2.2.2.2.1) idx (Int64.ofInt z) ∈ sm_Tg) (hd : decode mi_law.2.1 pc = .ok (.ldc2_w idx, 3)) (hs : sx_ldc2_w z lv st h Q) (kk : ∀ lv' st' h', Q lv' st' h' → LW l b L xs (pc + 3) lv' st' h' uc us) : LW l b L xs pc lv st h uc us := by
  intro base sa cy D p e s m args below meth c H locs ls C hPP hWd hz hS hL
  have C0 := C
  obtain ⟨hx, hb, hml, hret, hlocks, hts, hown, hnm, hbs, hK, hSx⟩ := C
  exact lv_ldc2 hx hb hown (hts _ hw) hd (kk _ _ _ hs base sa cy D p e s m args below meth c H locs ls C0 hPP hWd hz hS hL)
theorem LW.getfield {idx c k : Nat} (hl : sm_fl mi_law.2.2.2.2.1 idx c k) (hd : decode mi_law.2.1 pc = .ok (.getfield idx, 3)) (hs : sx_getfield c k lv st h Q) (kk : ∀ lv' st' h', Q lv' st' h' → LW l b L xs (pc + 3) lv' st' h' uc us) : LW l b L xs pc lv st h uc us := by
  unfold sx_getfield at hs
  split at hs
  · rename_i o r
    obtain ⟨⟨ho, hk⟩, hs⟩ := hs
    obtain ⟨⟨hc, hn⟩, hw⟩ := hl
    intro base sa cy D p e s m args below meth cd H locs ls C hPP hWd hz hS hL
    have C0 := C
    obtain ⟨hx, hb, hml, hret, hlocks, hts, hown, hnm, hbs, hK, hSx⟩ := C
    have go : ∀ v : Value, sm_fu h o c k = v → LW l b L xs (pc + 3) lv (v :: r) h uc us → W p l e room_1 s m args below meth cd H locs uc us (lw_Z below args s) (F0 m pc ls ((Value.ref o :: r).map (sm_mv base sa))) := by
      intro v hv hE
      rw [List.map_cons, sm_mvr hWd.1 ho]
      refine va_get (v := sm_mv base sa v) hx hb hts (sm_lay hc) hown hK hWd.2 o (sm_obj ho hk hc) (sm_cl hc) k hn (hts _ hw) (fun _ h9 => h9) ?_ hd (hE base sa cy D p e s m args below meth cd H locs ls C0 hPP hWd hz hS hL)
      rw [List.getElem?_map, List.getElem?_range hn, ← hv]
      rfl
    split at hs
    · rename_i ht
      exact go _ (by unfold sm_fu; rw [ht]) (kk _ _ _ hs)
    · rename_i ht
      obtain ⟨a, ha, hs⟩ := hs
      exact go (.ref a) (by unfold sm_fu; rw [ht, ha]; rfl) (kk _ _ _ hs)
    · rename_i ht
      obtain ⟨a, ha, hs⟩ := hs
      exact go (.ref a) (by unfold sm_fu; rw [ht, ha]; rfl) (kk _ _ _ hs)
    · rename_i h1 h2 h3
      refine go _ ?_ (kk _ _ _ hs)
      unfold sm_fu
      split
      · exact absurd ‹_› h1
      · exact absurd ‹_› (h2 _)
      · exact absurd ‹_› (h3 _)
      · rfl
  · exact hs.elim
theorem LW.putfield {idx c k : Nat} (hl : sm_fl mi_law.2.2.2.2.1 idx c k) (hf : (sm_TC c k).2.2.2 = false ∨ ((sm_TC c k).2.2.2 = true ∧ mi_law.1.name = "<init>" ∧ (sm_TC c k).1 = sm_RC mi_law.2.2.2.2.1)) (hd : decode mi_law.2.1 pc = .ok (.putfield idx, 3)) (hs : sx_putfield c k lv st h Q) (kk : ∀ lv' st' h', Q lv' st' h' → LW l b L xs (pc + 3) lv' st' h' uc us) : LW l b L xs pc lv st h uc us := by
  obtain ⟨⟨hc, hn⟩, hw⟩ := hl
  have go : ∀ (o : Nat) (r : List Value) (v : Value) (h' : SH) (ty : FieldType), (o < h.1 ∧ (h.2.1 o).1 = c) → sm_ty c k = ty → (∀ base sa, narrow ty (sm_mv base sa v) = sm_mv base sa v) → (∀ base sa, fits ty (sm_mv base sa v) = true) → h'.1 = h.1 → h'.2.1 = h.2.1 → sm_fu h' o c k = v → (∀ j, j ≠ k → sm_fu h' o c j = sm_fu h o c j) →
      (∀ q, q ≠ o → h'.2.2.1 q = h.2.2.1 q) → (∀ q, q ≠ o → h'.2.2.2.1 q = h.2.2.2.1 q) → (∀ q, q ≠ o → h'.2.2.2.2 q = h.2.2.2.2 q) → LW l b L xs (pc + 3) lv r h' uc us → LW l b L xs pc lv (v :: .ref o :: r) h uc us := by
    intro o r v h' ty ⟨ho, hk⟩ hty hnar hfit e1 e2 ev ej hI hJ hR hE base sa cy D p e s m args below meth cd H locs ls C hPP hWd hz hS hL
    have C0 := C
    obtain ⟨hx, hb, hml, hret, hlocks, hts, hown, hnm, hbs, hK, hSx⟩ := C
    rw [List.map_cons, List.map_cons, sm_mvr hWd.1 ho]
    have hlen : k < ((List.range (sm_nC c)).map (fun k => sm_mv base sa (sm_fu h o c k))).length := by simpa using hn
    have hws := sm_ws_fld (base := base) (sa := sa) (cy := cy) ho hk hc e1 e2 ev ej hI hJ hR
    have hpd : parseFieldDescriptor (sm_TC c k).2.2.1 = some ty := by rw [← hty]; exact sm_tyok hc k hn
    have fin : ∀ (H1 : Heap) (locs1 : List Loc), va_P D vwCl ((sm_ws base sa cy h).set o (base + o, .inr (c, ((List.range (sm_nC c)).map (fun k => sm_mv base sa (sm_fu h o c k))).set k (sm_mv base sa v)))) H1 → va_S (sm_A base) s.heap H1 locs1 →
        W p l e room_1 s m args below meth cd H1 locs1 uc us (lw_Z below args s) (F0 m (pc + 3) ls (r.map (sm_mv base sa))) := by
      intro H1 locs1 hP1 hS1
      rw [hws] at hP1
      exact hE base sa cy D p e s m args below meth cd H1 locs1 ls C0 hPP ⟨by rw [e1]; exact hWd.1, hP1⟩ (by rw [e1]; exact hz) hS1 hL
    rcases hf with hf | ⟨hf, hi, hdc⟩
    · exact va_put hx hb hts (sm_lay hc) (sm_ty c) (sm_tyok hc) (sm_nm hc) hown hK hWd.2 (sm_D base sa cy h) hS o (sm_obj ho hk hc) (sm_cl hc) k hn (hts _ hw) (fun _ h9 => h9) hf hpd (hnar base sa) (hfit base sa) hlen hd (fun H1 locs1 hP1 _ hS1 => fin H1 locs1 hP1 hS1)
    · exact va_putF hx hb hts (sm_lay hc) (sm_ty c) (sm_tyok hc) (sm_nm hc) hown hK hWd.2 (sm_D base sa cy h) hS o (sm_obj ho hk hc) (sm_cl hc) k hn (hts _ hw) (fun _ h9 => h9) hf (hnm.trans hi) hdc hpd (hnar base sa) (hfit base sa) hlen hd (fun H1 locs1 hP1 _ hS1 => fin H1 locs1 hP1 hS1)
  have upI : ∀ (o j : Nat) (x : Int32), j ≠ k → sm_fu (sm_I h o k x) o c j = sm_fu h o c j := by
    intro o j x hj
    unfold sm_fu sm_I
    simp only [sm_up_self, if_neg hj]
  have upJ : ∀ (o j : Nat) (x : Int64), j ≠ k → sm_fu (sm_J h o k x) o c j = sm_fu h o c j := by
    intro o j x hj
    unfold sm_fu sm_J
    simp only [sm_up_self, if_neg hj]
  have upR : ∀ (o j : Nat) (x : Option Nat), j ≠ k → sm_fu (sm_R h o k x) o c j = sm_fu h o c j := by
    intro o j x hj
    unfold sm_fu sm_R
    simp only [sm_up_self, if_neg hj]
  have oI : ∀ (o q : Nat) (x : Int32), q ≠ o → (sm_I h o k x).2.2.1 q = h.2.2.1 q := fun o q x hq => sm_up_other hq
  have oJ : ∀ (o q : Nat) (x : Int64), q ≠ o → (sm_J h o k x).2.2.2.1 q = h.2.2.2.1 q := fun o q x hq => sm_up_other hq
  have oR : ∀ (o q : Nat) (x : Option Nat), q ≠ o → (sm_R h o k x).2.2.2.2 q = h.2.2.2.2 q := fun o q x hq => sm_up_other hq
  unfold sx_putfield at hs
  split at hs
  · rename_i x o r
    obtain ⟨hok, hs⟩ := hs
    split at hs
    · rename_i ht
      exact go o r _ (sm_I h o k x) _ hok ht (fun _ _ => rfl) (fun _ _ => rfl) rfl rfl (by unfold sm_fu sm_I; rw [ht]; simp [sm_up_self]) (fun j hj => upI o j x hj) (fun q hq => oI o q x hq) (fun _ _ => rfl) (fun _ _ => rfl) (kk _ _ _ hs)
    · rename_i ht
      obtain ⟨hx01, hs⟩ := hs
      refine go o r _ (sm_I h o k x) _ hok ht (fun _ _ => ?_) (fun _ _ => ?_) rfl rfl (by unfold sm_fu sm_I; rw [ht]; simp [sm_up_self]) (fun j hj => upI o j x hj) (fun q hq => oI o q x hq) (fun _ _ => rfl) (fun _ _ => rfl) (kk _ _ _ hs)
      · rcases hx01 with rfl | rfl <;> rfl
      · rcases hx01 with rfl | rfl <;> rfl
    · exact hs.elim
  · rename_i x o r
    obtain ⟨hok, hs⟩ := hs
    split at hs
    · rename_i ht
      exact go o r _ (sm_J h o k x) _ hok ht (fun _ _ => rfl) (fun _ _ => rfl) rfl rfl (by unfold sm_fu sm_J; rw [ht]; simp [sm_up_self]) (fun j hj => upJ o j x hj) (fun _ _ => rfl) (fun q hq => oJ o q x hq) (fun _ _ => rfl) (kk _ _ _ hs)
    · exact hs.elim
  · rename_i a o r
    obtain ⟨hok, hs⟩ := hs
    split at hs
    · rename_i ht
      exact go o r _ (sm_R h o k (some a)) _ hok ht (fun _ _ => rfl) (fun _ _ => rfl) rfl rfl (by unfold sm_fu sm_R; rw [ht]; simp [sm_up_self, sm_rf]) (fun j hj => upR o j _ hj) (fun _ _ => rfl) (fun _ _ => rfl) (fun q hq => oR o q _ hq) (kk _ _ _ hs)
    · rename_i ht
      exact go o r _ (sm_R h o k (some a)) _ hok ht (fun _ _ => rfl) (fun _ _ => rfl) rfl rfl (by unfold sm_fu sm_R; rw [ht]; simp [sm_up_self, sm_rf]) (fun j hj => upR o j _ hj) (fun _ _ => rfl) (fun _ _ => rfl) (fun q hq => oR o q _ hq) (kk _ _ _ hs)
    · exact hs.elim
  · rename_i o r
    obtain ⟨hok, hs⟩ := hs
    split at hs
    · rename_i ht
      exact go o r _ (sm_R h o k none) _ hok ht (fun _ _ => rfl) (fun _ _ => rfl) rfl rfl (by unfold sm_fu sm_R; rw [ht]; simp [sm_up_self, sm_rf]) (fun j hj => upR o j _ hj) (fun _ _ => rfl) (fun _ _ => rfl) (fun q hq => oR o q _ hq) (kk _ _ _ hs)
    · exact hs.elim
  · exact hs.elim
theorem LW.iaload {k : Nat} (hd : decode mi_law.2.1 pc = .ok (.iaload, 1)) (hs : sx_iaload k lv st h Q) (kk : ∀ lv' st' h', Q lv' st' h' → LW l b L xs (pc + 1) lv' st' h' uc us) : LW l b L xs pc lv st h uc us := by
  unfold sx_iaload at hs
  split at hs
  · rename_i i a r
    split at hs
    · obtain ⟨⟨ho, hk⟩, hin, hs⟩ := hs
      intro base sa cy D p e s m args below meth cd H locs ls C hPP hWd hz hS hL
      have C0 := C
      obtain ⟨hx, hb, hml, hret, hlocks, hts, hown, hnm, hbs, hK, hSx⟩ := C
      rw [List.map_cons, List.map_cons, sm_mvr hWd.1 ho]
      exact va_iald hx hb hK hWd.2 a 2 (sm_row ho hk (by omega) (by omega)) rfl hin hd (kk _ _ _ hs base sa cy D p e s m args below meth cd H locs ls C0 hPP hWd hz hS hL)
    · obtain ⟨⟨ha, hb4⟩, hin, hs⟩ := hs
      have ha : (1000000 : Nat) ≤ a := ha
      have hb4 : (a : Nat) < (1000004 : Nat) := hb4
      have hlt : ¬ ((a : Nat) < (1000000 : Nat)) := Nat.not_lt.mpr ha
      have hj : (a : Nat) - 1000000 < 4 := Nat.sub_lt_left_of_lt_add ha hb4
      intro base sa cy D p e s m args below meth cd H locs ls C hPP hWd hz hS hL
      have C0 := C
      obtain ⟨hx, hb, hml, hret, hlocks, hts, hown, hnm, hbs, hK, hSx⟩ := C
      have ea : sm_mv base sa (.ref a) = .ref (sa (a - 1000000)) := by
        show Value.ref (if a < 1000000 then base + a else sa (a - 1000000)) = _
        rw [if_neg hlt]
      rw [List.map_cons, List.map_cons, ea]
      exact va_ti hx hb (hSx.1 (a - 1000000) hj).2 hS hin rfl hd (kk _ _ _ hs base sa cy D p e s m args below meth cd H locs ls C0 hPP hWd hz hS hL)
  · exact hs.elim
theorem LW.baload {k : Nat} (hd : decode mi_law.2.1 pc = .ok (.baload, 1)) (hs : sx_baload k lv st h Q) (kk : ∀ lv' st' h', Q lv' st' h' → LW l b L xs (pc + 1) lv' st' h' uc us) : LW l b L xs pc lv st h uc us := by
  unfold sx_baload at hs
  split at hs
  · rename_i i a r
    split at hs
    · obtain ⟨⟨ho, hk⟩, hin, hs⟩ := hs
      intro base sa cy D p e s m args below meth cd H locs ls C hPP hWd hz hS hL
      have C0 := C
      obtain ⟨hx, hb, hml, hret, hlocks, hts, hown, hnm, hbs, hK, hSx⟩ := C
      rw [List.map_cons, List.map_cons, sm_mvr hWd.1 ho]
      exact va_bald hx hb hK hWd.2 a 0 (sm_row ho hk (by omega) (by omega)) rfl hin hd (kk _ _ _ hs base sa cy D p e s m args below meth cd H locs ls C0 hPP hWd hz hS hL)
    · exact hs.elim
  · exact hs.elim
theorem LW.caload {k : Nat} (hd : decode mi_law.2.1 pc = .ok (.caload, 1)) (hs : sx_caload k lv st h Q) (kk : ∀ lv' st' h', Q lv' st' h' → LW l b L xs (pc + 1) lv' st' h' uc us) : LW l b L xs pc lv st h uc us := by
  unfold sx_caload at hs
  split at hs
  · rename_i i a r
    split at hs
    · obtain ⟨⟨ho, hk⟩, hin, hs⟩ := hs
      intro base sa cy D p e s m args below meth cd H locs ls C hPP hWd hz hS hL
      have C0 := C
      obtain ⟨hx, hb, hml, hret, hlocks, hts, hown, hnm, hbs, hK, hSx⟩ := C
      rw [List.map_cons, List.map_cons, sm_mvr hWd.1 ho]
      exact va_cald hx hb hK hWd.2 a 1 (sm_row ho hk (by omega) (by omega)) rfl hin hd (kk _ _ _ hs base sa cy D p e s m args below meth cd H locs ls C0 hPP hWd hz hS hL)
    · exact hs.elim
  · exact hs.elim
theorem LW.laload (hd : decode mi_law.2.1 pc = .ok (.laload, 1)) (hs : sx_laload lv st h Q) (kk : ∀ lv' st' h', Q lv' st' h' → LW l b L xs (pc + 1) lv' st' h' uc us) : LW l b L xs pc lv st h uc us := by
  unfold sx_laload at hs
  split at hs
  · rename_i i a r
    obtain ⟨⟨ho, hk⟩, hin, hs⟩ := hs
    intro base sa cy D p e s m args below meth cd H locs ls C hPP hWd hz hS hL
    have C0 := C
    obtain ⟨hx, hb, hml, hret, hlocks, hts, hown, hnm, hbs, hK, hSx⟩ := C
    rw [List.map_cons, List.map_cons, sm_mvr hWd.1 ho]
    exact va_lald hx hb hK hWd.2 a 3 (sm_rowL ho hk) rfl hin hd (kk _ _ _ hs base sa cy D p e s m args below meth cd H locs ls C0 hPP hWd hz hS hL)
  · exact hs.elim
theorem LW.iastore (hd : decode mi_law.2.1 pc = .ok (.iastore, 1)) (hs : sx_iastore lv st h Q) (kk : ∀ lv' st' h', Q lv' st' h' → LW l b L xs (pc + 1) lv' st' h' uc us) : LW l b L xs pc lv st h uc us := by
  unfold sx_iastore at hs
  split at hs
  · rename_i x i a r
    obtain ⟨⟨ho, hk⟩, hin, hs⟩ := hs
    intro base sa cy D p e s m args below meth cd H locs ls C hPP hWd hz hS hL
    have C0 := C
    obtain ⟨hx, hb, hml, hret, hlocks, hts, hown, hnm, hbs, hK, hSx⟩ := C
    rw [List.map_cons, List.map_cons, List.map_cons, sm_mvr hWd.1 ho]
    refine va_iast hx hb hK hWd.2 (sm_D base sa cy h) hS a 2 (sm_row ho hk (by omega) (by omega)) rfl hin hd (fun H1 locs1 hP1 _ hS1 => ?_)
    rw [sm_ws_row ho hk (by omega) (by omega)] at hP1
    exact kk _ _ _ hs base sa cy D p e s m args below meth cd H1 locs1 ls C0 hPP ⟨hWd.1, hP1⟩ hz hS1 hL
  · exact hs.elim
theorem LW.bastore (hd : decode mi_law.2.1 pc = .ok (.bastore, 1)) (hs : sx_bastore lv st h Q) (kk : ∀ lv' st' h', Q lv' st' h' → LW l b L xs (pc + 1) lv' st' h' uc us) : LW l b L xs pc lv st h uc us := by
  unfold sx_bastore at hs
  split at hs
  · rename_i x i a r
    obtain ⟨⟨ho, hk⟩, hin, hs⟩ := hs
    intro base sa cy D p e s m args below meth cd H locs ls C hPP hWd hz hS hL
    have C0 := C
    obtain ⟨hx, hb, hml, hret, hlocks, hts, hown, hnm, hbs, hK, hSx⟩ := C
    rw [List.map_cons, List.map_cons, List.map_cons, sm_mvr hWd.1 ho]
    refine va_bast hx hb hK hWd.2 (sm_D base sa cy h) hS a 0 (sm_row ho hk (by omega) (by omega)) rfl hin hd (fun H1 locs1 hP1 _ hS1 => ?_)
    rw [sm_ws_row ho hk (by omega) (by omega)] at hP1
    exact kk _ _ _ hs base sa cy D p e s m args below meth cd H1 locs1 ls C0 hPP ⟨hWd.1, hP1⟩ hz hS1 hL
  · exact hs.elim
theorem LW.castore (hd : decode mi_law.2.1 pc = .ok (.castore, 1)) (hs : sx_castore lv st h Q) (kk : ∀ lv' st' h', Q lv' st' h' → LW l b L xs (pc + 1) lv' st' h' uc us) : LW l b L xs pc lv st h uc us := by
  unfold sx_castore at hs
  split at hs
  · rename_i x i a r
    obtain ⟨⟨ho, hk⟩, hin, hs⟩ := hs
    intro base sa cy D p e s m args below meth cd H locs ls C hPP hWd hz hS hL
    have C0 := C
    obtain ⟨hx, hb, hml, hret, hlocks, hts, hown, hnm, hbs, hK, hSx⟩ := C
    rw [List.map_cons, List.map_cons, List.map_cons, sm_mvr hWd.1 ho]
    refine va_cast hx hb hK hWd.2 (sm_D base sa cy h) hS a 1 (sm_row ho hk (by omega) (by omega)) rfl hin hd (fun H1 locs1 hP1 _ hS1 => ?_)
    rw [sm_ws_row ho hk (by omega) (by omega)] at hP1
    exact kk _ _ _ hs base sa cy D p e s m args below meth cd H1 locs1 ls C0 hPP ⟨hWd.1, hP1⟩ hz hS1 hL
  · exact hs.elim
theorem LW.lastore (hd : decode mi_law.2.1 pc = .ok (.lastore, 1)) (hs : sx_lastore lv st h Q) (kk : ∀ lv' st' h', Q lv' st' h' → LW l b L xs (pc + 1) lv' st' h' uc us) : LW l b L xs pc lv st h uc us := by
  unfold sx_lastore at hs
  split at hs
  · rename_i x i a r
    obtain ⟨⟨ho, hk⟩, hin, hs⟩ := hs
    intro base sa cy D p e s m args below meth cd H locs ls C hPP hWd hz hS hL
    have C0 := C
    obtain ⟨hx, hb, hml, hret, hlocks, hts, hown, hnm, hbs, hK, hSx⟩ := C
    rw [List.map_cons, List.map_cons, List.map_cons, sm_mvr hWd.1 ho]
    refine va_last hx hb hK hWd.2 (sm_D base sa cy h) hS a 3 (sm_rowL ho hk) rfl hin hd (fun H1 locs1 hP1 _ hS1 => ?_)
    rw [sm_ws_rowL ho hk] at hP1
    exact kk _ _ _ hs base sa cy D p e s m args below meth cd H1 locs1 ls C0 hPP ⟨hWd.1, hP1⟩ hz hS1 hL
  · exact hs.elim
theorem LW.arraylength (hd : decode mi_law.2.1 pc = .ok (.arraylength, 1)) (hs : sx_arraylength lv st h Q) (kk : ∀ lv' st' h', Q lv' st' h' → LW l b L xs (pc + 1) lv' st' h' uc us) : LW l b L xs pc lv st h uc us := by
  unfold sx_arraylength at hs
  split at hs
  · rename_i a r
    obtain ⟨⟨ho, h11, h14⟩, hs⟩ := hs
    intro base sa cy D p e s m args below meth cd H locs ls C hPP hWd hz hS hL
    have C0 := C
    obtain ⟨hx, hb, hml, hret, hlocks, hts, hown, hnm, hbs, hK, hSx⟩ := C
    rw [List.map_cons, sm_mvr hWd.1 ho]
    have fin := kk _ _ _ hs base sa cy D p e s m args below meth cd H locs ls C0 hPP hWd hz hS hL
    by_cases hk : (h.2.1 a).1 = 14
    · exact va_alen hx hb hK hWd.2 a 3 (sm_rowL ho hk) rfl rfl hd fin
    · have hr := sm_row (base := base) (sa := sa) (cy := cy) ho rfl h11 hk
      rcases (show (h.2.1 a).1 = 11 ∨ (h.2.1 a).1 = 12 ∨ (h.2.1 a).1 = 13 by omega) with q | q | q
      · exact va_alen hx hb hK hWd.2 a 0 hr (by rw [q]; rfl) rfl hd fin
      · exact va_alen hx hb hK hWd.2 a 1 hr (by rw [q]; rfl) rfl hd fin
      · exact va_alen hx hb hK hWd.2 a 2 hr (by rw [q]; rfl) rfl hd fin
  · exact hs.elim
theorem LW.getstatic {idx k : Nat} (hl : sm_gl mi_law.2.2.2.2.1 idx k) (hd : decode mi_law.2.1 pc = .ok (.getstatic idx, 3)) (hs : sx_getstatic k lv st h Q) (kk : ∀ lv' st' h', Q lv' st' h' → LW l b L xs (pc + 3) lv' st' h' uc us) : LW l b L xs pc lv st h uc us := by
    obtain ⟨hk, hs⟩ := hs
    intro base sa cy D p e s m args below meth cd H locs ls C hPP hWd hz hS hL
    have C0 := C
    obtain ⟨hx, hb, hml, hret, hlocks, hts, hown, hnm, hbs, hK, hSx⟩ := C
    have e1 : sm_mv base sa (.ref (1000000 + k)) = .ref (sa k) := by
      show Value.ref (if 1000000 + k < 1000000 then base + (1000000 + k) else sa (1000000 + k - 1000000)) = _
      rw [if_neg (by omega), show 1000000 + k - 1000000 = k by omega]
    have fin := kk _ _ _ hs base sa cy D p e s m args below meth cd H locs ls C0 hPP hWd hz hS hL
    rw [List.map_cons, e1] at fin
    exact va_getsN hx hb (hSx.1 k hk).1 hS hown (va_Nw.use rfl (hSx.2.2.2.2 _ hl)) (fun _ h9 => h9) hd fin
theorem LW.if_eq {x : Int32} {off : Int} {r : List Value} {tgt : Nat} (hd : decode mi_law.2.1 pc = .ok (.ifCond .eq off, 3)) (ht : (pc : Int) + off = (tgt : Int)) (kt : x = 0 → LW l b L xs tgt lv r h uc us) (kf : ¬ x = 0 → LW l b L xs (pc + 3) lv r h uc us) : LW l b L xs pc lv (.int x :: r) h uc us := by
    intro base sa cy D p e s m args below meth cd H locs ls C hPP hWd hz hS hL
    have C0 := C
    obtain ⟨hx, hb, hml, hret, hlocks, hts, hown, hnm, hbs, hK, hSx⟩ := C
    exact lv_if_eq hx hb hd ht (fun q => kt q base sa cy D p e s m args below meth cd H locs ls C0 hPP hWd hz hS hL) (fun q => kf q base sa cy D p e s m args below meth cd H locs ls C0 hPP hWd hz hS hL)
theorem LW.if_ne {x : Int32} {off : Int} {r : List Value} {tgt : Nat} (hd : decode mi_law.2.1 pc = .ok (.ifCond .ne off, 3)) (ht : (pc : Int) + off = (tgt : Int)) (kt : ¬ x = 0 → LW l b L xs tgt lv r h uc us) (kf : x = 0 → LW l b L xs (pc + 3) lv r h uc us) : LW l b L xs pc lv (.int x :: r) h uc us := by
    intro base sa cy D p e s m args below meth cd H locs ls C hPP hWd hz hS hL
    have C0 := C
    obtain ⟨hx, hb, hml, hret, hlocks, hts, hown, hnm, hbs, hK, hSx⟩ := C
    exact lv_if_ne hx hb hd ht (fun q => kt q base sa cy D p e s m args below meth cd H locs ls C0 hPP hWd hz hS hL) (fun q => kf q base sa cy D p e s m args below meth cd H locs ls C0 hPP hWd hz hS hL)
theorem LW.if_lt {x : Int32} {off : Int} {r : List Value} {tgt : Nat} (hd : decode mi_law.2.1 pc = .ok (.ifCond .lt off, 3)) (ht : (pc : Int) + off = (tgt : Int)) (kt : x < 0 → LW l b L xs tgt lv r h uc us) (kf : ¬ x < 0 → LW l b L xs (pc + 3) lv r h uc us) : LW l b L xs pc lv (.int x :: r) h uc us := by
    intro base sa cy D p e s m args below meth cd H locs ls C hPP hWd hz hS hL
    have C0 := C
    obtain ⟨hx, hb, hml, hret, hlocks, hts, hown, hnm, hbs, hK, hSx⟩ := C
    exact lv_if_lt hx hb hd ht (fun q => kt q base sa cy D p e s m args below meth cd H locs ls C0 hPP hWd hz hS hL) (fun q => kf q base sa cy D p e s m args below meth cd H locs ls C0 hPP hWd hz hS hL)
theorem LW.if_ge {x : Int32} {off : Int} {r : List Value} {tgt : Nat} (hd : decode mi_law.2.1 pc = .ok (.ifCond .ge off, 3)) (ht : (pc : Int) + off = (tgt : Int)) (kt : 0 ≤ x → LW l b L xs tgt lv r h uc us) (kf : ¬ 0 ≤ x → LW l b L xs (pc + 3) lv r h uc us) : LW l b L xs pc lv (.int x :: r) h uc us := by
    intro base sa cy D p e s m args below meth cd H locs ls C hPP hWd hz hS hL
    have C0 := C
    obtain ⟨hx, hb, hml, hret, hlocks, hts, hown, hnm, hbs, hK, hSx⟩ := C
    exact lv_if_ge hx hb hd ht (fun q => kt q base sa cy D p e s m args below meth cd H locs ls C0 hPP hWd hz hS hL) (fun q => kf q base sa cy D p e s m args below meth cd H locs ls C0 hPP hWd hz hS hL)
theorem LW.if_gt {x : Int32} {off : Int} {r : List Value} {tgt : Nat} (hd : decode mi_law.2.1 pc = .ok (.ifCond .gt off, 3)) (ht : (pc : Int) + off = (tgt : Int)) (kt : 0 < x → LW l b L xs tgt lv r h uc us) (kf : ¬ 0 < x → LW l b L xs (pc + 3) lv r h uc us) : LW l b L xs pc lv (.int x :: r) h uc us := by
    intro base sa cy D p e s m args below meth cd H locs ls C hPP hWd hz hS hL
    have C0 := C
    obtain ⟨hx, hb, hml, hret, hlocks, hts, hown, hnm, hbs, hK, hSx⟩ := C
    exact lv_if_gt hx hb hd ht (fun q => kt q base sa cy D p e s m args below meth cd H locs ls C0 hPP hWd hz hS hL) (fun q => kf q base sa cy D p e s m args below meth cd H locs ls C0 hPP hWd hz hS hL)
theorem LW.if_le {x : Int32} {off : Int} {r : List Value} {tgt : Nat} (hd : decode mi_law.2.1 pc = .ok (.ifCond .le off, 3)) (ht : (pc : Int) + off = (tgt : Int)) (kt : x ≤ 0 → LW l b L xs tgt lv r h uc us) (kf : ¬ x ≤ 0 → LW l b L xs (pc + 3) lv r h uc us) : LW l b L xs pc lv (.int x :: r) h uc us := by
    intro base sa cy D p e s m args below meth cd H locs ls C hPP hWd hz hS hL
    have C0 := C
    obtain ⟨hx, hb, hml, hret, hlocks, hts, hown, hnm, hbs, hK, hSx⟩ := C
    exact lv_if_le hx hb hd ht (fun q => kt q base sa cy D p e s m args below meth cd H locs ls C0 hPP hWd hz hS hL) (fun q => kf q base sa cy D p e s m args below meth cd H locs ls C0 hPP hWd hz hS hL)
theorem LW.icmp_eq {x y : Int32} {off : Int} {r : List Value} {tgt : Nat} (hd : decode mi_law.2.1 pc = .ok (.if_icmp .eq off, 3)) (ht : (pc : Int) + off = (tgt : Int)) (kt : x = y → LW l b L xs tgt lv r h uc us) (kf : ¬ x = y → LW l b L xs (pc + 3) lv r h uc us) : LW l b L xs pc lv (.int y :: .int x :: r) h uc us := by
    intro base sa cy D p e s m args below meth cd H locs ls C hPP hWd hz hS hL
    have C0 := C
    obtain ⟨hx, hb, hml, hret, hlocks, hts, hown, hnm, hbs, hK, hSx⟩ := C
    exact lv_icmp_eq hx hb hd ht (fun q => kt q base sa cy D p e s m args below meth cd H locs ls C0 hPP hWd hz hS hL) (fun q => kf q base sa cy D p e s m args below meth cd H locs ls C0 hPP hWd hz hS hL)
theorem LW.icmp_ne {x y : Int32} {off : Int} {r : List Value} {tgt : Nat} (hd : decode mi_law.2.1 pc = .ok (.if_icmp .ne off, 3)) (ht : (pc : Int) + off = (tgt : Int)) (kt : ¬ x = y → LW l b L xs tgt lv r h uc us) (kf : x = y → LW l b L xs (pc + 3) lv r h uc us) : LW l b L xs pc lv (.int y :: .int x :: r) h uc us := by
    intro base sa cy D p e s m args below meth cd H locs ls C hPP hWd hz hS hL
    have C0 := C
    obtain ⟨hx, hb, hml, hret, hlocks, hts, hown, hnm, hbs, hK, hSx⟩ := C
    exact lv_icmp_ne hx hb hd ht (fun q => kt q base sa cy D p e s m args below meth cd H locs ls C0 hPP hWd hz hS hL) (fun q => kf q base sa cy D p e s m args below meth cd H locs ls C0 hPP hWd hz hS hL)
theorem LW.icmp_lt {x y : Int32} {off : Int} {r : List Value} {tgt : Nat} (hd : decode mi_law.2.1 pc = .ok (.if_icmp .lt off, 3)) (ht : (pc : Int) + off = (tgt : Int)) (kt : x < y → LW l b L xs tgt lv r h uc us) (kf : ¬ x < y → LW l b L xs (pc + 3) lv r h uc us) : LW l b L xs pc lv (.int y :: .int x :: r) h uc us := by
    intro base sa cy D p e s m args below meth cd H locs ls C hPP hWd hz hS hL
    have C0 := C
    obtain ⟨hx, hb, hml, hret, hlocks, hts, hown, hnm, hbs, hK, hSx⟩ := C
    exact lv_icmp_lt hx hb hd ht (fun q => kt q base sa cy D p e s m args below meth cd H locs ls C0 hPP hWd hz hS hL) (fun q => kf q base sa cy D p e s m args below meth cd H locs ls C0 hPP hWd hz hS hL)
theorem LW.icmp_ge {x y : Int32} {off : Int} {r : List Value} {tgt : Nat} (hd : decode mi_law.2.1 pc = .ok (.if_icmp .ge off, 3)) (ht : (pc : Int) + off = (tgt : Int)) (kt : y ≤ x → LW l b L xs tgt lv r h uc us) (kf : ¬ y ≤ x → LW l b L xs (pc + 3) lv r h uc us) : LW l b L xs pc lv (.int y :: .int x :: r) h uc us := by
    intro base sa cy D p e s m args below meth cd H locs ls C hPP hWd hz hS hL
    have C0 := C
    obtain ⟨hx, hb, hml, hret, hlocks, hts, hown, hnm, hbs, hK, hSx⟩ := C
    exact lv_icmp_ge hx hb hd ht (fun q => kt q base sa cy D p e s m args below meth cd H locs ls C0 hPP hWd hz hS hL) (fun q => kf q base sa cy D p e s m args below meth cd H locs ls C0 hPP hWd hz hS hL)
theorem LW.icmp_gt {x y : Int32} {off : Int} {r : List Value} {tgt : Nat} (hd : decode mi_law.2.1 pc = .ok (.if_icmp .gt off, 3)) (ht : (pc : Int) + off = (tgt : Int)) (kt : y < x → LW l b L xs tgt lv r h uc us) (kf : ¬ y < x → LW l b L xs (pc + 3) lv r h uc us) : LW l b L xs pc lv (.int y :: .int x :: r) h uc us := by
    intro base sa cy D p e s m args below meth cd H locs ls C hPP hWd hz hS hL
    have C0 := C
    obtain ⟨hx, hb, hml, hret, hlocks, hts, hown, hnm, hbs, hK, hSx⟩ := C
    exact lv_icmp_gt hx hb hd ht (fun q => kt q base sa cy D p e s m args below meth cd H locs ls C0 hPP hWd hz hS hL) (fun q => kf q base sa cy D p e s m args below meth cd H locs ls C0 hPP hWd hz hS hL)
theorem LW.icmp_le {x y : Int32} {off : Int} {r : List Value} {tgt : Nat} (hd : decode mi_law.2.1 pc = .ok (.if_icmp .le off, 3)) (ht : (pc : Int) + off = (tgt : Int)) (kt : x ≤ y → LW l b L xs tgt lv r h uc us) (kf : ¬ x ≤ y → LW l b L xs (pc + 3) lv r h uc us) : LW l b L xs pc lv (.int y :: .int x :: r) h uc us := by
    intro base sa cy D p e s m args below meth cd H locs ls C hPP hWd hz hS hL
    have C0 := C
    obtain ⟨hx, hb, hml, hret, hlocks, hts, hown, hnm, hbs, hK, hSx⟩ := C
    exact lv_icmp_le hx hb hd ht (fun q => kt q base sa cy D p e s m args below meth cd H locs ls C0 hPP hWd hz hS hL) (fun q => kf q base sa cy D p e s m args below meth cd H locs ls C0 hPP hWd hz hS hL)
theorem LW.goto {off : Int} {tgt : Nat} (hd : decode mi_law.2.1 pc = .ok (.goto off, 3)) (ht : (pc : Int) + off = (tgt : Int)) (k : LW l b L xs tgt lv st h uc us) : LW l b L xs pc lv st h uc us := by
    intro base sa cy D p e s m args below meth cd H locs ls C hPP hWd hz hS hL
    have C0 := C
    obtain ⟨hx, hb, hml, hret, hlocks, hts, hown, hnm, hbs, hK, hSx⟩ := C
    exact lv_goto hx hb hd ht (k base sa cy D p e s m args below meth cd H locs ls C0 hPP hWd hz hS hL)
theorem LW.ifnull {off : Int} {a : Nat} {r : List Value} (hd : decode mi_law.2.1 pc = .ok (.ifnull off, 3)) (k : LW l b L xs (pc + 3) lv r h uc us) : LW l b L xs pc lv (.ref a :: r) h uc us := by
    intro base sa cy D p e s m args below meth cd H locs ls C hPP hWd hz hS hL
    have C0 := C
    obtain ⟨hx, hb, hml, hret, hlocks, hts, hown, hnm, hbs, hK, hSx⟩ := C
    exact lv_ifnull hx hb hd (k base sa cy D p e s m args below meth cd H locs ls C0 hPP hWd hz hS hL)
theorem LW.aconst_null (hd : decode mi_law.2.1 pc = .ok (.aconst_null, 1)) (k : LW l b L xs (pc + 1) lv (.null :: st) h uc us) : LW l b L xs pc lv st h uc us := by
    intro base sa cy D p e s m args below meth cd H locs ls C hPP hWd hz hS hL
    have C0 := C
    obtain ⟨hx, hb, hml, hret, hlocks, hts, hown, hnm, hbs, hK, hSx⟩ := C
    exact lv_null hx hb hd (k base sa cy D p e s m args below meth cd H locs ls C0 hPP hWd hz hS hL)
theorem LW.tswitch {dflt lo hi : Int} {offs : Array Int} {len : Nat} {x : Int32} {r : List Value} (hd : decode mi_law.2.1 pc = .ok (.tableswitch dflt lo hi offs, len)) {tgt : Nat} (ht : (pc : Int) + (if x.toInt < lo ∨ hi < x.toInt then dflt else offs.getD (x.toInt - lo).toNat 0) = (tgt : Int)) (hsz : offs.size = (hi - lo + 1).toNat)
    (k : LW l b L xs tgt lv r h uc us) : LW l b L xs pc lv (.int x :: r) h uc us := by
    intro base sa cy D p e s m args below meth cd H locs ls C hPP hWd hz hS hL
    have C0 := C
    obtain ⟨hx, hb, hml, hret, hlocks, hts, hown, hnm, hbs, hK, hSx⟩ := C
    by_cases hc : x.toInt < lo ∨ hi < x.toInt
    · rw [if_pos hc] at ht
      exact lv_tableOut hx hb hd hc ht (k base sa cy D p e s m args below meth cd H locs ls C0 hPP hWd hz hS hL)
    · rw [if_neg hc] at ht
      have hi : (x.toInt - lo).toNat < offs.size := by omega
      refine lv_tableIn hx hb hd (fun q => hc (Or.inl q)) (fun q => hc (Or.inr q)) (off := offs.getD (x.toInt - lo).toNat 0) ?_ ht (k base sa cy D p e s m args below meth cd H locs ls C0 hPP hWd hz hS hL)
      rw [Array.getD_eq_getD_getElem?, Array.getElem?_eq_getElem hi]
      rfl
theorem LW.lswitch {dflt : Int} {ps : Array (Int × Int)} {len : Nat} {x : Int32} {r : List Value} (hd : decode mi_law.2.1 pc = .ok (.lookupswitch dflt ps, len)) (hp : (ps.toList.zip (ps.toList.drop 1)).all (fun (a, next) => a.1 < next.1) = true) {tgt : Nat} (ht : (pc : Int) + Op.lookupswitch.offset ps.toList dflt x.toInt = (tgt : Int))
    (k : LW l b L xs tgt lv r h uc us) : LW l b L xs pc lv (.int x :: r) h uc us := by
    intro base sa cy D p e s m args below meth cd H locs ls C hPP hWd hz hS hL
    have C0 := C
    obtain ⟨hx, hb, hml, hret, hlocks, hts, hown, hnm, hbs, hK, hSx⟩ := C
    exact lv_lookup hx hb hd hp rfl ht (k base sa cy D p e s m args below meth cd H locs ls C0 hPP hWd hz hS hL)
theorem LW.callV {M' : MI} {idx o d' n : Nat} {As rest : List Value} {r' : Option Value × SH} (hC : Cl l d' M' (.ref o :: As) h r') (hdd : d' ≤ 1000) (hm : sm_mi M' n) (hi : Cond.instanceMethod M'.1 ∈ sm_Tg) (hsel : Cond.selects M'.1.cls M'.1 M'.1 ∈ sm_Tg) (hlk : Cond.methodLink (sm_RC mi_law.2.2.2.2.1) idx M'.1 ∈ sm_Tg)
    (ho : o < h.1 ∧ (h.2.1 o).1 = M'.2.2.2.2.1) (hc11 : M'.2.2.2.2.1 < 11) (hn : As.length = n) (hr1 : r'.2.1 = h.1 + M'.2.2.2.2.2.1) (hst : st = As.reverse ++ .ref o :: rest) (hcat : (rest.map fun v => v.category).sum ≤ 8) (hu : uc + M'.2.2.2.2.2.1 ≤ mi_law.2.2.2.2.2.1 ∧ us + M'.2.2.2.2.2.2 ≤ mi_law.2.2.2.2.2.2)
    (hd : decode mi_law.2.1 pc = .ok (.invokevirtual idx, 3)) (kk : LW l b L xs (pc + 3) lv (r'.1.toList ++ rest) r'.2 (uc + M'.2.2.2.2.2.1) (us + M'.2.2.2.2.2.2)) : LW l b L xs pc lv st h uc us := by
  subst hst
  intro base sa cy D p e s m args below meth cd H locs ls C hPP hWd hz hS hL
  have C0 := C
  obtain ⟨hx, hb, hml, hret, hlocks, hts, hown, hnm, hbs, hK, hSx⟩ := C
  obtain ⟨m1, m2, m3, m4, m5⟩ := hm
  intro T hT X
  have hsz := sm_size X hT hWd.2 hbs hS hz
  have hrun : va_Run p l e room_1 s m args below meth cd H locs uc us M'.2.2.2.2.2.1 M'.2.2.2.2.2.2 (F0 m pc ls ((As.reverse ++ Value.ref o :: rest).map (sm_mv base sa))) (rest.map (sm_mv base sa)) (sm_Q base sa cy D r' ((Value.ref (base + o)) :: As.map (sm_mv base sa)).toArray) (sm_A base) := by
    refine va_runV (C := M'.1.cls) (cc := mi_law.2.1) (nL := mi_law.2.2.1) (Ts := sm_Tg) (own := sm_RC mi_law.2.2.2.2.1) (index := idx) (n := n) (bytes := M'.2.1) (maxL := M'.2.2.1) (ret := M'.2.2.2.1) ⟨hx, hb, hml, hown, hts⟩ (hC base sa cy D) ⟨callB_of (Ts := sm_Tg) n hts (sm_good M' m1) rfl rfl rfl (hts _ m2) (hts _ hlk) m4 ⟨by show d' + 1 ≤ 2048; omega, ?_⟩, hts _ hi, hts _ hsel⟩ ⟨sm_blind base sa cy D h _, ?_, fun U hU hW => ⟨?_, sm_pre hU hW hsz hWd hS hK hSx⟩⟩ rfl (by rw [List.length_map]; exact hn) hL.2.1 ?_ ?_ hd hu
    · show 8 + (M'.2.2.1 + 11) + 64 * d' ≤ 84000
      omega
    · rw [m3]
      exact va_recv hK hWd.2 (ci := M'.2.2.2.2.1) (q0 := o) (sm_cl hc11) (sm_obj ho.1 ho.2 hc11)
    · rw [List.map_cons, sm_mvr hWd.1 ho.1]
    · show (As.reverse ++ Value.ref o :: rest).map (sm_mv base sa) = (As.map (sm_mv base sa)).reverse ++ Value.ref (base + o) :: rest.map (sm_mv base sa)
      rw [List.map_append, List.map_reverse, List.map_cons, sm_mvr hWd.1 ho.1]
    · refine lv_room ?_
      rw [sm_cats]
      exact hcat
  refine sm_call hrun hS (fun H1 locs1 hWd1 hS1 => ?_) T hT X
  have fin := kk base sa cy D p e s m args below meth cd H1 locs1 ls C0 hPP hWd1 (by omega) hS1 hL
  rw [List.map_append] at fin
  have e : r'.1.toList.map (sm_mv base sa) = (r'.1.map (sm_mv base sa)).toList := by cases r'.1 <;> rfl
  rw [e] at fin
  exact fin
theorem LW.new {idx c : Nat} (hc : c < 11) (hlk : Cond.classLink (sm_RC mi_law.2.2.2.2.1) idx (sm_RC c) ∈ sm_Tg) (hin : Cond.instantiable (sm_RC c) (sm_nC c) ∈ sm_Tg) (hini : Cond.initialized (sm_RC c) ∈ sm_Tg) (hn : h.1 < 1000000) (hu : uc + 1 ≤ mi_law.2.2.2.2.2.1 ∧ us + sm_nC c ≤ mi_law.2.2.2.2.2.2)
    (hd : decode mi_law.2.1 pc = .ok (.new idx, 3)) (kk : LW l b L xs (pc + 3) lv (.ref h.1 :: st) (sm_new h c 0) (uc + 1) (us + sm_nC c)) : LW l b L xs pc lv st h uc us := by
  intro base sa cy D p e s m args below meth cd H locs ls C hPP hWd hz hS hL
  have C0 := C
  obtain ⟨hx, hb, hml, hret, hlocks, hts, hown, hnm, hbs, hK, hSx⟩ := C
  intro T hT X
  have hsz := sm_size X hT hWd.2 hbs hS hz
  have hKn := hK.1 c _ (sm_cl hc)
  suffices main : W p l e room_1 s m args below meth cd H locs uc us (lw_Z below args s) (F0 m pc ls (st.map (sm_mv base sa))) from main T hT X
  refine W.newcK hx hb hown (hts _ hlk) (hts _ hin) (hts _ hini) rfl hd hu.1 hu.2 hKn.2.1 hsz (fun H1 kC hkC e1 z1 o1 => ?_)
  have hat : va_at D vwCl (base + h.1, sm_ce base sa cy (sm_new h c 0) h.1) H1 := by
    rw [sm_new_at hc]
    exact ⟨_, sm_cl hc, (u_born (sm_ty c) hts (sm_lay hc) hKn hkC e1 (sm_tyok hc)).to (fun j hj => sm_new_V hc hj)⟩
  have hP1 := sm_new_P hWd.2 hsz o1 hat
  have hS1 : va_S (sm_A base) s.heap H1 locs := ⟨by rw [z1, ← hsz]; exact Nat.le_succ_of_le hS.1, fun q h1 h2 => (o1 q (by have := hS.1; omega)).trans (hS.2.1 q h1 h2), hS.2.2⟩
  have hz1 : s.heap.size + (uc + 1) = base + (h.1 + 1) := by omega
  have hw1 : h.1 + 1 ≤ 1000000 := hn
  have fin := kk base sa cy D p e s m args below meth cd H1 locs ls C0 hPP ⟨hw1, hP1⟩ hz1 hS1 hL
  rw [List.map_cons, sm_mvn hn] at fin
  exact fin
theorem LW.callI {M' : MI} {idx o d' n : Nat} {As rest : List Value} {r' : SH} (hC : Cl l d' M' (.ref o :: As) h (none, r')) (hdd : d' ≤ 1000) (hm : sm_mi M' n) (hret' : M'.2.2.2.1 = none) (hini : M'.1.name = "<init>") (hi : Cond.instanceMethod M'.1 ∈ sm_Tg) (hlk : Cond.methodLink (sm_RC mi_law.2.2.2.2.1) idx M'.1 ∈ sm_Tg)
    (ho : o < h.1) (hn : As.length = n) (hr1 : r'.1 = h.1 + M'.2.2.2.2.2.1) (hst : st = As.reverse ++ .ref o :: rest) (hcat : (rest.map fun v => v.category).sum ≤ 8) (hu : uc + M'.2.2.2.2.2.1 ≤ mi_law.2.2.2.2.2.1 ∧ us + M'.2.2.2.2.2.2 ≤ mi_law.2.2.2.2.2.2)
    (hd : decode mi_law.2.1 pc = .ok (.invokespecial idx, 3)) (kk : LW l b L xs (pc + 3) lv rest r' (uc + M'.2.2.2.2.2.1) (us + M'.2.2.2.2.2.2)) : LW l b L xs pc lv st h uc us := by
  subst hst
  intro base sa cy D p e s m args below meth cd H locs ls C hPP hWd hz hS hL
  have C0 := C
  obtain ⟨hx, hb, hml, hret, hlocks, hts, hown, hnm, hbs, hK, hSx⟩ := C
  obtain ⟨m1, m2, m3, m4, m5⟩ := hm
  have hret' : M'.2.2.2.1 = none := hret'
  intro T hT X
  have hsz := sm_size X hT hWd.2 hbs hS hz
  have hcb : CallB room_1 s args (sm_RC mi_law.2.2.2.2.1) idx M'.1 M'.2.1 M'.2.2.1 none (sm_code M' :: sm_Tg) (sm_rm d' M') M'.2.2.2.2.2.1 M'.2.2.2.2.2.2 n := by
    rw [← hret']
    refine callB_of (Ts := sm_Tg) n hts (sm_good M' m1) rfl rfl rfl (hts _ m2) (hts _ hlk) m4 ⟨by show d' + 1 ≤ 2048; omega, ?_⟩
    show 8 + (M'.2.2.1 + 11) + 64 * d' ≤ 84000
    omega
  have hrun : va_Run p l e room_1 s m args below meth cd H locs uc us M'.2.2.2.2.2.1 M'.2.2.2.2.2.2 (F0 m pc ls ((As.reverse ++ Value.ref o :: rest).map (sm_mv base sa))) (rest.map (sm_mv base sa)) (sm_Q base sa cy D (none, r') ((Value.ref (base + o)) :: As.map (sm_mv base sa)).toArray) (sm_A base) := by
    refine va_runI (cc := mi_law.2.1) (nL := mi_law.2.2.1) (Ts := sm_Tg) (own := sm_RC mi_law.2.2.2.2.1) (index := idx) (n := n) (bytes := M'.2.1) (maxL := M'.2.2.1) ⟨hx, hb, hml, hown, hts⟩ (hC base sa cy D) ⟨hcb, hini, hts _ hi⟩ ⟨sm_blind base sa cy D h _, fun U hU hW => ⟨?_, sm_pre hU hW hsz hWd hS hK hSx⟩⟩ rfl (by rw [List.length_map]; exact hn) hL.2.1 ?_ ?_ hd hu
    · rw [List.map_cons, sm_mvr hWd.1 ho]
    · show (As.reverse ++ Value.ref o :: rest).map (sm_mv base sa) = (As.map (sm_mv base sa)).reverse ++ Value.ref (base + o) :: rest.map (sm_mv base sa)
      rw [List.map_append, List.map_reverse, List.map_cons, sm_mvr hWd.1 ho]
    · refine lv_room ?_
      rw [sm_cats]
      exact hcat
  refine sm_call hrun hS (fun H1 locs1 hWd1 hS1 => ?_) T hT X
  exact kk base sa cy D p e s m args below meth cd H1 locs1 ls C0 hPP hWd1 (by show s.heap.size + (uc + M'.2.2.2.2.2.1) = base + r'.1; omega) hS1 hL
end LRULES
theorem LW.op {l : Launch} {b L : Nat} {xs : Nat → Int32} {pc : Nat} {lv : LV} {st : List Value} {h : SH} {uc us : Nat} {Q : LV → List Value → SH → Prop} {o : Op} (hd : decode mi_law.2.1 pc = .ok (o.1, sm_len o.1)) (hl : sm_lo mi_law o) (hs : sm_sx o lv st h Q) (kk : ∀ lv' st' h', Q lv' st' h' → LW l b L xs (pc + sm_len o.1) lv' st' h' uc us) : LW l b L xs pc lv st h uc us := by
  obtain ⟨i, z, c, k⟩ := o
  cases i with
  | iconst n => exact LW.iconst hd hs kk
  | lconst n => exact LW.lconst hd hs kk
  | iadd => exact LW.iadd hd hs kk
  | isub => exact LW.isub hd hs kk
  | imul => exact LW.imul hd hs kk
  | iand => exact LW.iand hd hs kk
  | ior => exact LW.ior hd hs kk
  | ixor => exact LW.ixor hd hs kk
  | ishl => exact LW.ishl hd hs kk
  | ishr => exact LW.ishr hd hs kk
  | iushr => exact LW.iushr hd hs kk
  | ladd => exact LW.ladd hd hs kk
  | lsub => exact LW.lsub hd hs kk
  | lmul => exact LW.lmul hd hs kk
  | land => exact LW.land hd hs kk
  | idiv => exact LW.idiv hd hs kk
  | irem => exact LW.irem hd hs kk
  | ldiv => exact LW.ldiv hd hs kk
  | lrem => exact LW.lrem hd hs kk
  | ineg => exact LW.ineg hd hs kk
  | i2l => exact LW.i2l hd hs kk
  | l2i => exact LW.l2i hd hs kk
  | i2b => exact LW.i2b hd hs kk
  | i2c => exact LW.i2c hd hs kk
  | lcmp => exact LW.lcmp hd hs kk
  | dup => exact LW.dup hd hs kk
  | pop => exact LW.pop hd hs kk
  | dup2 => exact LW.dup2 hd hs kk
  | laload => exact LW.laload hd hs kk
  | iastore => exact LW.iastore hd hs kk
  | bastore => exact LW.bastore hd hs kk
  | castore => exact LW.castore hd hs kk
  | lastore => exact LW.lastore hd hs kk
  | arraylength => exact LW.arraylength hd hs kk
  | bipush n => exact LW.bipush hd hs kk
  | sipush n => exact LW.sipush hd hs kk
  | iload_n n => exact LW.iload_n hd hs kk
  | iload i => exact LW.iload hd hs kk
  | istore_n n => exact LW.istore_n hd hs kk
  | istore i => exact LW.istore hd hs kk
  | lload_n n => exact LW.lload_n hd hs kk
  | lload i => exact LW.lload hd hs kk
  | lstore_n n => exact LW.lstore_n hd hs kk
  | lstore i => exact LW.lstore hd hs kk
  | aload_n n => exact LW.aload_n hd hs kk
  | aload i => exact LW.aload hd hs kk
  | astore_n n => exact LW.astore_n hd hs kk
  | astore i => exact LW.astore hd hs kk
  | iinc i n => exact LW.iinc hd hs kk
  | ldc idx => exact LW.ldc hl hd hs kk
  | ldc_w idx => exact LW.ldc_w hl hd hs kk
  | ldc2_w idx => exact LW.ldc2_w hl hd hs kk
  | getfield idx => exact LW.getfield hl hd hs kk
  | putfield idx => exact LW.putfield hl.1 hl.2 hd hs kk
  | getstatic idx => exact LW.getstatic hl hd hs kk
  | iaload => exact LW.iaload hd hs kk
  | baload => exact LW.baload hd hs kk
  | caload => exact LW.caload hd hs kk
  | _ => exact False.elim hs
theorem LW.blk {l : Launch} {b L : Nat} {xs : Nat → Int32} {uc us : Nat} {pc' : Nat} : ∀ (ops : List Op) {pc : Nat} {lv : LV} {st : List Value} {h : SH}, sm_dk mi_law.2.1 pc ops = true → sm_lk mi_law ops → sm_end pc ops = pc' → sm_xb ops lv st h (fun lv st h => LW l b L xs pc' lv st h uc us) → LW l b L xs pc lv st h uc us := by
  intro ops
  induction ops with
  | nil =>
    intro pc lv st h _ _ he hx
    subst he
    exact hx
  | cons o r ih =>
    intro pc lv st h hd hl he hx
    simp only [sm_dk, Bool.and_eq_true, decide_eq_true_eq] at hd
    obtain ⟨h1, h2⟩ := sm_lk_split hl
    exact LW.op hd.1 h1 hx (fun lv' st' h' q => ih hd.2 h2 he q)
section LOWN
variable {l : Launch} {b L : Nat} {xs : Nat → Int32} {pc : Nat} {lv : LV} {st : List Value} {h : SH} {uc us : Nat}
theorem LW.scrLen (hd : decode code pc = .ok (.arraylength, 1)) (kk : LW l b L xs (pc + 1) lv (.int (Int32.ofNat L) :: st) h uc us) : LW l b L xs pc lv (.ref 1000007 :: st) h uc us := by
  intro base sa cy D p e s m args below meth cd H locs ls C hPP hWd hz hS hL
  have C0 := C
  obtain ⟨hx, hb, hml, hret, hlocks, hts, hown, hnm, hbs, hK, hSx⟩ := C
  have fin := kk base sa cy D p e s m args below meth cd H locs ls C0 hPP hWd hz hS hL
  obtain ⟨rfl, rfl, h7, hX, hbl⟩ := hPP
  rw [List.map_cons] at fin
  rw [List.map_cons, sm_mv7, h7]
  exact va_slen hx hb hX hbl (Nat.not_le.mpr hbl) hS hd fin
theorem LW.scrLd {i : Int32} (hi : vp_in i L) (hd : decode code pc = .ok (.iaload, 1)) (kk : LW l b L xs (pc + 1) lv (.int (xs i.toNatClampNeg) :: st) h uc us) : LW l b L xs pc lv (.int i :: .ref 1000007 :: st) h uc us := by
  intro base sa cy D p e s m args below meth cd H locs ls C hPP hWd hz hS hL
  have C0 := C
  obtain ⟨hx, hb, hml, hret, hlocks, hts, hown, hnm, hbs, hK, hSx⟩ := C
  have fin := kk base sa cy D p e s m args below meth cd H locs ls C0 hPP hWd hz hS hL
  obtain ⟨rfl, rfl, h7, hX, hbl⟩ := hPP
  rw [List.map_cons] at fin
  rw [List.map_cons, List.map_cons, sm_mv7, h7]
  exact va_sld hx hb hX hbl (Nat.not_le.mpr hbl) hS hi hd fin
theorem LW.ret1 (hd : decode code pc = .ok (.ireturn, 1)) (h1 : uc ≤ 600000) (h2 : us ≤ 7302250) : LW l b L xs pc lv [.int 1] h uc us := by
  intro base sa cy D p e s m args below meth cd H locs ls C hPP hWd hz hS hL
  obtain ⟨hx, hb, hml, hret, hlocks, hts, hown, hnm, hbs, hK, hSx⟩ := C
  obtain ⟨rfl, rfl, h7, hX, hbl⟩ := hPP
  refine va_forget (fun q hq => hS.2.2 q hq) ?_
  refine W.widen (k := 600000) (n := 7302250) h1 h2 ?_
  exact lw_ret hx hb hret hlocks hd
end LOWN
