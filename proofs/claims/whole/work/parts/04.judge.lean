/-! THE JUDGEMENT Ev over the small machine, and calls -/
def sm_Tg : List Cond := lw_tbl.filter goodWord
def sm_isNest (w : Cond) : Bool := match w with
  | .fieldLinkNest .. => true
  | .methodLinkNest .. => true
  | _ => false
def sm_nest : List Cond := lw_tbl.filter sm_isNest
theorem sm_Tg_good {w : Cond} (h : w ∈ sm_Tg) : goodWord w = true := (List.mem_filter.mp h).2
def sm_snm (j : Nat) : String := match j with
  | 0 => "TO_COLUMN"
  | 1 => "TO_ROW"
  | 2 => "FIRST_WAY"
  | _ => "BEHIND_WAY"
def sm_sv (j : Nat) : List Int32 := match j with
  | 0 => [1, -1, 0, 0, 1, 1, -1, -1, 1, 1, -1, -1, 2, 2, -2, -2]
  | 1 => [0, 0, 1, -1, 1, -1, 1, -1, 2, -2, 2, -2, 1, -1, 1, -1]
  | 2 => [0, 0, 4, 0, 8]
  | _ => [0, 4, 8, 8, 16]
def sm_words : String := "board by white black kind ways reach worth crown man is of at field bears harm grows sleepy taken check off day number column row side moves or and not all min max first last often total most least "
def sm_wb : List Int32 := sm_words.toList.map (fun c => Int32.ofNat c.toNat)
/-- the script of the law, outside the cells too: at sa 7, of sa 8 ints, which are sa 10 and on -/
def sm_Scr (base : Nat) (sa : Nat → Nat) (U : State) (H : Heap) : Prop := va_X (sa 7) (sa 8) (fun i => Int32.ofNat (sa (10 + i))) U H ∧ sa 7 < base ∧ sa 7 < H.size
/-- what stands outside the numbered cells: the four rows of constants, the text of words, the nest's words -/
def sm_Sx (base : Nat) (sa : Nat → Nat) (U : State) (H : Heap) : Prop :=
  (∀ j, j < 4 → va_Z RX9 (sm_snm j) "[I" (.ref (sa j)) (sm_A base) U H ∧ va_T .int (sa j) (sm_sv j).length (fun i => .int ((sm_sv j).getD i 0)) (sm_A base) U H) ∧
  vk_R RX5 61 sm_words (sa 4) U ∧ vk_S 1 [sm_wb.length] [sm_wb] (fun _ => sa 4) (fun _ => sa 5) (sm_A base) U H ∧ (va_Z RJ0 "COMPACT_STRINGS" "Z" (.int 1) (sm_A base) U H ∧ (va_Z RJ3 "SIOOBE_FORMATTER" "Ljava/util/function/BiFunction;" .null (sm_A base) U H ∨ va_Z RJ3 "SIOOBE_FORMATTER" "Ljava/util/function/BiFunction;" (.ref (sa 6)) (sm_A base) U H) ∧ sm_Scr base sa U H) ∧ (∀ w ∈ sm_nest, va_Nw w U)
theorem sm_nest_warm {s U : State} (hW : s.WarmedH U.vm) (h : ∀ w ∈ sm_nest, va_Nw w s) : ∀ w ∈ sm_nest, va_Nw w U := by
  intro w hw
  have h1 := h w hw
  have h2 := (List.mem_filter.mp hw).2
  unfold sm_isNest at h2
  split at h2
  · exact va_Nw.warmF hW h1
  · exact va_Nw.warmM hW h1
  · cases h2
theorem sm_Sx.warm {base : Nat} {sa : Nat → Nat} {s U : State} {H H1 : Heap} (hW : s.WarmedH U.vm) (h : sm_Sx base sa s H) (hq : ∀ a : Nat, a < H.size → ¬ sm_A base a → H1[a]? = H[a]?) : sm_Sx base sa U H1 := by
  obtain ⟨h1, h2, h3, h4, h5⟩ := h
  exact ⟨fun j hj => ⟨((h1 j hj).1.kept hq).moved hW.alike, ((h1 j hj).2.kept hq).moved hW.alike⟩, h2.warm hW, (h3.kept hq).moved hW.alike, ⟨(h4.1.kept hq).moved hW.alike, h4.2.1.elim (fun z => Or.inl ((z.kept hq).moved hW.alike)) (fun z => Or.inr ((z.kept hq).moved hW.alike)), (h4.2.2.1.kept (hq _ h4.2.2.2.2 (Nat.not_le.mpr h4.2.2.2.1))).moved hW.alike, h4.2.2.2.1, (Array.getElem?_eq_some_iff.mp ((hq _ h4.2.2.2.2 (Nat.not_le.mpr h4.2.2.2.1)).trans (Array.getElem?_eq_getElem h4.2.2.2.2))).1⟩, sm_nest_warm hW h5⟩
theorem sm_Sx.same {base : Nat} {sa : Nat → Nat} {s U : State} {H : Heap} (hv : U.vm = s.vm) (h : sm_Sx base sa s H) : sm_Sx base sa U H := by
  obtain ⟨h1, h2, h3, h4, h5⟩ := h
  have ha : s.vm.Alike U.vm := by rw [hv]; exact Vm.Alike.refl s.vm
  refine ⟨fun j hj => ⟨(h1 j hj).1.moved ha, (h1 j hj).2.moved ha⟩, h2.same hv, h3.moved ha, ⟨h4.1.moved ha, h4.2.1.elim (fun z => Or.inl (z.moved ha)) (fun z => Or.inr (z.moved ha)), h4.2.2.1.moved ha, h4.2.2.2⟩, fun w hw => ?_⟩
  have h6 := (List.mem_filter.mp hw).2
  refine va_Nw.same ?_ hv.symm (h5 w hw)
  unfold sm_isNest at h6
  split at h6
  · rfl
  · rfl
  · cases h6
abbrev sm_rm (d : Nat) (M : MI) : Room := { frames := d, cells := M.2.2.2.2.2.1, slots := M.2.2.2.2.2.2, locals := 64 * d }
abbrev sm_code (M : MI) : Cond := .code M.1 M.2.1 M.2.2.1 M.2.2.2.1
/-- the context of a body -/
def sm_Cx (M : MI) (base : Nat) (sa : Nat → Nat) (cy : Nat → ClassId) (D : va_G) (p : Program) (s : State) (m : MethodId) (args : Array Value) (meth : Method) (c : Code) : Prop :=
  p.tables.exec = Jvm.exec ∧ c.code = M.2.1 ∧ c.maxLocals = M.2.2.1 ∧ meth.sig.returnType = M.2.2.2.1 ∧ meth.locks = false ∧ (∀ w ∈ sm_Tg, w.before args s = true) ∧ s.vm.findClass (sm_RC M.2.2.2.2.1) = some m.cls ∧ meth.name = M.1.name ∧ base ≤ s.heap.size ∧ va_K D vwCl (sm_tys cy) s ∧ sm_Sx base sa s s.heap
/-- a body's end -/
def sm_Q (base : Nat) (sa : Nat → Nat) (cy : Nat → ClassId) (D : va_G) (r : Option Value × SH) : Array Value → State → Outcome → State → Prop := fun _ st oc t => oc = .returned (r.1.map (sm_mv base sa)) ∧ sm_Wd base sa cy D r.2 t.heap ∧ va_F (sm_A base) st t
/-- from this place of the method's body, with these locals, stack and cells, it comes to its end with r -/
def Ev (l : Launch) (d : Nat) (M : MI) (pc : Nat) (lv : LV) (st : List Value) (h : SH) (uc us : Nat) (r : Option Value × SH) : Prop :=
  ∀ (base : Nat) (sa : Nat → Nat) (cy : Nat → ClassId) (D : va_G) (p : Program) (e : Env) (s : State) (m : MethodId) (args : Array Value) (below : List Frame) (meth : Method) (c : Code) (H : Heap) (locs : List Loc) (ls : Array Slot),
    sm_Cx M base sa cy D p s m args meth c → sm_Wd base sa cy D h H → s.heap.size + uc = base + h.1 → va_S (sm_A base) s.heap H locs → sm_Lh base sa ls M.2.2.1 lv →
    W p l e (sm_rm d M) s m args below meth c H locs uc us (MQ below (sm_Q base sa cy D r) args s M.2.2.2.2.2.1 M.2.2.2.2.2.2 (sm_A base)) (F0 m pc ls (st.map (sm_mv base sa)))
def sm_P (base : Nat) (sa : Nat → Nat) (cy : Nat → ClassId) (D : va_G) (h : SH) (U : State) : Prop := U.heap.size = base + h.1 ∧ sm_Wd base sa cy D h U.heap ∧ va_K D vwCl (sm_tys cy) U ∧ sm_Sx base sa U U.heap
/-- a call of the method, d frames deep at most, with these arguments and cells, answers r -/
def Cl (l : Launch) (d : Nat) (M : MI) (av : List Value) (h : SH) (r : Option Value × SH) : Prop :=
  ∀ (base : Nat) (sa : Nat → Nat) (cy : Nat → ClassId) (D : va_G),
    Met l M.1 (sm_code M :: sm_Tg) (sm_rm d M) (va_Pc (av.map (sm_mv base sa)) (sm_P base sa cy D h)) (sm_Q base sa cy D r) M.2.2.2.2.2.1 M.2.2.2.2.2.2 (sm_A base)
/-- the locals at the entry -/
def sm_lv : Nat → List Value → LV
  | n, [] => List.replicate n none
  | n, v :: vs => match v with
    | .long _ => some v :: none :: sm_lv (n - 2) vs
    | .double _ => some v :: none :: sm_lv (n - 2) vs
    | _ => some v :: sm_lv (n - 1) vs
theorem sm_blind (base : Nat) (sa : Nat → Nat) (cy : Nat → ClassId) (D : va_G) (h : SH) (av : List Value) : FrameBlind (va_Pc av (sm_P base sa cy D h)) := by
  intro a U g mk q
  obtain ⟨q0, q1, q2, q3, q4⟩ := q
  exact ⟨q0, q1, q2, va_K.moved (u := U) (U := U.calling g mk a) (Vm.Alike.refl U.vm) q3, sm_Sx.same (s := U) rfl q4⟩
