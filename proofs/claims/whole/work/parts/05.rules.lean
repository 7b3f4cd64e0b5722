/-! RULES of Ev: entry, returns, branches, plain instructions -/
theorem sm_lv_sl (base : Nat) (sa : Nat → Nat) : ∀ (vs : List Value) (n : Nat), (lg_sl (vs.map (sm_mv base sa))).length ≤ (sm_lv n vs).length := by
  intro vs
  induction vs with
  | nil => intro n; simp [lg_sl]
  | cons v vs ih =>
    intro n
    have h1 := ih (n - 1)
    have h2 := ih (n - 2)
    have e : (lg_sl ((v :: vs).map (sm_mv base sa))).length = (if v.category = 2 then 2 else 1) + (lg_sl (vs.map (sm_mv base sa))).length := by
      show ((if (sm_mv base sa v).category = 2 then [Slot.val (sm_mv base sa v), Slot.second] else [Slot.val (sm_mv base sa v)]) ++ lg_sl (vs.map (sm_mv base sa))).length = _
      rw [List.length_append, sm_cat]
      split <;> rfl
    rw [e]
    cases v <;> simp only [sm_lv, Value.category, List.length_cons] <;> simp <;> omega
theorem sm_lv_mem (base : Nat) (sa : Nat → Nat) : ∀ (vs : List Value) (n k i : Nat) (v : Value), (sm_lv n vs)[i]? = some (some v) → (k + i, sm_mv base sa v) ∈ lv_args k (vs.map (sm_mv base sa)) := by
  intro vs
  induction vs with
  | nil =>
    intro n k i v h
    simp [sm_lv, List.getElem?_replicate] at h
  | cons w vs ih =>
    intro n k i v h
    have one : ∀ (m : Nat), w.category = 1 → (some w :: sm_lv m vs)[i]? = some (some v) → (k + i, sm_mv base sa v) ∈ lv_args k ((w :: vs).map (sm_mv base sa)) := by
      intro m hc h
      rw [List.map_cons, lv_args, sm_cat, if_neg (by omega)]
      cases i with
      | zero =>
        simp at h
        subst h
        exact List.mem_cons_self
      | succ i =>
        rw [List.getElem?_cons_succ] at h
        have := ih m (k + 1) i v h
        refine List.mem_cons_of_mem _ ?_
        rw [show k + (i + 1) = k + 1 + i by omega]
        exact this
    have two : ∀ (m : Nat), w.category = 2 → (some w :: none :: sm_lv m vs)[i]? = some (some v) → (k + i, sm_mv base sa v) ∈ lv_args k ((w :: vs).map (sm_mv base sa)) := by
      intro m hc h
      rw [List.map_cons, lv_args, sm_cat, if_pos hc]
      match i, h with
      | 0, h =>
        simp at h
        subst h
        exact List.mem_cons_self
      | 1, h => simp at h
      | i + 2, h =>
        rw [List.getElem?_cons_succ, List.getElem?_cons_succ] at h
        have := ih m (k + 2) i v h
        refine List.mem_cons_of_mem _ ?_
        rw [show k + (i + 2) = k + 2 + i by omega]
        exact this
    cases w <;> simp only [sm_lv] at h <;> first | exact one _ rfl h | exact two _ rfl h
theorem Ev.entry {l : Launch} {d : Nat} {M : MI} {av : List Value} {h : SH} {r : Option Value × SH} (hy : plainName M.1.cls = true) (hc : M.1.cls = sm_RC M.2.2.2.2.1) (hl : (sm_lv M.2.2.1 av).length = M.2.2.1) (hE : Ev l d M 0 (sm_lv M.2.2.1 av) [] h 0 0 r) : Cl l d M av h r := by
  intro base sa cy D
  refine Met.ofW (cc := M.2.1) (maxL := M.2.2.1) (ret := M.2.2.2.1) hy rfl ?_
  intro p e s m args below meth c s₁ B hml hv
  obtain ⟨rfl, hsz, hWd, hK, hSx⟩ := hv
  rw [lg_entry_eq]
  have hts := atoms_spec (ws := sm_code M :: sm_Tg) B.pre
  have hown : s.vm.findClass M.1.cls = some m.cls := findClass_of_methodNamed B.named
  refine hE base sa cy D p e s m _ below meth c s.heap [] _ ⟨B.exec, B.bytes, hml, B.returns, B.notSynchronized, fun w hw => hts w (List.mem_cons_of_mem _ hw), by rw [← hc]; exact hown, (name_of_methodNamed B.named B.method).1, by omega, hK, hSx⟩ hWd (by omega) va_S.rf ?_
  have hfit := sm_lv_sl base sa av M.2.2.1
  rw [hl] at hfit
  have h1 := lv_entry (av.map (sm_mv base sa)) hfit
  refine ⟨hl, h1.1, h1.2.1, fun q hq => h1.2.2 q ?_⟩
  obtain ⟨v, hv, e⟩ := sm_kl_mem.mp hq
  have h2 := sm_lv_mem base sa av M.2.2.1 0 q.1 v hv
  rw [Nat.zero_add, ← e] at h2
  exact h2
section RET
variable {l : Launch} {d : Nat} {M : MI} {pc : Nat} {lv : LV} {h : SH} {uc us : Nat}
theorem Ev.vret (hr : M.2.2.2.1 = none) (hd : decode M.2.1 pc = .ok (.return_, 1)) (h1 : uc ≤ M.2.2.2.2.2.1) (h2 : us ≤ M.2.2.2.2.2.2) : Ev l d M pc lv [] h uc us (none, h) := by
  intro base sa cy D p e s m args below meth c H locs ls C hWd hz hS hL
  obtain ⟨hx, hb, hml, hret, hlocks, hts, hown, hnm, hbs, hK, hSx⟩ := C
  refine W.widen (k := M.2.2.2.2.2.1) (n := M.2.2.2.2.2.2) h1 h2 ?_
  exact W.vret hx hb (hret.trans hr) (fun t ht hW => ⟨rfl, by rw [ht]; exact hWd, hS.F ht⟩) hS.2.2 hd
theorem Ev.iret {x : Int32} (ty : FieldType) (hr : M.2.2.2.1 = some ty) (hn : narrow ty (.int x) = .int x) (hd : decode M.2.1 pc = .ok (.ireturn, 1)) (h1 : uc ≤ M.2.2.2.2.2.1) (h2 : us ≤ M.2.2.2.2.2.2) : Ev l d M pc lv [.int x] h uc us (some (.int x), h) := by
  intro base sa cy D p e s m args below meth c H locs ls C hWd hz hS hL
  obtain ⟨hx, hb, hml, hret, hlocks, hts, hown, hnm, hbs, hK, hSx⟩ := C
  refine W.widen (k := M.2.2.2.2.2.1) (n := M.2.2.2.2.2.2) h1 h2 ?_
  exact W.zret hx hb (hret.trans hr) hn (fun t ht hW => ⟨rfl, by rw [ht]; exact hWd, hS.F ht⟩) hS.2.2 hd
theorem Ev.lret {x : Int64} (hr : M.2.2.2.1 = some .long) (hd : decode M.2.1 pc = .ok (.lreturn, 1)) (h1 : uc ≤ M.2.2.2.2.2.1) (h2 : us ≤ M.2.2.2.2.2.2) : Ev l d M pc lv [.long x] h uc us (some (.long x), h) := by
  intro base sa cy D p e s m args below meth c H locs ls C hWd hz hS hL
  obtain ⟨hx, hb, hml, hret, hlocks, hts, hown, hnm, hbs, hK, hSx⟩ := C
  refine W.widen (k := M.2.2.2.2.2.1) (n := M.2.2.2.2.2.2) h1 h2 ?_
  exact W.lret hx hb (hret.trans hr) (fun t ht hW => ⟨rfl, by rw [ht]; exact hWd, hS.F ht⟩) hS.2.2 hd
end RET
