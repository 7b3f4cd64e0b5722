/-! Math: a call of its members as one instruction -/
section MATH
variable {l : Launch} {d : Nat} {M : MI} {pc : Nat} {lv : LV} {h : SH} {uc us : Nat} {rr : Option Value × SH} {r : List Value}
theorem Ev.mmax {idx : Nat} {x y : Int32} (hlk : Cond.methodLink (sm_RC M.2.2.2.2.1) idx Lib.Math.max.name ∈ sm_Tg) (w1 : Cond.static Lib.Math.max.name ∈ sm_Tg) (w2 : Cond.initialized "java/lang/Math" ∈ sm_Tg) (w3 : Cond.code Lib.Math.max.name Lib.Math.max.code 2 (some .int) ∈ sm_Tg) (hdd : 1 ≤ d) (hcat : (r.map fun v => v.category).sum ≤ 8) (hu : uc ≤ M.2.2.2.2.2.1 ∧ us ≤ M.2.2.2.2.2.2)
    (hd : decode M.2.1 pc = .ok (.invokestatic idx, 3)) (kk : Ev l d M (pc + 3) lv (.int (if x < y then y else x) :: r) h uc us rr) : Ev l d M pc lv (.int y :: .int x :: r) h uc us rr := by
  intro base sa cy D p e s m args below meth cd H locs ls C hWd hz hS hL
  have C0 := C
  obtain ⟨hx, hb, hml, hret, hlocks, hts, hown, hnm, hbs, hK, hSx⟩ := C
  refine va_mmax hx hb (by rw [hml]; exact hL.2.1.symm) hown (hts _ hlk) (hts _ w1) (hts _ w2) (hts _ w3) ?_ ?_ hu.1 hu.2 hd (kk base sa cy D p e s m args below meth cd H locs ls C0 hWd hz hS hL)
  · exact hdd
  · rw [sm_cats]
    show _ ≤ 64 * d
    omega
theorem Ev.mmin {idx : Nat} {x y : Int32} (hlk : Cond.methodLink (sm_RC M.2.2.2.2.1) idx Lib.Math.min.name ∈ sm_Tg) (w1 : Cond.static Lib.Math.min.name ∈ sm_Tg) (w2 : Cond.initialized "java/lang/Math" ∈ sm_Tg) (w3 : Cond.code Lib.Math.min.name Lib.Math.min.code 2 (some .int) ∈ sm_Tg) (hdd : 1 ≤ d) (hcat : (r.map fun v => v.category).sum ≤ 8) (hu : uc ≤ M.2.2.2.2.2.1 ∧ us ≤ M.2.2.2.2.2.2)
    (hd : decode M.2.1 pc = .ok (.invokestatic idx, 3)) (kk : Ev l d M (pc + 3) lv (.int (if y < x then y else x) :: r) h uc us rr) : Ev l d M pc lv (.int y :: .int x :: r) h uc us rr := by
  intro base sa cy D p e s m args below meth cd H locs ls C hWd hz hS hL
  have C0 := C
  obtain ⟨hx, hb, hml, hret, hlocks, hts, hown, hnm, hbs, hK, hSx⟩ := C
  refine va_mmin hx hb (by rw [hml]; exact hL.2.1.symm) hown (hts _ hlk) (hts _ w1) (hts _ w2) (hts _ w3) ?_ ?_ hu.1 hu.2 hd (kk base sa cy D p e s m args below meth cd H locs ls C0 hWd hz hS hL)
  · exact hdd
  · rw [sm_cats]
    show _ ≤ 64 * d
    omega
theorem Ev.mabs {idx : Nat} {x : Int32} (hlk : Cond.methodLink (sm_RC M.2.2.2.2.1) idx Lib.Math.abs.name ∈ sm_Tg) (w1 : Cond.static Lib.Math.abs.name ∈ sm_Tg) (w2 : Cond.initialized "java/lang/Math" ∈ sm_Tg) (w3 : Cond.code Lib.Math.abs.name Lib.Math.abs.code 1 (some .int) ∈ sm_Tg) (hdd : 1 ≤ d) (hcat : (r.map fun v => v.category).sum ≤ 8) (hu : uc ≤ M.2.2.2.2.2.1 ∧ us ≤ M.2.2.2.2.2.2)
    (hd : decode M.2.1 pc = .ok (.invokestatic idx, 3)) (kk : Ev l d M (pc + 3) lv (.int (if 0 ≤ x then x else 0 - x) :: r) h uc us rr) : Ev l d M pc lv (.int x :: r) h uc us rr := by
  intro base sa cy D p e s m args below meth cd H locs ls C hWd hz hS hL
  have C0 := C
  obtain ⟨hx, hb, hml, hret, hlocks, hts, hown, hnm, hbs, hK, hSx⟩ := C
  refine va_mabs hx hb (by rw [hml]; exact hL.2.1.symm) hown (hts _ hlk) (hts _ w1) (hts _ w2) (hts _ w3) ?_ ?_ hu.1 hu.2 hd (kk base sa cy D p e s m args below meth cd H locs ls C0 hWd hz hS hL)
  · exact hdd
  · rw [sm_cats]
    show _ ≤ 64 * d
    omega
theorem Ev.mmaxl {idx : Nat} {x y : Int64} (hlk : Cond.methodLink (sm_RC M.2.2.2.2.1) idx Lib.MathLoose.max_long.x ∈ sm_Tg) (w1 : Cond.static Lib.MathLoose.max_long.x ∈ sm_Tg) (w2 : Cond.initialized "java/lang/Math" ∈ sm_Tg) (w3 : Cond.code Lib.MathLoose.max_long.x Lib.MathLoose.max_long.code 4 (some .long) ∈ sm_Tg) (hdd : 1 ≤ d) (hcat : (r.map fun v => v.category).sum ≤ 8) (hu : uc ≤ M.2.2.2.2.2.1 ∧ us ≤ M.2.2.2.2.2.2)
    (hd : decode M.2.1 pc = .ok (.invokestatic idx, 3)) (kk : Ev l d M (pc + 3) lv (.long (if y < x then x else y) :: r) h uc us rr) : Ev l d M pc lv (.long y :: .long x :: r) h uc us rr := by
  intro base sa cy D p e s m args below meth cd H locs ls C hWd hz hS hL
  have C0 := C
  obtain ⟨hx, hb, hml, hret, hlocks, hts, hown, hnm, hbs, hK, hSx⟩ := C
  refine va_mmax_long hx hb (by rw [hml]; exact hL.2.1.symm) hown (hts _ hlk) (hts _ w1) (hts _ w2) (hts _ w3) ?_ ?_ hu.1 hu.2 hd (kk base sa cy D p e s m args below meth cd H locs ls C0 hWd hz hS hL)
  · exact hdd
  · rw [sm_cats]
    show _ ≤ 64 * d
    omega
theorem Ev.mminl {idx : Nat} {x y : Int64} (hlk : Cond.methodLink (sm_RC M.2.2.2.2.1) idx Lib.MathLoose.min_long.x ∈ sm_Tg) (w1 : Cond.static Lib.MathLoose.min_long.x ∈ sm_Tg) (w2 : Cond.initialized "java/lang/Math" ∈ sm_Tg) (w3 : Cond.code Lib.MathLoose.min_long.x Lib.MathLoose.min_long.code 4 (some .long) ∈ sm_Tg) (hdd : 1 ≤ d) (hcat : (r.map fun v => v.category).sum ≤ 8) (hu : uc ≤ M.2.2.2.2.2.1 ∧ us ≤ M.2.2.2.2.2.2)
    (hd : decode M.2.1 pc = .ok (.invokestatic idx, 3)) (kk : Ev l d M (pc + 3) lv (.long (if y < x then y else x) :: r) h uc us rr) : Ev l d M pc lv (.long y :: .long x :: r) h uc us rr := by
  intro base sa cy D p e s m args below meth cd H locs ls C hWd hz hS hL
  have C0 := C
  obtain ⟨hx, hb, hml, hret, hlocks, hts, hown, hnm, hbs, hK, hSx⟩ := C
  refine va_mmin_long hx hb (by rw [hml]; exact hL.2.1.symm) hown (hts _ hlk) (hts _ w1) (hts _ w2) (hts _ w3) ?_ ?_ hu.1 hu.2 hd (kk base sa cy D p e s m args below meth cd H locs ls C0 hWd hz hS hL)
  · exact hdd
  · rw [sm_cats]
    show _ ≤ 64 * d
    omega
/-- as Ev.entry, for a method of a class some of whose methods the machine runs otherwise, but not this one -/
theorem Ev.entryF {av : List Value} (hy : plainFor M.1 = true) (hc : M.1.cls = sm_RC M.2.2.2.2.1) (hl : (sm_lv M.2.2.1 av).length = M.2.2.1) (hE : Ev l d M 0 (sm_lv M.2.2.1 av) [] h 0 0 rr) : Cl l d M av h rr := by
  intro base sa cy D
  unfold Met
  refine MetFree.of_bodySF (code := M.2.1) (maxLocals := M.2.2.1) (ret := M.2.2.2.1) hy ?_ ?_
  · intro args s m hb hn
    obtain ⟨meth, c, h1, h2, h3, h4, h5, h6, -, -⟩ := Cond.code_spec hn (atoms_spec (ws := sm_code M :: sm_Tg) hb _ List.mem_cons_self)
    exact ⟨meth, c, h1, h2, h3, h4, h5, h6⟩
  · intro p e s m args below meth c s₁ B hml hP _
    have hh0 : s₁.heap = s.heap := by rw [B.state]; rfl
    obtain ⟨rfl, hsz, hWd, hK, hSx⟩ := hP
    have hts := atoms_spec (ws := sm_code M :: sm_Tg) B.pre
    have hown : s.vm.findClass M.1.cls = some m.cls := findClass_of_methodNamed B.named
    have hw := hE base sa cy D p e s m (av.map (sm_mv base sa)).toArray below meth c s.heap [] ((lg_sl (av.map (sm_mv base sa)) ++ List.replicate (M.2.2.1 - (lg_sl (av.map (sm_mv base sa))).length) Slot.unset).toArray) ⟨B.exec, B.bytes, hml, B.returns, B.notSynchronized, fun w hw => hts w (List.mem_cons_of_mem _ hw), by rw [← hc]; exact hown, (name_of_methodNamed B.named B.method).1, by omega, hK, hSx⟩ hWd (by omega) va_S.rf (by
      have hfit := sm_lv_sl base sa av M.2.2.1
      rw [hl] at hfit
      have h1 := lv_entry (av.map (sm_mv base sa)) hfit
      refine ⟨hl, h1.1, h1.2.1, fun q hq => h1.2.2 q ?_⟩
      obtain ⟨v, hv, e⟩ := sm_kl_mem.mp hq
      have h2 := sm_lv_mem base sa av M.2.2.1 0 q.1 v hv
      rw [Nat.zero_add, ← e] at h2
      exact h2)
    have hw : W p l e (headSpec (sm_code M :: sm_Tg) (sm_rm d M)).room s m (av.map (sm_mv base sa)).toArray below meth c s.heap [] 0 0 (MQ below (sm_Q base sa cy D rr) (av.map (sm_mv base sa)).toArray s M.2.2.2.2.2.1 M.2.2.2.2.2.2 (sm_A base)) (entryFrame m (av.map (sm_mv base sa)).toArray M.2.2.1) := by
      rw [lg_entry_eq]
      exact hw
    obtain ⟨t, a1, o, b1, b2, b3⟩ := hw s₁ hh0 (Stand.of_body B)
    exact ⟨t, o, a1, b1, b2, ⟨b3.1, b3.2⟩⟩
end MATH
