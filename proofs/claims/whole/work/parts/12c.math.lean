/-! Math: a call of its members as one instruction -/
section MATH
variable {l : Launch} {d : Nat} {M : MI} {pc : Nat} {lv : LV} {h : SH} {uc us : Nat} {rr : Option Value × SH} {r : List Value}
theorem Ev.mmax {idx : Nat} {x y : Int32} (hlk : Cond.methodLink (sm_RC M.2.2.2.2.1) idx Lib.Math.max.name ∈ sm_Tg) (w1 : Cond.static Lib.Math.max.name ∈ sm_Tg) (w2 : Cond.initialized "java/lang/Math" ∈ sm_Tg) (w3 : Cond.code Lib.Math.max.name Lib.Math.max.code 2 (some .int) ∈ sm_Tg) (hdd : 1 ≤ d) (hcat : (r.map fun v => v.category).sum ≤ 8) (hu : uc ≤ M.2.2.2.2.2.1 ∧ us ≤ M.2.2.2.2.2.2)
    (hd : decode M.2.1 pc = .ok (.invokestatic idx, 3)) (kk : Ev l d M (pc + 3) lv (.int (if x < y then y else x) :: r) h uc us rr) : Ev l d M pc lv (.int y :: .int x :: r) h uc us rr := by
  intro base sa cy D p e s m args below meth cd H locs ls C hWd hz hS hL
  have C0 := C
  obtain ⟨hx, hb, hml, hret, hlocks, hts, hown, hnm, hbs, hK, hSx⟩ := C
  refine va_mmax hx hb (by rw [hml]; exact hL.2.1.symm) hown (hts _ hlk) (hts _ w1) (hts _ w2) (hts _ w3) ?_ ?_ hu.1 hu.2 hd (kk base sa cy D p e s m args below meth cd H locs ls C0 hWd hz hS hL)
  · exact hdd
  · rw [sm_cats]
    show _ ≤ 64 * d
    omega
theorem Ev.mmin {idx : Nat} {x y : Int32} (hlk : Cond.methodLink (sm_RC M.2.2.2.2.1) idx Lib.Math.min.name ∈ sm_Tg) (w1 : Cond.static Lib.Math.min.name ∈ sm_Tg) (w2 : Cond.initialized "java/lang/Math" ∈ sm_Tg) (w3 : Cond.code Lib.Math.min.name Lib.Math.min.code 2 (some .int) ∈ sm_Tg) (hdd : 1 ≤ d) (hcat : (r.map fun v => v.category).sum ≤ 8) (hu : uc ≤ M.2.2.2.2.2.1 ∧ us ≤ M.2.2.2.2.2.2)
    (hd : decode M.2.1 pc = .ok (.invokestatic idx, 3)) (kk : Ev l d M (pc + 3) lv (.int (if y < x then y else x) :: r) h uc us rr) : Ev l d M pc lv (.int y :: .int x :: r) h uc us rr := by
  intro base sa cy D p e s m args below meth cd H locs ls C hWd hz hS hL
  have C0 := C
  obtain ⟨hx, hb, hml, hret, hlocks, hts, hown, hnm, hbs, hK, hSx⟩ := C
  refine va_mmin hx hb (by rw [hml]; exact hL.2.1.symm) hown (hts _ hlk) (hts _ w1) (hts _ w2) (hts _ w3) ?_ ?_ hu.1 hu.2 hd (kk base sa cy D p e s m args below meth cd H locs ls C0 hWd hz hS hL)
  · exact hdd
  · rw [sm_cats]
    show _ ≤ 64 * d
    omega
theorem Ev.mabs {idx : Nat} {x : Int32} (hlk : Cond.methodLink (sm_RC M.2.2.2.2.1) idx Lib.Math.abs.name ∈ sm_Tg) (w1 : Cond.static Lib.Math.abs.name ∈ sm_Tg) (w2 : Cond.initialized "java/lang/Math" ∈ sm_Tg) (w3 : Cond.code Lib.Math.abs.name Lib.Math.abs.code 1 (some .int) ∈ sm_Tg) (hdd : 1 ≤ d) (hcat : (r.map fun v => v.category).sum ≤ 8) (hu : uc ≤ M.2.2.2.2.2.1 ∧ us ≤ M.2.2.2.2.2.2)
    (hd : decode M.2.1 pc = .ok (.invokestatic idx, 3)) (kk : Ev l d M (pc + 3) lv (.int (if 0 ≤ x then x else 0 - x) :: r) h uc us rr) : Ev l d M pc lv (.int x :: r) h uc us rr := by
  intro base sa cy D p e s m args below meth cd H locs ls C hWd hz hS hL
  have C0 := C
  obtain ⟨hx, hb, hml, hret, hlocks, hts, hown, hnm, hbs, hK, hSx⟩ := C
  refine va_mabs hx hb (by rw [hml]; exact hL.2.1.symm) hown (hts _ hlk) (hts _ w1) (hts _ w2) (hts _ w3) ?_ ?_ hu.1 hu.2 hd (kk base sa cy D p e s m args below meth cd H locs ls C0 hWd hz hS hL)
  · exact hdd
  · rw [sm_cats]
    show _ ≤ 64 * d
    omega
theorem Ev.mmaxl {idx : Nat} {x y : Int64} (hlk : Cond.methodLink (sm_RC M.2.2.2.2.1) idx Lib.MathLoose.max_long.x ∈ sm_Tg) (w1 : Cond.static Lib.MathLoose.max_long.x ∈ sm_Tg) (w2 : Cond.initialized "java/lang/Math" ∈ sm_Tg) (w3 : Cond.code Lib.MathLoose.max_long.x Lib.MathLoose.max_long.code 4 (some .long) ∈ sm_Tg) (hdd : 1 ≤ d) (hcat : (r.map fun v => v.category).sum ≤ 8) (hu : uc ≤ M.2.2.2.2.2.1 ∧ us ≤ M.2.2.2.2.2.2)
    (hd : decode M.2.1 pc = .ok (.invokestatic idx, 3)) (kk : Ev l d M (pc + 3) lv (.long (if y < x then x else y) :: r) h uc us rr) : Ev l d M pc lv (.long y :: .long x :: r) h uc us rr := by
  intro base sa cy D p e s m args below meth cd H locs ls C hWd hz hS hL
  have C0 := C
  obtain ⟨hx, hb, hml, hret, hlocks, hts, hown, hnm, hbs, hK, hSx⟩ := C
  refine va_mmax_long hx hb (by rw [hml]; exact hL.2.1.symm) hown (hts _ hlk) (hts _ w1) (hts _ w2) (hts _ w3) ?_ ?_ hu.1 hu.2 hd (kk base sa cy D p e s m args below meth cd H locs ls C0 hWd hz hS hL)
  · exact hdd
  · rw [sm_cats]
    show _ ≤ 64 * d
    omega
theorem Ev.mminl {idx : Nat} {x y : Int64} (hlk : Cond.methodLink (sm_RC M.2.2.2.2.1) idx Lib.MathLoose.min_long.x ∈ sm_Tg) (w1 : Cond.static Lib.MathLoose.min_long.x ∈ sm_Tg) (w2 : Cond.initialized "java/lang/Math" ∈ sm_Tg) (w3 : Cond.code Lib.MathLoose.min_long.x Lib.MathLoose.min_long.code 4 (some .long) ∈ sm_Tg) (hdd : 1 ≤ d) (hcat : (r.map fun v => v.category).sum ≤ 8) (hu : uc ≤ M.2.2.2.2.2.1 ∧ us ≤ M.2.2.2.2.2.2)
    (hd : decode M.2.1 pc = .ok (.invokestatic idx, 3)) (kk : Ev l d M (pc + 3) lv (.long (if y < x then y else x) :: r) h uc us rr) : Ev l d M pc lv (.long y :: .long x :: r) h uc us rr := by
  intro base sa cy D p e s m args below meth cd H locs ls C hWd hz hS hL
  have C0 := C
  obtain ⟨hx, hb, hml, hret, hlocks, hts, hown, hnm, hbs, hK, hSx⟩ := C
  refine va_mmin_long hx hb (by rw [hml]; exact hL.2.1.symm) hown (hts _ hlk) (hts _ w1) (hts _ w2) (hts _ w3) ?_ ?_ hu.1 hu.2 hd (kk base sa cy D p e s m args below meth cd H locs ls C0 hWd hz hS hL)
  · exact hdd
  · rw [sm_cats]
    show _ ≤ 64 * d
    omega
def sm_fdiv (x y : Int32) : Int32 := if 0 ≤ x ^^^ y then x / y else if x / y * y = x then x / y else x / y - 1
/-- OPEN: Math.floorDiv (its own walk is wanting) -/
theorem Ev.fdiv_open {idx : Nat} {x y : Int32} (hlk : Cond.methodLink (sm_RC M.2.2.2.2.1) idx yJ9_floorDiv_7cf53 ∈ sm_Tg) (hy : ¬ y = 0) (hdd : 1 ≤ d) (hcat : (r.map fun v => v.category).sum ≤ 8) (hu : uc ≤ M.2.2.2.2.2.1 ∧ us ≤ M.2.2.2.2.2.2)
    (hd : decode M.2.1 pc = .ok (.invokestatic idx, 3)) (kk : Ev l d M (pc + 3) lv (.int (sm_fdiv x y) :: r) h uc us rr) : Ev l d M pc lv (.int y :: .int x :: r) h uc us rr := by
  sorry
end MATH
