/-! THE TEXT OF WORDS: a constant outside the cells: 1000004, its bytes 1000005; a formatter 1000006 -/
theorem sm_mv4 {base : Nat} {sa : Nat → Nat} : sm_mv base sa (.ref 1000004) = .ref (sa 4) := rfl
theorem sm_mv5 {base : Nat} {sa : Nat → Nat} : sm_mv base sa (.ref 1000005) = .ref (sa 5) := rfl
theorem sm_mv6 {base : Nat} {sa : Nat → Nat} : sm_mv base sa (.ref 1000006) = .ref (sa 6) := rfl
theorem sm_txt {n : Nat} {b : List Int32} {adK adV : Nat → Nat} {A : Nat → Prop} {U : State} {H : Heap} (h : vk_S 1 [n] [b] adK adV A U H) : va_T .byte (adV 0) n (fun j => .int (b.getD j 0)) A U H := (h.1 0 Nat.zero_lt_one).2.2.2
section TEXT
variable {l : Launch} {d : Nat} {M : MI} {pc : Nat} {lv : LV} {st : List Value} {h : SH} {uc us : Nat} {rr : Option Value × SH}
theorem Ev.ldcS (ho : M.2.2.2.2.1 = 5) (hd : decode M.2.1 pc = .ok (.ldc 61, 2)) (kk : Ev l d M (pc + 2) lv (.ref 1000004 :: st) h uc us rr) : Ev l d M pc lv st h uc us rr := by
  intro base sa cy D p e s m args below meth cd H locs ls C hWd hz hS hL
  have C0 := C
  obtain ⟨hx, hb, hml, hret, hlocks, hts, hown, hnm, hbs, hK, hSx⟩ := C
  have fin := kk base sa cy D p e s m args below meth cd H locs ls C0 hWd hz hS hL
  rw [List.map_cons, sm_mv4] at fin
  rw [ho] at hown
  exact va_ldcS hx hb hown hSx.2.1 hd fin
theorem Ev.strValue {idx : Nat} (hl : Cond.fieldLink (sm_RC M.2.2.2.2.1) idx "java/lang/String" "value" "[B" ∈ sm_Tg) (hd : decode M.2.1 pc = .ok (.getfield idx, 3)) (kk : Ev l d M (pc + 3) lv (.ref 1000005 :: st) h uc us rr) : Ev l d M pc lv (.ref 1000004 :: st) h uc us rr := by
  intro base sa cy D p e s m args below meth cd H locs ls C hWd hz hS hL
  have C0 := C
  obtain ⟨hx, hb, hml, hret, hlocks, hts, hown, hnm, hbs, hK, hSx⟩ := C
  have fin := kk base sa cy D p e s m args below meth cd H locs ls C0 hWd hz hS hL
  rw [List.map_cons, sm_mv5] at fin
  rw [List.map_cons, sm_mv4]
  exact vk_getf hx hb (hSx.2.2.1.1 0 Nat.zero_lt_one).2.2.1 hS hown (hts _ hl) (fun _ h9 => h9) hd fin
theorem Ev.strCoder {idx : Nat} (hl : Cond.fieldLink (sm_RC M.2.2.2.2.1) idx "java/lang/String" "coder" "B" ∈ sm_Tg) (hd : decode M.2.1 pc = .ok (.getfield idx, 3)) (kk : Ev l d M (pc + 3) lv (.int 0 :: st) h uc us rr) : Ev l d M pc lv (.ref 1000004 :: st) h uc us rr := by
  intro base sa cy D p e s m args below meth cd H locs ls C hWd hz hS hL
  have C0 := C
  obtain ⟨hx, hb, hml, hret, hlocks, hts, hown, hnm, hbs, hK, hSx⟩ := C
  have fin := kk base sa cy D p e s m args below meth cd H locs ls C0 hWd hz hS hL
  rw [List.map_cons] at fin
  rw [List.map_cons, sm_mv4]
  exact vk_getf hx hb (hSx.2.2.1.1 0 Nat.zero_lt_one).2.1 hS hown (hts _ hl) (fun _ h9 => h9) hd fin
theorem Ev.strCompact {idx : Nat} (hl : Cond.fieldLink (sm_RC M.2.2.2.2.1) idx "java/lang/String" "COMPACT_STRINGS" "Z" ∈ sm_Tg) (hd : decode M.2.1 pc = .ok (.getstatic idx, 3)) (kk : Ev l d M (pc + 3) lv (.int 1 :: st) h uc us rr) : Ev l d M pc lv st h uc us rr := by
  intro base sa cy D p e s m args below meth cd H locs ls C hWd hz hS hL
  have C0 := C
  obtain ⟨hx, hb, hml, hret, hlocks, hts, hown, hnm, hbs, hK, hSx⟩ := C
  have fin := kk base sa cy D p e s m args below meth cd H locs ls C0 hWd hz hS hL
  rw [List.map_cons] at fin
  exact va_gets hx hb hSx.2.2.2.1.1 hS hown (hts _ hl) (fun _ h9 => h9) hd fin
theorem Ev.strFmt {idx : Nat} (hl : Cond.fieldLink (sm_RC M.2.2.2.2.1) idx "jdk/internal/util/Preconditions" "SIOOBE_FORMATTER" "Ljava/util/function/BiFunction;" ∈ sm_Tg) (hd : decode M.2.1 pc = .ok (.getstatic idx, 3)) (kk : ∀ v : Value, (v = .null ∨ v = .ref 1000006) → Ev l d M (pc + 3) lv (v :: st) h uc us rr) : Ev l d M pc lv st h uc us rr := by
  intro base sa cy D p e s m args below meth cd H locs ls C hWd hz hS hL
  have C0 := C
  obtain ⟨hx, hb, hml, hret, hlocks, hts, hown, hnm, hbs, hK, hSx⟩ := C
  rcases hSx.2.2.2.1.2.1 with hZ | hZ
  · have fin := kk .null (Or.inl rfl) base sa cy D p e s m args below meth cd H locs ls C0 hWd hz hS hL
    rw [List.map_cons] at fin
    exact va_gets hx hb hZ hS hown (hts _ hl) (fun _ h9 => h9) hd fin
  · have fin := kk (.ref 1000006) (Or.inr rfl) base sa cy D p e s m args below meth cd H locs ls C0 hWd hz hS hL
    rw [List.map_cons, sm_mv6] at fin
    exact va_gets hx hb hZ hS hown (hts _ hl) (fun _ h9 => h9) hd fin
theorem Ev.outLen (hd : decode M.2.1 pc = .ok (.arraylength, 1)) (kk : Ev l d M (pc + 1) lv (.int (Int32.ofNat sm_wb.length) :: st) h uc us rr) : Ev l d M pc lv (.ref 1000005 :: st) h uc us rr := by
  intro base sa cy D p e s m args below meth cd H locs ls C hWd hz hS hL
  have C0 := C
  obtain ⟨hx, hb, hml, hret, hlocks, hts, hown, hnm, hbs, hK, hSx⟩ := C
  have fin := kk base sa cy D p e s m args below meth cd H locs ls C0 hWd hz hS hL
  rw [List.map_cons] at fin
  rw [List.map_cons, sm_mv5]
  exact va_tlen hx hb (sm_txt hSx.2.2.1) hS rfl hd fin
theorem Ev.outByte {i : Int32} (hin : vp_in i sm_wb.length) (hd : decode M.2.1 pc = .ok (.baload, 1)) (kk : Ev l d M (pc + 1) lv (.int (sm_wb.getD i.toNatClampNeg 0) :: st) h uc us rr) : Ev l d M pc lv (.int i :: .ref 1000005 :: st) h uc us rr := by
  intro base sa cy D p e s m args below meth cd H locs ls C hWd hz hS hL
  have C0 := C
  obtain ⟨hx, hb, hml, hret, hlocks, hts, hown, hnm, hbs, hK, hSx⟩ := C
  have fin := kk base sa cy D p e s m args below meth cd H locs ls C0 hWd hz hS hL
  rw [List.map_cons] at fin
  rw [List.map_cons, List.map_cons, sm_mv5]
  exact va_tb hx hb (sm_txt hSx.2.2.1) hS hin rfl hd fin
theorem Ev.callStr {M' : MI} {idx d' n : Nat} {As rest : List Value} {r' : Option Value × SH} (hC : Cl l d' M' (.ref 1000004 :: As) h r') (hdd : d' + 1 ≤ d) (hm : sm_mi M' n) (hcls : M'.1.cls = "java/lang/String") (hi : Cond.instanceMethod M'.1 ∈ sm_Tg) (hsel : Cond.selects M'.1.cls M'.1 M'.1 ∈ sm_Tg) (hlk : Cond.methodLink (sm_RC M.2.2.2.2.1) idx M'.1 ∈ sm_Tg)
    (hn : As.length = n) (hr1 : r'.2.1 = h.1 + M'.2.2.2.2.2.1) (hst : st = As.reverse ++ .ref 1000004 :: rest) (hcat : (rest.map fun v => v.category).sum ≤ 8) (hu : uc + M'.2.2.2.2.2.1 ≤ M.2.2.2.2.2.1 ∧ us + M'.2.2.2.2.2.2 ≤ M.2.2.2.2.2.2)
    (hd : decode M.2.1 pc = .ok (.invokevirtual idx, 3)) (kk : Ev l d M (pc + 3) lv (r'.1.toList ++ rest) r'.2 (uc + M'.2.2.2.2.2.1) (us + M'.2.2.2.2.2.2) rr) : Ev l d M pc lv st h uc us rr := by
  subst hst
  intro base sa cy D p e s m args below meth cd H locs ls C hWd hz hS hL
  have C0 := C
  obtain ⟨hx, hb, hml, hret, hlocks, hts, hown, hnm, hbs, hK, hSx⟩ := C
  obtain ⟨m1, m2, m3, m4, m5⟩ := hm
  intro T hT X
  have hsz := sm_size X hT hWd.2 hbs hS hz
  have hrun : va_Run p l e (sm_rm d M) s m args below meth cd H locs uc us M'.2.2.2.2.2.1 M'.2.2.2.2.2.2 (F0 m pc ls ((As.reverse ++ Value.ref 1000004 :: rest).map (sm_mv base sa))) (rest.map (sm_mv base sa)) (sm_Q base sa cy D r' ((Value.ref (sa 4)) :: As.map (sm_mv base sa)).toArray) (sm_A base) := by
    refine va_runV (C := M'.1.cls) (cc := M.2.1) (nL := M.2.2.1) (Ts := sm_Tg) (own := sm_RC M.2.2.2.2.1) (index := idx) (n := n) (bytes := M'.2.1) (maxL := M'.2.2.1) (ret := M'.2.2.2.1) ⟨hx, hb, hml, hown, hts⟩ (hC base sa cy D) ⟨callB_of (Ts := sm_Tg) n hts (sm_good M' m1) rfl rfl rfl (hts _ m2) (hts _ hlk) m4 ⟨hdd, ?_⟩, hts _ hi, hts _ hsel⟩ ⟨sm_blind base sa cy D h _, ?_, fun U hU hW => ⟨?_, sm_pre hU hW hsz hWd hS hK hSx⟩⟩ rfl (by rw [List.length_map]; exact hn) hL.2.1 ?_ ?_ hd hu
    · show 8 + (M'.2.2.1 + 11) + 64 * d' ≤ 64 * d
      omega
    · rw [hcls]
      exact vk_recv (i := 0) hSx.2.2.1 Nat.zero_lt_one hS
    · rw [List.map_cons, sm_mv4]
    · show (As.reverse ++ Value.ref 1000004 :: rest).map (sm_mv base sa) = (As.map (sm_mv base sa)).reverse ++ Value.ref (sa 4) :: rest.map (sm_mv base sa)
      rw [List.map_append, List.map_reverse, List.map_cons, sm_mv4]
    · refine lv_room ?_
      rw [sm_cats]
      exact hcat
  refine sm_call hrun hS (fun H1 locs1 hWd1 hS1 => ?_) T hT X
  have fin := kk base sa cy D p e s m args below meth cd H1 locs1 ls C0 hWd1 (by omega) hS1 hL
  rw [List.map_append] at fin
  have e : r'.1.toList.map (sm_mv base sa) = (r'.1.map (sm_mv base sa)).toList := by cases r'.1 <;> rfl
  rw [e] at fin
  exact fin
theorem sm_mv7 {base : Nat} {sa : Nat → Nat} : sm_mv base sa (.ref 1000007) = .ref (sa 7) := rfl
end TEXT
