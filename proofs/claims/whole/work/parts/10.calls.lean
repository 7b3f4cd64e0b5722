/-! CALLS, new cells -/
theorem sm_size {base : Nat} {sa : Nat → Nat} {cy : Nat → ClassId} {D : va_G} {h : SH} {p : Program} {l : Launch} {e : Env} {R : Room} {s : State} {m : MethodId} {args : Array Value} {below : List Frame} {meth : Method} {c : Code} {T : State} {H : Heap} {locs : List Loc} {uc us : Nat}
    (X : Stand p l e R s m args below meth c T locs uc us) (hT : T.heap = H) (hP : va_P D vwCl (sm_ws base sa cy h) H) (hbs : base ≤ s.heap.size) (hS : va_S (sm_A base) s.heap H locs) (hz : s.heap.size + uc = base + h.1) : H.size = base + h.1 := by
  have h1 : T.heap.size ≤ s.heap.size + uc := X.same.2.2.1
  rw [hT] at h1
  have h2 := hS.1
  rcases Nat.eq_zero_or_pos h.1 with h0 | h0
  · omega
  · have h3 := (hP (h.1 - 1) _ (sm_ws_at (by omega))).lt
    have h3 : base + (h.1 - 1) < H.size := h3
    omega
theorem sm_call {base : Nat} {sa : Nat → Nat} {cy : Nat → ClassId} {D : va_G} {p : Program} {l : Launch} {e : Env} {R : Room} {s : State} {m : MethodId} {args : Array Value} {below : List Frame} {meth : Method} {c : Code} {H : Heap} {locs : List Loc} {cells slots : Nat} {Q : State → Prop} {pc : Nat} {ls : Array Slot} {st0 rest : List Value} {mc ms : Nat} {a : Array Value} {r : Option Value × SH}
    (hr : va_Run p l e R s m args below meth c H locs cells slots mc ms (F0 m pc ls st0) rest (sm_Q base sa cy D r a) (sm_A base)) (hS : va_S (sm_A base) s.heap H locs)
    (kk : ∀ (H1 : Heap) (locs1 : List Loc), sm_Wd base sa cy D r.2 H1 → va_S (sm_A base) s.heap H1 locs1 → W p l e R s m args below meth c H1 locs1 (cells + mc) (slots + ms) Q (F0 m (pc + 3) ls ((r.1.map (sm_mv base sa)).toList ++ rest))) :
    W p l e R s m args below meth c H locs cells slots Q (F0 m pc ls st0) := by
  intro T hT X
  obtain ⟨v, st₀, t, T', L, h0, X', hL, e1, e2, ⟨hv, hw, hz, hk⟩, st⟩ := hr T hT X
  cases hv
  rw [h0] at hz hk
  obtain ⟨t2, a1, b1⟩ := kk T'.heap (locs ++ L) (by rw [e1]; exact hw) ⟨Nat.le_trans hS.1 (by rw [e1]; exact hz), fun q h1 h2 => by rw [e1, hk q (Nat.lt_of_lt_of_le h1 hS.1) h2]; exact hS.2.1 q h1 h2, fun q hq => by
      rcases List.mem_append.mp hq with h | h
      · exact hS.2.2 q h
      · exact hL q h⟩ T' rfl X'
  exact ⟨t2, st t2 a1, b1⟩
/-- a method's own words -/
def sm_mi (M : MI) (n : Nat) : Prop := sm_code M ∈ sm_Tg ∧ Cond.initialized M.1.cls ∈ sm_Tg ∧ M.1.cls = sm_RC M.2.2.2.2.1 ∧ (M.1.cls ≠ "java/lang/invoke/MethodHandle" ∧ M.1.cls ≠ "java/lang/invoke/VarHandle" ∧ (parseMethodDescriptor M.1.desc).map (fun d => d.parameters.length) = some n) ∧ M.2.2.1 ≤ 45
theorem sm_good (M : MI) (h : sm_code M ∈ sm_Tg) : GoodIn sm_Tg (sm_code M :: sm_Tg) := by
  intro w hw
  have hw : w ∈ sm_Tg := by
    rcases List.mem_cons.mp hw with q | q
    · rw [q]; exact h
    · exact q
  exact ⟨hw, good_of_word (sm_Tg_good hw)⟩
section CALLS
variable {l : Launch} {d : Nat} {M : MI} {pc : Nat} {lv : LV} {st : List Value} {h : SH} {uc us : Nat} {rr : Option Value × SH}
theorem sm_pre {base : Nat} {sa : Nat → Nat} {cy : Nat → ClassId} {D : va_G} {s U : State} {H : Heap} {locs : List Loc} (hU : U.heap = H) (hW : s.WarmedH U.vm) (hsz : H.size = base + h.1) (hWd : sm_Wd base sa cy D h H) (hS : va_S (sm_A base) s.heap H locs) (hK : va_K D vwCl (sm_tys cy) s) (hSx : sm_Sx base sa s s.heap) : sm_P base sa cy D h U :=
  ⟨by rw [hU]; exact hsz, by rw [hU]; exact hWd, va_K.moved hW.alike hK, by rw [hU]; exact hSx.warm hW (fun a h1 h2 => hS.2.1 a h1 h2)⟩
theorem Ev.callV {M' : MI} {idx o d' n : Nat} {As rest : List Value} {r' : Option Value × SH} (hC : Cl l d' M' (.ref o :: As) h r') (hdd : d' + 1 ≤ d) (hm : sm_mi M' n) (hi : Cond.instanceMethod M'.1 ∈ sm_Tg) (hsel : Cond.selects M'.1.cls M'.1 M'.1 ∈ sm_Tg) (hlk : Cond.methodLink (sm_RC M.2.2.2.2.1) idx M'.1 ∈ sm_Tg)
    (ho : o < h.1 ∧ (h.2.1 o).1 = M'.2.2.2.2.1) (hc11 : M'.2.2.2.2.1 < 11) (hn : As.length = n) (hr1 : r'.2.1 = h.1 + M'.2.2.2.2.2.1) (hst : st = As.reverse ++ .ref o :: rest) (hcat : (rest.map fun v => v.category).sum ≤ 8) (hu : uc + M'.2.2.2.2.2.1 ≤ M.2.2.2.2.2.1 ∧ us + M'.2.2.2.2.2.2 ≤ M.2.2.2.2.2.2)
    (hd : decode M.2.1 pc = .ok (.invokevirtual idx, 3)) (kk : Ev l d M (pc + 3) lv (r'.1.toList ++ rest) r'.2 (uc + M'.2.2.2.2.2.1) (us + M'.2.2.2.2.2.2) rr) : Ev l d M pc lv st h uc us rr := by
  subst hst
  intro base sa cy D p e s m args below meth cd H locs ls C hWd hz hS hL
  have C0 := C
  obtain ⟨hx, hb, hml, hret, hlocks, hts, hown, hnm, hbs, hK, hSx⟩ := C
  obtain ⟨m1, m2, m3, m4, m5⟩ := hm
  intro T hT X
  have hsz := sm_size X hT hWd.2 hbs hS hz
  have hrun : va_Run p l e (sm_rm d M) s m args below meth cd H locs uc us M'.2.2.2.2.2.1 M'.2.2.2.2.2.2 (F0 m pc ls ((As.reverse ++ Value.ref o :: rest).map (sm_mv base sa))) (rest.map (sm_mv base sa)) (sm_Q base sa cy D r' ((Value.ref (base + o)) :: As.map (sm_mv base sa)).toArray) (sm_A base) := by
    refine va_runV (C := M'.1.cls) (cc := M.2.1) (nL := M.2.2.1) (Ts := sm_Tg) (own := sm_RC M.2.2.2.2.1) (index := idx) (n := n) (bytes := M'.2.1) (maxL := M'.2.2.1) (ret := M'.2.2.2.1) ⟨hx, hb, hml, hown, hts⟩ (hC base sa cy D) ⟨callB_of (Ts := sm_Tg) n hts (sm_good M' m1) rfl rfl rfl (hts _ m2) (hts _ hlk) m4 ⟨hdd, ?_⟩, hts _ hi, hts _ hsel⟩ ⟨sm_blind base sa cy D h _, ?_, fun U hU hW => ⟨?_, sm_pre hU hW hsz hWd hS hK hSx⟩⟩ rfl (by rw [List.length_map]; exact hn) hL.2.1 ?_ ?_ hd hu
    · show 8 + (M'.2.2.1 + 11) + 64 * d' ≤ 64 * d
      omega
    · rw [m3]
      exact va_recv hK hWd.2 (ci := M'.2.2.2.2.1) (q0 := o) (sm_cl hc11) (sm_obj ho.1 ho.2 hc11)
    · rw [List.map_cons, sm_mvr hWd.1 ho.1]
    · show (As.reverse ++ Value.ref o :: rest).map (sm_mv base sa) = (As.map (sm_mv base sa)).reverse ++ Value.ref (base + o) :: rest.map (sm_mv base sa)
      rw [List.map_append, List.map_reverse, List.map_cons, sm_mvr hWd.1 ho.1]
    · refine lv_room ?_
      rw [sm_cats]
      exact hcat
  refine sm_call hrun hS (fun H1 locs1 hWd1 hS1 => ?_) T hT X
  have fin := kk base sa cy D p e s m args below meth cd H1 locs1 ls C0 hWd1 (by omega) hS1 hL
  rw [List.map_append] at fin
  have e : r'.1.toList.map (sm_mv base sa) = (r'.1.map (sm_mv base sa)).toList := by cases r'.1 <;> rfl
  rw [e] at fin
  exact fin
theorem Ev.callS {M' : MI} {idx d' n : Nat} {As rest : List Value} {r' : Option Value × SH} (hC : Cl l d' M' As h r') (hdd : d' + 1 ≤ d) (hm : sm_mi M' n) (hi : Cond.static M'.1 ∈ sm_Tg) (hlk : Cond.methodLink (sm_RC M.2.2.2.2.1) idx M'.1 ∈ sm_Tg)
    (hn : As.length = n) (hr1 : r'.2.1 = h.1 + M'.2.2.2.2.2.1) (hst : st = As.reverse ++ rest) (hcat : (rest.map fun v => v.category).sum ≤ 8) (hu : uc + M'.2.2.2.2.2.1 ≤ M.2.2.2.2.2.1 ∧ us + M'.2.2.2.2.2.2 ≤ M.2.2.2.2.2.2)
    (hd : decode M.2.1 pc = .ok (.invokestatic idx, 3)) (kk : Ev l d M (pc + 3) lv (r'.1.toList ++ rest) r'.2 (uc + M'.2.2.2.2.2.1) (us + M'.2.2.2.2.2.2) rr) : Ev l d M pc lv st h uc us rr := by
  subst hst
  intro base sa cy D p e s m args below meth cd H locs ls C hWd hz hS hL
  have C0 := C
  obtain ⟨hx, hb, hml, hret, hlocks, hts, hown, hnm, hbs, hK, hSx⟩ := C
  obtain ⟨m1, m2, m3, m4, m5⟩ := hm
  intro T hT X
  have hsz := sm_size X hT hWd.2 hbs hS hz
  have hrun : va_Run p l e (sm_rm d M) s m args below meth cd H locs uc us M'.2.2.2.2.2.1 M'.2.2.2.2.2.2 (F0 m pc ls ((As.reverse ++ rest).map (sm_mv base sa))) (rest.map (sm_mv base sa)) (sm_Q base sa cy D r' (As.map (sm_mv base sa)).toArray) (sm_A base) := by
    refine va_runS (cc := M.2.1) (nL := M.2.2.1) (Ts := sm_Tg) (own := sm_RC M.2.2.2.2.1) (index := idx) (n := n) (bytes := M'.2.1) (maxL := M'.2.2.1) (ret := M'.2.2.2.1) ⟨hx, hb, hml, hown, hts⟩ (hC base sa cy D) ⟨callB_of (Ts := sm_Tg) n hts (sm_good M' m1) rfl rfl rfl (hts _ m2) (hts _ hlk) m4 ⟨hdd, ?_⟩, hts _ hi⟩ ⟨sm_blind base sa cy D h _, fun U hU hW => ⟨rfl, sm_pre hU hW hsz hWd hS hK hSx⟩⟩ rfl (by rw [List.length_map]; exact hn) hL.2.1 ?_ ?_ hd hu
    · show 8 + (M'.2.2.1 + 11) + 64 * d' ≤ 64 * d
      omega
    · show (As.reverse ++ rest).map (sm_mv base sa) = (As.map (sm_mv base sa)).reverse ++ rest.map (sm_mv base sa)
      rw [List.map_append, List.map_reverse]
    · refine lv_room ?_
      rw [sm_cats]
      exact hcat
  refine sm_call hrun hS (fun H1 locs1 hWd1 hS1 => ?_) T hT X
  have fin := kk base sa cy D p e s m args below meth cd H1 locs1 ls C0 hWd1 (by omega) hS1 hL
  rw [List.map_append] at fin
  have e : r'.1.toList.map (sm_mv base sa) = (r'.1.map (sm_mv base sa)).toList := by cases r'.1 <;> rfl
  rw [e] at fin
  exact fin
theorem Ev.callSN {M' : MI} {idx d' n : Nat} {host : String} {As rest : List Value} {r' : Option Value × SH} (hC : Cl l d' M' As h r') (hdd : d' + 1 ≤ d) (hm : sm_mi M' n) (hi : Cond.static M'.1 ∈ sm_Tg) (hlk : Cond.methodLinkNest (sm_RC M.2.2.2.2.1) idx M'.1 host ∈ sm_nest)
    (hn : As.length = n) (hr1 : r'.2.1 = h.1 + M'.2.2.2.2.2.1) (hst : st = As.reverse ++ rest) (hcat : (rest.map fun v => v.category).sum ≤ 8) (hu : uc + M'.2.2.2.2.2.1 ≤ M.2.2.2.2.2.1 ∧ us + M'.2.2.2.2.2.2 ≤ M.2.2.2.2.2.2)
    (hd : decode M.2.1 pc = .ok (.invokestatic idx, 3)) (kk : Ev l d M (pc + 3) lv (r'.1.toList ++ rest) r'.2 (uc + M'.2.2.2.2.2.1) (us + M'.2.2.2.2.2.2) rr) : Ev l d M pc lv st h uc us rr := by
  subst hst
  intro base sa cy D p e s m args below meth cd H locs ls C hWd hz hS hL
  have C0 := C
  obtain ⟨hx, hb, hml, hret, hlocks, hts, hown, hnm, hbs, hK, hSx⟩ := C
  obtain ⟨m1, m2, m3, m4, m5⟩ := hm
  intro T hT X
  have hsz := sm_size X hT hWd.2 hbs hS hz
  have hrun : va_Run p l e (sm_rm d M) s m args below meth cd H locs uc us M'.2.2.2.2.2.1 M'.2.2.2.2.2.2 (F0 m pc ls ((As.reverse ++ rest).map (sm_mv base sa))) (rest.map (sm_mv base sa)) (sm_Q base sa cy D r' (As.map (sm_mv base sa)).toArray) (sm_A base) := by
    refine va_runSN (cc := M.2.1) (nL := M.2.2.1) (Ts := sm_Tg) (own := sm_RC M.2.2.2.2.1) (index := idx) (n := n) (bytes := M'.2.1) (maxL := M'.2.2.1) (ret := M'.2.2.2.1) (host := host) ⟨hx, hb, hml, hown, hts⟩ (hC base sa cy D) ⟨va_cnB (Ts := sm_Tg) n hts (sm_good M' m1) rfl rfl rfl (hSx.2.2.2.2 _ hlk) (hts _ m2) m4 ⟨hdd, ?_⟩, hts _ hi, trivial⟩ ⟨sm_blind base sa cy D h _, fun U hU hW => ⟨rfl, sm_pre hU hW hsz hWd hS hK hSx⟩⟩ rfl (by rw [List.length_map]; exact hn) hL.2.1 ?_ ?_ hd hu
    · show 8 + (M'.2.2.1 + 11) + 64 * d' ≤ 64 * d
      omega
    · show (As.reverse ++ rest).map (sm_mv base sa) = (As.map (sm_mv base sa)).reverse ++ rest.map (sm_mv base sa)
      rw [List.map_append, List.map_reverse]
    · refine lv_room ?_
      rw [sm_cats]
      exact hcat
  refine sm_call hrun hS (fun H1 locs1 hWd1 hS1 => ?_) T hT X
  have fin := kk base sa cy D p e s m args below meth cd H1 locs1 ls C0 hWd1 (by omega) hS1 hL
  rw [List.map_append] at fin
  have e : r'.1.toList.map (sm_mv base sa) = (r'.1.map (sm_mv base sa)).toList := by cases r'.1 <;> rfl
  rw [e] at fin
  exact fin
end CALLS
