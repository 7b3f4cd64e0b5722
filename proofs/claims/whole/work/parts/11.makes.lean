/-! CONSTRUCTORS' calls, new cells, arraycopy -/
def sm_new (h : SH) (c len : Nat) : SH := (h.1 + 1, fun q => if q = h.1 then (c, len) else h.2.1 q, fun o k => if o = h.1 then 0 else h.2.2.1 o k, fun o k => if o = h.1 then 0 else h.2.2.2.1 o k, fun o k => if o = h.1 then none else h.2.2.2.2 o k)
theorem sm_new_ce {base : Nat} {sa : Nat → Nat} {cy : Nat → ClassId} {h : SH} {c len q : Nat} (hq : q < h.1) : sm_ce base sa cy (sm_new h c len) q = sm_ce base sa cy h q := by
  have hne : q ≠ h.1 := by omega
  have ef : ∀ c' k, sm_fu (sm_new h c len) q c' k = sm_fu h q c' k := fun c' k => by unfold sm_fu sm_new; simp only [if_neg hne]
  unfold sm_ce
  simp only [ef]
  simp only [sm_new, if_neg hne]
theorem sm_new_ws {base : Nat} {sa : Nat → Nat} {cy : Nat → ClassId} {h : SH} {c len : Nat} : sm_ws base sa cy (sm_new h c len) = sm_ws base sa cy h ++ [(base + h.1, sm_ce base sa cy (sm_new h c len) h.1)] := by
  unfold sm_ws
  show (List.range (h.1 + 1)).map _ = _
  rw [List.range_succ, List.map_append]
  congr 1
  refine List.map_congr_left (fun q hq => ?_)
  rw [sm_new_ce (List.mem_range.mp hq)]
theorem sm_new_at {base : Nat} {sa : Nat → Nat} {cy : Nat → ClassId} {h : SH} {c : Nat} (hc : c < 11) : sm_ce base sa cy (sm_new h c 0) h.1 = .inr (c, (List.range (sm_nC c)).map (fun k => sm_mv base sa (sm_fu (sm_new h c 0) h.1 c k))) := by
  have e3 : (sm_new h c 0).2.1 h.1 = (c, 0) := if_pos rfl
  unfold sm_ce
  rw [e3, if_pos hc]
def sm_plain (t : FieldType) : Bool := match t with
  | .float => false
  | .double => false
  | _ => true
theorem sm_plain_all : (List.range 11).all (fun c => (List.range (sm_nC c)).all (fun k => sm_plain (sm_ty c k))) = true := by decide +kernel
theorem sm_plain_of {c k : Nat} (hc : c < 11) (hk : k < sm_nC c) : sm_plain (sm_ty c k) = true :=
  List.all_eq_true.mp (List.all_eq_true.mp sm_plain_all c (List.mem_range.mpr hc)) k (List.mem_range.mpr hk)
theorem sm_new_fu {base : Nat} {sa : Nat → Nat} {h : SH} {c j : Nat} (hc : c < 11) (hj : j < sm_nC c) : defaultValue (sm_ty c j) = sm_mv base sa (sm_fu (sm_new h c 0) h.1 c j) := by
  have f1 : (sm_new h c 0).2.2.1 h.1 j = 0 := if_pos rfl
  have f2 : (sm_new h c 0).2.2.2.1 h.1 j = 0 := if_pos rfl
  have f3 : (sm_new h c 0).2.2.2.2 h.1 j = none := if_pos rfl
  have hp := sm_plain_of hc hj
  unfold sm_fu
  rw [f1, f2, f3]
  generalize sm_ty c j = ty at hp ⊢
  cases ty <;> first | rfl | (cases hp)
theorem sm_new_V {base : Nat} {sa : Nat → Nat} {h : SH} {c j : Nat} (hc : c < 11) (hj : j < sm_nC c) : defaultValue (sm_ty c j) = vp_V ((List.range (sm_nC c)).map (fun k => sm_mv base sa (sm_fu (sm_new h c 0) h.1 c k))) j := by
  unfold vp_V
  rw [List.getD_eq_getElem?_getD, List.getElem?_map, List.getElem?_range hj]
  exact sm_new_fu hc hj
/-- the world with one more cell -/
theorem sm_new_P {base : Nat} {sa : Nat → Nat} {cy : Nat → ClassId} {D : va_G} {h : SH} {c len : Nat} {H H1 : Heap} (hP : va_P D vwCl (sm_ws base sa cy h) H) (hsz : H.size = base + h.1) (o1 : ∀ q, q < base + h.1 → H1[q]? = H[q]?) (hat : va_at D vwCl (base + h.1, sm_ce base sa cy (sm_new h c len) h.1) H1) : va_P D vwCl (sm_ws base sa cy (sm_new h c len)) H1 := by
  rw [sm_new_ws]
  refine (hP.kept (fun k x hx => o1 x.1 (by rw [← hsz]; exact (hP k x hx).lt))).app (fun k x hk => ?_)
  have hz1 : k < 1 := (List.getElem?_eq_some_iff.mp hk).1
  have hk0 : k = 0 := by omega
  subst hk0
  rw [List.getElem?_cons_zero] at hk
  rw [← Option.some.inj hk]
  exact hat
theorem sm_mvn {base : Nat} {sa : Nat → Nat} {n : Nat} (hn : n < 1000000) : sm_mv base sa (.ref n) = .ref (base + n) := sm_mvr (Nat.le_refl 1000000) hn
section MAKES
variable {l : Launch} {d : Nat} {M : MI} {pc : Nat} {lv : LV} {st : List Value} {h : SH} {uc us : Nat} {rr : Option Value × SH}
theorem Ev.new {idx c : Nat} (hc : c < 11) (hlk : Cond.classLink (sm_RC M.2.2.2.2.1) idx (sm_RC c) ∈ sm_Tg) (hin : Cond.instantiable (sm_RC c) (sm_nC c) ∈ sm_Tg) (hini : Cond.initialized (sm_RC c) ∈ sm_Tg) (hn : h.1 < 1000000) (hu : uc + 1 ≤ M.2.2.2.2.2.1 ∧ us + sm_nC c ≤ M.2.2.2.2.2.2)
    (hd : decode M.2.1 pc = .ok (.new idx, 3)) (kk : Ev l d M (pc + 3) lv (.ref h.1 :: st) (sm_new h c 0) (uc + 1) (us + sm_nC c) rr) : Ev l d M pc lv st h uc us rr := by
  intro base sa cy D p e s m args below meth cd H locs ls C hWd hz hS hL
  have C0 := C
  obtain ⟨hx, hb, hml, hret, hlocks, hts, hown, hnm, hbs, hK, hSx⟩ := C
  intro T hT X
  have hsz := sm_size X hT hWd.2 hbs hS hz
  have hKn := hK.1 c _ (sm_cl hc)
  suffices main : W p l e (sm_rm d M) s m args below meth cd H locs uc us (MQ below (sm_Q base sa cy D rr) args s M.2.2.2.2.2.1 M.2.2.2.2.2.2 (sm_A base)) (F0 m pc ls (st.map (sm_mv base sa))) from main T hT X
  refine W.newcK hx hb hown (hts _ hlk) (hts _ hin) (hts _ hini) rfl hd hu.1 hu.2 hKn.2.1 hsz (fun H1 kC hkC e1 z1 o1 => ?_)
  have hat : va_at D vwCl (base + h.1, sm_ce base sa cy (sm_new h c 0) h.1) H1 := by
    rw [sm_new_at hc]
    exact ⟨_, sm_cl hc, (u_born (sm_ty c) hts (sm_lay hc) hKn hkC e1 (sm_tyok hc)).to (fun j hj => sm_new_V hc hj)⟩
  have hP1 := sm_new_P hWd.2 hsz o1 hat
  have hS1 : va_S (sm_A base) s.heap H1 locs := ⟨by rw [z1, ← hsz]; exact Nat.le_succ_of_le hS.1, fun q h1 h2 => (o1 q (by have := hS.1; omega)).trans (hS.2.1 q h1 h2), hS.2.2⟩
  have hz1 : s.heap.size + (uc + 1) = base + (h.1 + 1) := by omega
  have hw1 : h.1 + 1 ≤ 1000000 := hn
  have fin := kk base sa cy D p e s m args below meth cd H1 locs ls C0 ⟨hw1, hP1⟩ hz1 hS1 hL
  rw [List.map_cons, sm_mvn hn] at fin
  exact fin
/-- a row of constants' sort: bytes, chars, ints -/
theorem Ev.newarray {at' : ArrayType} {c : Nat} {ty : FieldType} {n : Int32} {r : List Value} (hty : newarray.typeOf at' = ty) (hct : (c = 11 ∧ ty = .byte) ∨ (c = 12 ∧ ty = .char) ∨ (c = 13 ∧ ty = .int)) (harr : Cond.arrayClass ty ∈ sm_Tg) (hn0 : ¬ n < 0) (hsm : n.toNatClampNeg ≤ 10000) (hn : h.1 < 1000000) (hu : uc + 1 ≤ M.2.2.2.2.2.1 ∧ us + n.toNatClampNeg ≤ M.2.2.2.2.2.2)
    (hd : decode M.2.1 pc = .ok (.newarray at', 2)) (kk : Ev l d M (pc + 2) lv (.ref h.1 :: r) (sm_new h c n.toNatClampNeg) (uc + 1) (us + n.toNatClampNeg) rr) : Ev l d M pc lv (.int n :: r) h uc us rr := by
  intro base sa cy D p e s m args below meth cd H locs ls C hWd hz hS hL
  have C0 := C
  obtain ⟨hx, hb, hml, hret, hlocks, hts, hown, hnm, hbs, hK, hSx⟩ := C
  intro T hT X
  have hsz := sm_size X hT hWd.2 hbs hS hz
  suffices main : W p l e (sm_rm d M) s m args below meth cd H locs uc us (MQ below (sm_Q base sa cy D rr) args s M.2.2.2.2.2.1 M.2.2.2.2.2.2 (sm_A base)) (F0 m pc ls ((Value.int n :: r).map (sm_mv base sa))) from main T hT X
  have hbytes : n.toNatClampNeg * componentBytes (newarray.typeOf at') ≤ 536870912 := by
    rw [hty]
    rcases hct with ⟨-, rfl⟩ | ⟨-, rfl⟩ | ⟨-, rfl⟩
    · exact Nat.le_trans (Nat.mul_le_mul hsm (show componentBytes .byte ≤ 8 by decide)) (by decide)
    · exact Nat.le_trans (Nat.mul_le_mul hsm (show componentBytes .char ≤ 8 by decide)) (by decide)
    · exact Nat.le_trans (Nat.mul_le_mul hsm (show componentBytes .int ≤ 8 by decide)) (by decide)
  refine va_newaK hx hb (by rw [hty]; exact hts _ harr) rfl hd rfl hn0 rfl hbytes hu.1 hu.2 hsz (fun H1 cA e1 z1 o1 hAr hNm => ?_)
  rw [hty] at hNm e1
  have hcA : cA = cy c := by
    rcases hct with ⟨rfl, rfl⟩ | ⟨rfl, rfl⟩ | ⟨rfl, rfl⟩
    · exact Option.some.inj (hNm.symm.trans (hK.2 0 _ rfl).2)
    · exact Option.some.inj (hNm.symm.trans (hK.2 1 _ rfl).2)
    · exact Option.some.inj (hNm.symm.trans (hK.2 2 _ rfl).2)
  have e3 : (sm_new h c n.toNatClampNeg).2.1 h.1 = (c, n.toNatClampNeg) := if_pos rfl
  have e4 : (sm_new h c n.toNatClampNeg).2.2.1 h.1 = fun _ => 0 := by
    funext k
    exact if_pos rfl
  have hdv : defaultValue ty = .int 0 := by rcases hct with ⟨-, rfl⟩ | ⟨-, rfl⟩ | ⟨-, rfl⟩ <;> rfl
  have hce : sm_ce base sa cy (sm_new h c n.toNatClampNeg) h.1 = .inl (cy c, n.toNatClampNeg, .inl (fun _ => 0)) := by
    unfold sm_ce
    rw [e3, e4]
    rcases hct with ⟨rfl, -⟩ | ⟨rfl, -⟩ | ⟨rfl, -⟩ <;> rfl
  have hat : va_at D vwCl (base + h.1, sm_ce base sa cy (sm_new h c n.toNatClampNeg) h.1) H1 := by
    rw [hce]
    rw [hdv, hcA] at e1
    exact e1
  have hP1 := sm_new_P hWd.2 hsz o1 hat
  have hS1 : va_S (sm_A base) s.heap H1 locs := ⟨by rw [z1, ← hsz]; exact Nat.le_succ_of_le hS.1, fun q h1 h2 => (o1 q (by have := hS.1; omega)).trans (hS.2.1 q h1 h2), hS.2.2⟩
  have hz1 : s.heap.size + (uc + 1) = base + (h.1 + 1) := by omega
  have hw1 : h.1 + 1 ≤ 1000000 := hn
  have fin := kk base sa cy D p e s m args below meth cd H1 locs ls C0 ⟨hw1, hP1⟩ hz1 hS1 hL
  rw [List.map_cons, sm_mvn hn] at fin
  exact fin
theorem Ev.newlongs {n : Int32} {r : List Value} (harr : Cond.arrayClass .long ∈ sm_Tg) (hn0 : ¬ n < 0) (hsm : n.toNatClampNeg ≤ 10000) (hn : h.1 < 1000000) (hu : uc + 1 ≤ M.2.2.2.2.2.1 ∧ us + n.toNatClampNeg ≤ M.2.2.2.2.2.2)
    (hd : decode M.2.1 pc = .ok (.newarray .long, 2)) (kk : Ev l d M (pc + 2) lv (.ref h.1 :: r) (sm_new h 14 n.toNatClampNeg) (uc + 1) (us + n.toNatClampNeg) rr) : Ev l d M pc lv (.int n :: r) h uc us rr := by
  intro base sa cy D p e s m args below meth cd H locs ls C hWd hz hS hL
  have C0 := C
  obtain ⟨hx, hb, hml, hret, hlocks, hts, hown, hnm, hbs, hK, hSx⟩ := C
  intro T hT X
  have hsz := sm_size X hT hWd.2 hbs hS hz
  suffices main : W p l e (sm_rm d M) s m args below meth cd H locs uc us (MQ below (sm_Q base sa cy D rr) args s M.2.2.2.2.2.1 M.2.2.2.2.2.2 (sm_A base)) (F0 m pc ls ((Value.int n :: r).map (sm_mv base sa))) from main T hT X
  have hbytes : n.toNatClampNeg * componentBytes (newarray.typeOf .long) ≤ 536870912 := Nat.le_trans (Nat.mul_le_mul hsm (show componentBytes .long ≤ 8 by decide)) (by decide)
  refine va_newaK (atype := .long) hx hb (hts _ harr) rfl hd rfl hn0 rfl hbytes hu.1 hu.2 hsz (fun H1 cA e1 z1 o1 hAr hNm => ?_)
  have hcA : cA = cy 14 := Option.some.inj (hNm.symm.trans (hK.2 3 _ rfl).2)
  have e3 : (sm_new h 14 n.toNatClampNeg).2.1 h.1 = (14, n.toNatClampNeg) := if_pos rfl
  have e4 : (sm_new h 14 n.toNatClampNeg).2.2.2.1 h.1 = fun _ => 0 := by
    funext k
    exact if_pos rfl
  have hce : sm_ce base sa cy (sm_new h 14 n.toNatClampNeg) h.1 = .inl (cy 14, n.toNatClampNeg, .inr (.inl (fun _ => 0))) := by
    unfold sm_ce
    rw [e3, e4]
    rfl
  have hat : va_at D vwCl (base + h.1, sm_ce base sa cy (sm_new h 14 n.toNatClampNeg) h.1) H1 := by
    rw [hce]
    rw [hcA] at e1
    exact e1
  have hP1 := sm_new_P hWd.2 hsz o1 hat
  have hS1 : va_S (sm_A base) s.heap H1 locs := ⟨by rw [z1, ← hsz]; exact Nat.le_succ_of_le hS.1, fun q h1 h2 => (o1 q (by have := hS.1; omega)).trans (hS.2.1 q h1 h2), hS.2.2⟩
  have hz1 : s.heap.size + (uc + 1) = base + (h.1 + 1) := by omega
  have hw1 : h.1 + 1 ≤ 1000000 := hn
  have fin := kk base sa cy D p e s m args below meth cd H1 locs ls C0 ⟨hw1, hP1⟩ hz1 hS1 hL
  rw [List.map_cons, sm_mvn hn] at fin
  exact fin
theorem Ev.objInit {idx o : Nat} {r : List Value} (hlk : Cond.methodLink (sm_RC M.2.2.2.2.1) idx Lib.objectInit ∈ sm_Tg) (h1 : Cond.instanceMethod Lib.objectInit ∈ sm_Tg) (h2 : Cond.code Lib.objectInit ⟨#[0xb1]⟩ 1 none ∈ sm_Tg) (ho : o < h.1) (hdd : 1 ≤ d) (hcat : (r.map fun v => v.category).sum ≤ 8)
    (hd : decode M.2.1 pc = .ok (.invokespecial idx, 3)) (kk : Ev l d M (pc + 3) lv r h uc us rr) : Ev l d M pc lv (.ref o :: r) h uc us rr := by
  intro base sa cy D p e s m args below meth cd H locs ls C hWd hz hS hL
  have C0 := C
  obtain ⟨hx, hb, hml, hret, hlocks, hts, hown, hnm, hbs, hK, hSx⟩ := C
  rw [List.map_cons, sm_mvr hWd.1 ho]
  refine W.objInit hx hb hown (hts _ hlk) (hts _ h1) (hts _ h2) rfl (by rw [hml]; exact hL.2.1) rfl hd hdd ?_ ?_
  · show 2 * 0 + ((r.map (sm_mv base sa)).map fun v => v.category).sum + 12 ≤ 64 * d
    rw [sm_cats]
    omega
  · exact W.eq (g2 := F0 m (pc + 3) ls (r.map (sm_mv base sa))) rfl (kk base sa cy D p e s m args below meth cd H locs ls C0 hWd hz hS hL)
theorem Ev.callI {M' : MI} {idx o d' n : Nat} {As rest : List Value} {r' : SH} (hC : Cl l d' M' (.ref o :: As) h (none, r')) (hdd : d' + 1 ≤ d) (hm : sm_mi M' n) (hret' : M'.2.2.2.1 = none) (hini : M'.1.name = "<init>") (hi : Cond.instanceMethod M'.1 ∈ sm_Tg) (hlk : Cond.methodLink (sm_RC M.2.2.2.2.1) idx M'.1 ∈ sm_Tg)
    (ho : o < h.1) (hn : As.length = n) (hr1 : r'.1 = h.1 + M'.2.2.2.2.2.1) (hst : st = As.reverse ++ .ref o :: rest) (hcat : (rest.map fun v => v.category).sum ≤ 8) (hu : uc + M'.2.2.2.2.2.1 ≤ M.2.2.2.2.2.1 ∧ us + M'.2.2.2.2.2.2 ≤ M.2.2.2.2.2.2)
    (hd : decode M.2.1 pc = .ok (.invokespecial idx, 3)) (kk : Ev l d M (pc + 3) lv rest r' (uc + M'.2.2.2.2.2.1) (us + M'.2.2.2.2.2.2) rr) : Ev l d M pc lv st h uc us rr := by
  subst hst
  intro base sa cy D p e s m args below meth cd H locs ls C hWd hz hS hL
  have C0 := C
  obtain ⟨hx, hb, hml, hret, hlocks, hts, hown, hnm, hbs, hK, hSx⟩ := C
  obtain ⟨m1, m2, m3, m4, m5⟩ := hm
  have hret' : M'.2.2.2.1 = none := hret'
  intro T hT X
  have hsz := sm_size X hT hWd.2 hbs hS hz
  have hcb : CallB (sm_rm d M) s args (sm_RC M.2.2.2.2.1) idx M'.1 M'.2.1 M'.2.2.1 none (sm_code M' :: sm_Tg) (sm_rm d' M') M'.2.2.2.2.2.1 M'.2.2.2.2.2.2 n := by
    rw [← hret']
    refine callB_of (Ts := sm_Tg) n hts (sm_good M' m1) rfl rfl rfl (hts _ m2) (hts _ hlk) m4 ⟨hdd, ?_⟩
    show 8 + (M'.2.2.1 + 11) + 64 * d' ≤ 64 * d
    omega
  have hrun : va_Run p l e (sm_rm d M) s m args below meth cd H locs uc us M'.2.2.2.2.2.1 M'.2.2.2.2.2.2 (F0 m pc ls ((As.reverse ++ Value.ref o :: rest).map (sm_mv base sa))) (rest.map (sm_mv base sa)) (sm_Q base sa cy D (none, r') ((Value.ref (base + o)) :: As.map (sm_mv base sa)).toArray) (sm_A base) := by
    refine va_runI (cc := M.2.1) (nL := M.2.2.1) (Ts := sm_Tg) (own := sm_RC M.2.2.2.2.1) (index := idx) (n := n) (bytes := M'.2.1) (maxL := M'.2.2.1) ⟨hx, hb, hml, hown, hts⟩ (hC base sa cy D) ⟨hcb, hini, hts _ hi⟩ ⟨sm_blind base sa cy D h _, fun U hU hW => ⟨?_, sm_pre hU hW hsz hWd hS hK hSx⟩⟩ rfl (by rw [List.length_map]; exact hn) hL.2.1 ?_ ?_ hd hu
    · rw [List.map_cons, sm_mvr hWd.1 ho]
    · show (As.reverse ++ Value.ref o :: rest).map (sm_mv base sa) = (As.map (sm_mv base sa)).reverse ++ Value.ref (base + o) :: rest.map (sm_mv base sa)
      rw [List.map_append, List.map_reverse, List.map_cons, sm_mvr hWd.1 ho]
    · refine lv_room ?_
      rw [sm_cats]
      exact hcat
  refine sm_call hrun hS (fun H1 locs1 hWd1 hS1 => ?_) T hT X
  exact kk base sa cy D p e s m args below meth cd H1 locs1 ls C0 hWd1 (by show s.heap.size + (uc + M'.2.2.2.2.2.1) = base + r'.1; omega) hS1 hL
theorem Ev.callIN {M' : MI} {idx o d' n : Nat} {host : String} {As rest : List Value} {r' : SH} (hC : Cl l d' M' (.ref o :: As) h (none, r')) (hdd : d' + 1 ≤ d) (hm : sm_mi M' n) (hret' : M'.2.2.2.1 = none) (hini : M'.1.name = "<init>") (hi : Cond.instanceMethod M'.1 ∈ sm_Tg) (hlk : Cond.methodLinkNest (sm_RC M.2.2.2.2.1) idx M'.1 host ∈ sm_nest)
    (ho : o < h.1) (hn : As.length = n) (hr1 : r'.1 = h.1 + M'.2.2.2.2.2.1) (hst : st = As.reverse ++ .ref o :: rest) (hcat : (rest.map fun v => v.category).sum ≤ 8) (hu : uc + M'.2.2.2.2.2.1 ≤ M.2.2.2.2.2.1 ∧ us + M'.2.2.2.2.2.2 ≤ M.2.2.2.2.2.2)
    (hd : decode M.2.1 pc = .ok (.invokespecial idx, 3)) (kk : Ev l d M (pc + 3) lv rest r' (uc + M'.2.2.2.2.2.1) (us + M'.2.2.2.2.2.2) rr) : Ev l d M pc lv st h uc us rr := by
  subst hst
  intro base sa cy D p e s m args below meth cd H locs ls C hWd hz hS hL
  have C0 := C
  obtain ⟨hx, hb, hml, hret, hlocks, hts, hown, hnm, hbs, hK, hSx⟩ := C
  obtain ⟨m1, m2, m3, m4, m5⟩ := hm
  have hret' : M'.2.2.2.1 = none := hret'
  intro T hT X
  have hsz := sm_size X hT hWd.2 hbs hS hz
  have hcb : va_CN (sm_rm d M) s args (sm_RC M.2.2.2.2.1) idx M'.1 host M'.2.1 M'.2.2.1 none (sm_code M' :: sm_Tg) (sm_rm d' M') M'.2.2.2.2.2.1 M'.2.2.2.2.2.2 n := by
    rw [← hret']
    refine va_cnB (Ts := sm_Tg) n hts (sm_good M' m1) rfl rfl rfl (hSx.2.2.2.2 _ hlk) (hts _ m2) m4 ⟨hdd, ?_⟩
    show 8 + (M'.2.2.1 + 11) + 64 * d' ≤ 64 * d
    omega
  have hrun : va_Run p l e (sm_rm d M) s m args below meth cd H locs uc us M'.2.2.2.2.2.1 M'.2.2.2.2.2.2 (F0 m pc ls ((As.reverse ++ Value.ref o :: rest).map (sm_mv base sa))) (rest.map (sm_mv base sa)) (sm_Q base sa cy D (none, r') ((Value.ref (base + o)) :: As.map (sm_mv base sa)).toArray) (sm_A base) := by
    refine va_runIN (cc := M.2.1) (nL := M.2.2.1) (Ts := sm_Tg) (own := sm_RC M.2.2.2.2.1) (index := idx) (n := n) (bytes := M'.2.1) (maxL := M'.2.2.1) (host := host) ⟨hx, hb, hml, hown, hts⟩ (hC base sa cy D) ⟨hcb, hini, hts _ hi⟩ ⟨sm_blind base sa cy D h _, fun U hU hW => ⟨?_, sm_pre hU hW hsz hWd hS hK hSx⟩⟩ rfl (by rw [List.length_map]; exact hn) hL.2.1 ?_ ?_ hd hu
    · rw [List.map_cons, sm_mvr hWd.1 ho]
    · show (As.reverse ++ Value.ref o :: rest).map (sm_mv base sa) = (As.map (sm_mv base sa)).reverse ++ Value.ref (base + o) :: rest.map (sm_mv base sa)
      rw [List.map_append, List.map_reverse, List.map_cons, sm_mvr hWd.1 ho]
    · refine lv_room ?_
      rw [sm_cats]
      exact hcat
  refine sm_call hrun hS (fun H1 locs1 hWd1 hS1 => ?_) T hT X
  exact kk base sa cy D p e s m args below meth cd H1 locs1 ls C0 hWd1 (by show s.heap.size + (uc + M'.2.2.2.2.2.1) = base + r'.1; omega) hS1 hL
def sm_cp (h : SH) (a0 a sp dp n : Nat) : SH := (h.1, h.2.1, fun o k => if o = a then va_cpy (h.2.2.1 a0) (h.2.2.1 a) sp dp n k else h.2.2.1 o k, h.2.2.2.1, h.2.2.2.2)
theorem sm_cp_ws {base : Nat} {sa : Nat → Nat} {cy : Nat → ClassId} {a0 a sp dp n : Nat} (ho : a < h.1) (hk : (h.2.1 a).1 = 13) :
    (sm_ws base sa cy h).set a (base + a, .inl (cy 13, (h.2.1 a).2, .inl (va_cpy (h.2.2.1 a0) (h.2.2.1 a) sp dp n))) = sm_ws base sa cy (sm_cp h a0 a sp dp n) := by
  refine sm_ws_set ho rfl ?_ (fun q hq => ?_)
  · have e1 : (sm_cp h a0 a sp dp n).2.1 a = h.2.1 a := rfl
    have e2 : (sm_cp h a0 a sp dp n).2.2.1 a = va_cpy (h.2.2.1 a0) (h.2.2.1 a) sp dp n := by
      funext k
      exact if_pos rfl
    unfold sm_ce
    rw [e1, hk, if_neg (by omega), if_neg (by omega), e2]
  · have e2 : (sm_cp h a0 a sp dp n).2.2.1 q = h.2.2.1 q := by
      funext k
      exact if_neg hq
    have ef : ∀ c k, sm_fu (sm_cp h a0 a sp dp n) q c k = sm_fu h q c k := fun c k => by unfold sm_fu; rw [e2]; rfl
    unfold sm_ce
    rw [e2]
    simp only [ef]
    rfl
theorem Ev.arraycopy {idx a a0 : Nat} {n dp sp : Int32} {r : List Value} (hlk : Cond.methodLink (sm_RC M.2.2.2.2.1) idx arraycopyName ∈ sm_Tg) (w1 : Cond.native arraycopyName ∈ sm_Tg) (w2 : Cond.static arraycopyName ∈ sm_Tg) (w3 : Cond.initialized "java/lang/System" ∈ sm_Tg)
    (ho0 : a0 < h.1 ∧ (h.2.1 a0).1 = 13) (ho : a < h.1 ∧ (h.2.1 a).1 = 13) (h1 : ¬ sp < 0) (h2 : ¬ dp < 0) (h3 : ¬ n < 0) (h4 : sp.toNatClampNeg + n.toNatClampNeg ≤ (h.2.1 a0).2) (h5 : dp.toNatClampNeg + n.toNatClampNeg ≤ (h.2.1 a).2) (hdd : 1 ≤ d) (hcat : (r.map fun v => v.category).sum ≤ 8)
    (hd : decode M.2.1 pc = .ok (.invokestatic idx, 3)) (kk : Ev l d M (pc + 3) lv r (sm_cp h a0 a sp.toNatClampNeg dp.toNatClampNeg n.toNatClampNeg) uc us rr) : Ev l d M pc lv (.int n :: .int dp :: .ref a :: .int sp :: .ref a0 :: r) h uc us rr := by
  intro base sa cy D p e s m args below meth cd H locs ls C hWd hz hS hL
  have C0 := C
  obtain ⟨hx, hb, hml, hret, hlocks, hts, hown, hnm, hbs, hK, hSx⟩ := C
  rw [List.map_cons, List.map_cons, List.map_cons, List.map_cons, List.map_cons, sm_mvr hWd.1 ho.1, sm_mvr hWd.1 ho0.1]
  refine va_copyi hx hb (by rw [hml]; exact hL.2.1.symm) hown (hts _ hlk) (hts _ w1) (hts _ w2) (hts _ w3) hK hWd.2 (sm_D base sa cy h) hS a0 a 2 2 (sm_row ho0.1 ho0.2 (by omega) (by omega)) (sm_row ho.1 ho.2 (by omega) (by omega)) rfl rfl rfl h1 h2 h3 h4 h5 (fun _ _ => rfl) hdd ?_ hd (fun H1 locs1 hP1 _ hS1 => ?_)
  · have e1 : nativeFrameWords "java/lang/System" "arraycopy" 5 = 7 := by decide +kernel
    rw [sm_cats, e1]
    show _ ≤ 64 * d
    omega
  · rw [sm_cp_ws ho.1 ho.2] at hP1
    exact kk base sa cy D p e s m args below meth cd H1 locs1 ls C0 ⟨hWd.1, hP1⟩ hz hS1 hL
end MAKES
