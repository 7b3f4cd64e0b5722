/-! ROWS, what is outside, branches -/
theorem sm_upd {f : Nat → Nat → Int32} {a i : Nat} {x : Int32} : sm_up f a i x a = upd (f a) i x := by
  funext b
  simp [sm_up, upd]
theorem sm_updL {f : Nat → Nat → Int64} {a i : Nat} {x : Int64} : sm_up f a i x a = vp_updL (f a) i x := by
  funext b
  simp [sm_up, vp_updL]
theorem sm_fu_I {h : SH} {a i q c k : Nat} {x : Int32} (hq : q ≠ a) : sm_fu (sm_I h a i x) q c k = sm_fu h q c k := by
  unfold sm_fu sm_I
  simp only [sm_up_other hq]
theorem sm_fu_J {h : SH} {a i q c k : Nat} {x : Int64} (hq : q ≠ a) : sm_fu (sm_J h a i x) q c k = sm_fu h q c k := by
  unfold sm_fu sm_J
  simp only [sm_up_other hq]
theorem sm_ce_I {base : Nat} {sa : Nat → Nat} {cy : Nat → ClassId} {h : SH} {a i q : Nat} {x : Int32} (hq : q ≠ a) : sm_ce base sa cy (sm_I h a i x) q = sm_ce base sa cy h q := by
  unfold sm_ce
  simp only [sm_fu_I hq]
  show _ = _
  simp only [sm_I, sm_up_other hq]
theorem sm_ce_J {base : Nat} {sa : Nat → Nat} {cy : Nat → ClassId} {h : SH} {a i q : Nat} {x : Int64} (hq : q ≠ a) : sm_ce base sa cy (sm_J h a i x) q = sm_ce base sa cy h q := by
  unfold sm_ce
  simp only [sm_fu_J hq]
  show _ = _
  simp only [sm_J, sm_up_other hq]
theorem sm_ws_row {base : Nat} {sa : Nat → Nat} {cy : Nat → ClassId} {h : SH} {a c i : Nat} {x : Int32} (ho : a < h.1) (hk : (h.2.1 a).1 = c) (hc : 11 ≤ c) (h14 : c ≠ 14) :
    (sm_ws base sa cy h).set a (base + a, .inl (cy c, (h.2.1 a).2, .inl (upd (h.2.2.1 a) i x))) = sm_ws base sa cy (sm_I h a i x) := by
  refine sm_ws_set ho rfl ?_ (fun q hq => sm_ce_I hq)
  have e1 : (sm_I h a i x).2.1 a = h.2.1 a := rfl
  unfold sm_ce
  rw [e1, hk, if_neg (by omega), if_neg h14, ← sm_upd]
  rfl
theorem sm_ws_rowL {base : Nat} {sa : Nat → Nat} {cy : Nat → ClassId} {h : SH} {a i : Nat} {x : Int64} (ho : a < h.1) (hk : (h.2.1 a).1 = 14) :
    (sm_ws base sa cy h).set a (base + a, .inl (cy 14, (h.2.1 a).2, .inr (.inl (vp_updL (h.2.2.2.1 a) i x)))) = sm_ws base sa cy (sm_J h a i x) := by
  refine sm_ws_set ho rfl ?_ (fun q hq => sm_ce_J hq)
  have e1 : (sm_J h a i x).2.1 a = h.2.1 a := rfl
  unfold sm_ce
  rw [e1, hk, if_neg (by omega), if_pos rfl, ← sm_updL]
  rfl
section ROWS
variable {l : Launch} {d : Nat} {M : MI} {pc : Nat} {lv : LV} {st : List Value} {h : SH} {uc us : Nat} {rr : Option Value × SH} {Q : LV → List Value → SH → Prop}
theorem Ev.iaload {k : Nat} (hd : decode M.2.1 pc = .ok (.iaload, 1)) (hs : sx_iaload k lv st h Q) (kk : ∀ lv' st' h', Q lv' st' h' → Ev l d M (pc + 1) lv' st' h' uc us rr) : Ev l d M pc lv st h uc us rr := by
  unfold sx_iaload at hs
  split at hs
  · rename_i i a r
    split at hs
    · obtain ⟨⟨ho, hk⟩, hin, hs⟩ := hs
      intro base sa cy D p e s m args below meth cd H locs ls C hWd hz hS hL
      have C0 := C
      obtain ⟨hx, hb, hml, hret, hlocks, hts, hown, hnm, hbs, hK, hSx⟩ := C
      rw [List.map_cons, List.map_cons, sm_mvr hWd.1 ho]
      exact va_iald hx hb hK hWd.2 a 2 (sm_row ho hk (by omega) (by omega)) rfl hin hd (kk _ _ _ hs base sa cy D p e s m args below meth cd H locs ls C0 hWd hz hS hL)
    · obtain ⟨⟨ha, hb4⟩, hin, hs⟩ := hs
      have ha : (1000000 : Nat) ≤ a := ha
      have hb4 : (a : Nat) < (1000004 : Nat) := hb4
      have hlt : ¬ ((a : Nat) < (1000000 : Nat)) := Nat.not_lt.mpr ha
      have hj : (a : Nat) - 1000000 < 4 := Nat.sub_lt_left_of_lt_add ha hb4
      intro base sa cy D p e s m args below meth cd H locs ls C hWd hz hS hL
      have C0 := C
      obtain ⟨hx, hb, hml, hret, hlocks, hts, hown, hnm, hbs, hK, hSx⟩ := C
      have ea : sm_mv base sa (.ref a) = .ref (sa (a - 1000000)) := by
        show Value.ref (if a < 1000000 then base + a else sa (a - 1000000)) = _
        rw [if_neg hlt]
      rw [List.map_cons, List.map_cons, ea]
      exact va_ti hx hb (hSx.1 (a - 1000000) hj).2 hS hin rfl hd (kk _ _ _ hs base sa cy D p e s m args below meth cd H locs ls C0 hWd hz hS hL)
  · exact hs.elim
theorem Ev.baload {k : Nat} (hd : decode M.2.1 pc = .ok (.baload, 1)) (hs : sx_baload k lv st h Q) (kk : ∀ lv' st' h', Q lv' st' h' → Ev l d M (pc + 1) lv' st' h' uc us rr) : Ev l d M pc lv st h uc us rr := by
  unfold sx_baload at hs
  split at hs
  · rename_i i a r
    split at hs
    · obtain ⟨⟨ho, hk⟩, hin, hs⟩ := hs
      intro base sa cy D p e s m args below meth cd H locs ls C hWd hz hS hL
      have C0 := C
      obtain ⟨hx, hb, hml, hret, hlocks, hts, hown, hnm, hbs, hK, hSx⟩ := C
      rw [List.map_cons, List.map_cons, sm_mvr hWd.1 ho]
      exact va_bald hx hb hK hWd.2 a 0 (sm_row ho hk (by omega) (by omega)) rfl hin hd (kk _ _ _ hs base sa cy D p e s m args below meth cd H locs ls C0 hWd hz hS hL)
    · exact hs.elim
  · exact hs.elim
theorem Ev.caload {k : Nat} (hd : decode M.2.1 pc = .ok (.caload, 1)) (hs : sx_caload k lv st h Q) (kk : ∀ lv' st' h', Q lv' st' h' → Ev l d M (pc + 1) lv' st' h' uc us rr) : Ev l d M pc lv st h uc us rr := by
  unfold sx_caload at hs
  split at hs
  · rename_i i a r
    split at hs
    · obtain ⟨⟨ho, hk⟩, hin, hs⟩ := hs
      intro base sa cy D p e s m args below meth cd H locs ls C hWd hz hS hL
      have C0 := C
      obtain ⟨hx, hb, hml, hret, hlocks, hts, hown, hnm, hbs, hK, hSx⟩ := C
      rw [List.map_cons, List.map_cons, sm_mvr hWd.1 ho]
      exact va_cald hx hb hK hWd.2 a 1 (sm_row ho hk (by omega) (by omega)) rfl hin hd (kk _ _ _ hs base sa cy D p e s m args below meth cd H locs ls C0 hWd hz hS hL)
    · exact hs.elim
  · exact hs.elim
theorem Ev.laload (hd : decode M.2.1 pc = .ok (.laload, 1)) (hs : sx_laload lv st h Q) (kk : ∀ lv' st' h', Q lv' st' h' → Ev l d M (pc + 1) lv' st' h' uc us rr) : Ev l d M pc lv st h uc us rr := by
  unfold sx_laload at hs
  split at hs
  · rename_i i a r
    obtain ⟨⟨ho, hk⟩, hin, hs⟩ := hs
    intro base sa cy D p e s m args below meth cd H locs ls C hWd hz hS hL
    have C0 := C
    obtain ⟨hx, hb, hml, hret, hlocks, hts, hown, hnm, hbs, hK, hSx⟩ := C
    rw [List.map_cons, List.map_cons, sm_mvr hWd.1 ho]
    exact va_lald hx hb hK hWd.2 a 3 (sm_rowL ho hk) rfl hin hd (kk _ _ _ hs base sa cy D p e s m args below meth cd H locs ls C0 hWd hz hS hL)
  · exact hs.elim
theorem Ev.iastore (hd : decode M.2.1 pc = .ok (.iastore, 1)) (hs : sx_iastore lv st h Q) (kk : ∀ lv' st' h', Q lv' st' h' → Ev l d M (pc + 1) lv' st' h' uc us rr) : Ev l d M pc lv st h uc us rr := by
  unfold sx_iastore at hs
  split at hs
  · rename_i x i a r
    obtain ⟨⟨ho, hk⟩, hin, hs⟩ := hs
    intro base sa cy D p e s m args below meth cd H locs ls C hWd hz hS hL
    have C0 := C
    obtain ⟨hx, hb, hml, hret, hlocks, hts, hown, hnm, hbs, hK, hSx⟩ := C
    rw [List.map_cons, List.map_cons, List.map_cons, sm_mvr hWd.1 ho]
    refine va_iast hx hb hK hWd.2 (sm_D base sa cy h) hS a 2 (sm_row ho hk (by omega) (by omega)) rfl hin hd (fun H1 locs1 hP1 _ hS1 => ?_)
    rw [sm_ws_row ho hk (by omega) (by omega)] at hP1
    exact kk _ _ _ hs base sa cy D p e s m args below meth cd H1 locs1 ls C0 ⟨hWd.1, hP1⟩ hz hS1 hL
  · exact hs.elim
theorem Ev.bastore (hd : decode M.2.1 pc = .ok (.bastore, 1)) (hs : sx_bastore lv st h Q) (kk : ∀ lv' st' h', Q lv' st' h' → Ev l d M (pc + 1) lv' st' h' uc us rr) : Ev l d M pc lv st h uc us rr := by
  unfold sx_bastore at hs
  split at hs
  · rename_i x i a r
    obtain ⟨⟨ho, hk⟩, hin, hs⟩ := hs
    intro base sa cy D p e s m args below meth cd H locs ls C hWd hz hS hL
    have C0 := C
    obtain ⟨hx, hb, hml, hret, hlocks, hts, hown, hnm, hbs, hK, hSx⟩ := C
    rw [List.map_cons, List.map_cons, List.map_cons, sm_mvr hWd.1 ho]
    refine va_bast hx hb hK hWd.2 (sm_D base sa cy h) hS a 0 (sm_row ho hk (by omega) (by omega)) rfl hin hd (fun H1 locs1 hP1 _ hS1 => ?_)
    rw [sm_ws_row ho hk (by omega) (by omega)] at hP1
    exact kk _ _ _ hs base sa cy D p e s m args below meth cd H1 locs1 ls C0 ⟨hWd.1, hP1⟩ hz hS1 hL
  · exact hs.elim
theorem Ev.castore (hd : decode M.2.1 pc = .ok (.castore, 1)) (hs : sx_castore lv st h Q) (kk : ∀ lv' st' h', Q lv' st' h' → Ev l d M (pc + 1) lv' st' h' uc us rr) : Ev l d M pc lv st h uc us rr := by
  unfold sx_castore at hs
  split at hs
  · rename_i x i a r
    obtain ⟨⟨ho, hk⟩, hin, hs⟩ := hs
    intro base sa cy D p e s m args below meth cd H locs ls C hWd hz hS hL
    have C0 := C
    obtain ⟨hx, hb, hml, hret, hlocks, hts, hown, hnm, hbs, hK, hSx⟩ := C
    rw [List.map_cons, List.map_cons, List.map_cons, sm_mvr hWd.1 ho]
    refine va_cast hx hb hK hWd.2 (sm_D base sa cy h) hS a 1 (sm_row ho hk (by omega) (by omega)) rfl hin hd (fun H1 locs1 hP1 _ hS1 => ?_)
    rw [sm_ws_row ho hk (by omega) (by omega)] at hP1
    exact kk _ _ _ hs base sa cy D p e s m args below meth cd H1 locs1 ls C0 ⟨hWd.1, hP1⟩ hz hS1 hL
  · exact hs.elim
theorem Ev.lastore (hd : decode M.2.1 pc = .ok (.lastore, 1)) (hs : sx_lastore lv st h Q) (kk : ∀ lv' st' h', Q lv' st' h' → Ev l d M (pc + 1) lv' st' h' uc us rr) : Ev l d M pc lv st h uc us rr := by
  unfold sx_lastore at hs
  split at hs
  · rename_i x i a r
    obtain ⟨⟨ho, hk⟩, hin, hs⟩ := hs
    intro base sa cy D p e s m args below meth cd H locs ls C hWd hz hS hL
    have C0 := C
    obtain ⟨hx, hb, hml, hret, hlocks, hts, hown, hnm, hbs, hK, hSx⟩ := C
    rw [List.map_cons, List.map_cons, List.map_cons, sm_mvr hWd.1 ho]
    refine va_last hx hb hK hWd.2 (sm_D base sa cy h) hS a 3 (sm_rowL ho hk) rfl hin hd (fun H1 locs1 hP1 _ hS1 => ?_)
    rw [sm_ws_rowL ho hk] at hP1
    exact kk _ _ _ hs base sa cy D p e s m args below meth cd H1 locs1 ls C0 ⟨hWd.1, hP1⟩ hz hS1 hL
  · exact hs.elim
theorem Ev.arraylength (hd : decode M.2.1 pc = .ok (.arraylength, 1)) (hs : sx_arraylength lv st h Q) (kk : ∀ lv' st' h', Q lv' st' h' → Ev l d M (pc + 1) lv' st' h' uc us rr) : Ev l d M pc lv st h uc us rr := by
  unfold sx_arraylength at hs
  split at hs
  · rename_i a r
    obtain ⟨⟨ho, h11, h14⟩, hs⟩ := hs
    intro base sa cy D p e s m args below meth cd H locs ls C hWd hz hS hL
    have C0 := C
    obtain ⟨hx, hb, hml, hret, hlocks, hts, hown, hnm, hbs, hK, hSx⟩ := C
    rw [List.map_cons, sm_mvr hWd.1 ho]
    have fin := kk _ _ _ hs base sa cy D p e s m args below meth cd H locs ls C0 hWd hz hS hL
    by_cases hk : (h.2.1 a).1 = 14
    · exact va_alen hx hb hK hWd.2 a 3 (sm_rowL ho hk) rfl rfl hd fin
    · have hr := sm_row (base := base) (sa := sa) (cy := cy) ho rfl h11 hk
      rcases (show (h.2.1 a).1 = 11 ∨ (h.2.1 a).1 = 12 ∨ (h.2.1 a).1 = 13 by omega) with q | q | q
      · exact va_alen hx hb hK hWd.2 a 0 hr (by rw [q]; rfl) rfl hd fin
      · exact va_alen hx hb hK hWd.2 a 1 hr (by rw [q]; rfl) rfl hd fin
      · exact va_alen hx hb hK hWd.2 a 2 hr (by rw [q]; rfl) rfl hd fin
  · exact hs.elim
def sm_gl (own idx k : Nat) : Prop := Cond.fieldLinkNest (sm_RC own) idx RX9 (sm_snm k) "[I" RX9 ∈ sm_nest
theorem Ev.getstatic {idx k : Nat} (hl : sm_gl M.2.2.2.2.1 idx k) (hd : decode M.2.1 pc = .ok (.getstatic idx, 3)) (hs : sx_getstatic k lv st h Q) (kk : ∀ lv' st' h', Q lv' st' h' → Ev l d M (pc + 3) lv' st' h' uc us rr) : Ev l d M pc lv st h uc us rr := by
    obtain ⟨hk, hs⟩ := hs
    intro base sa cy D p e s m args below meth cd H locs ls C hWd hz hS hL
    have C0 := C
    obtain ⟨hx, hb, hml, hret, hlocks, hts, hown, hnm, hbs, hK, hSx⟩ := C
    have e1 : sm_mv base sa (.ref (1000000 + k)) = .ref (sa k) := by
      show Value.ref (if 1000000 + k < 1000000 then base + (1000000 + k) else sa (1000000 + k - 1000000)) = _
      rw [if_neg (by omega), show 1000000 + k - 1000000 = k by omega]
    have fin := kk _ _ _ hs base sa cy D p e s m args below meth cd H locs ls C0 hWd hz hS hL
    rw [List.map_cons, e1] at fin
    exact va_getsN hx hb (hSx.1 k hk).1 hS hown (va_Nw.use rfl (hSx.2.2.2.2 _ hl)) (fun _ h9 => h9) hd fin
theorem Ev.if_eq {x : Int32} {off : Int} {r : List Value} {tgt : Nat} (hd : decode M.2.1 pc = .ok (.ifCond .eq off, 3)) (ht : (pc : Int) + off = (tgt : Int)) (kt : x = 0 → Ev l d M tgt lv r h uc us rr) (kf : ¬ x = 0 → Ev l d M (pc + 3) lv r h uc us rr) : Ev l d M pc lv (.int x :: r) h uc us rr := by
    intro base sa cy D p e s m args below meth cd H locs ls C hWd hz hS hL
    have C0 := C
    obtain ⟨hx, hb, hml, hret, hlocks, hts, hown, hnm, hbs, hK, hSx⟩ := C
    exact lv_if_eq hx hb hd ht (fun q => kt q base sa cy D p e s m args below meth cd H locs ls C0 hWd hz hS hL) (fun q => kf q base sa cy D p e s m args below meth cd H locs ls C0 hWd hz hS hL)
theorem Ev.if_ne {x : Int32} {off : Int} {r : List Value} {tgt : Nat} (hd : decode M.2.1 pc = .ok (.ifCond .ne off, 3)) (ht : (pc : Int) + off = (tgt : Int)) (kt : ¬ x = 0 → Ev l d M tgt lv r h uc us rr) (kf : x = 0 → Ev l d M (pc + 3) lv r h uc us rr) : Ev l d M pc lv (.int x :: r) h uc us rr := by
    intro base sa cy D p e s m args below meth cd H locs ls C hWd hz hS hL
    have C0 := C
    obtain ⟨hx, hb, hml, hret, hlocks, hts, hown, hnm, hbs, hK, hSx⟩ := C
    exact lv_if_ne hx hb hd ht (fun q => kt q base sa cy D p e s m args below meth cd H locs ls C0 hWd hz hS hL) (fun q => kf q base sa cy D p e s m args below meth cd H locs ls C0 hWd hz hS hL)
theorem Ev.if_lt {x : Int32} {off : Int} {r : List Value} {tgt : Nat} (hd : decode M.2.1 pc = .ok (.ifCond .lt off, 3)) (ht : (pc : Int) + off = (tgt : Int)) (kt : x < 0 → Ev l d M tgt lv r h uc us rr) (kf : ¬ x < 0 → Ev l d M (pc + 3) lv r h uc us rr) : Ev l d M pc lv (.int x :: r) h uc us rr := by
    intro base sa cy D p e s m args below meth cd H locs ls C hWd hz hS hL
    have C0 := C
    obtain ⟨hx, hb, hml, hret, hlocks, hts, hown, hnm, hbs, hK, hSx⟩ := C
    exact lv_if_lt hx hb hd ht (fun q => kt q base sa cy D p e s m args below meth cd H locs ls C0 hWd hz hS hL) (fun q => kf q base sa cy D p e s m args below meth cd H locs ls C0 hWd hz hS hL)
theorem Ev.if_ge {x : Int32} {off : Int} {r : List Value} {tgt : Nat} (hd : decode M.2.1 pc = .ok (.ifCond .ge off, 3)) (ht : (pc : Int) + off = (tgt : Int)) (kt : 0 ≤ x → Ev l d M tgt lv r h uc us rr) (kf : ¬ 0 ≤ x → Ev l d M (pc + 3) lv r h uc us rr) : Ev l d M pc lv (.int x :: r) h uc us rr := by
    intro base sa cy D p e s m args below meth cd H locs ls C hWd hz hS hL
    have C0 := C
    obtain ⟨hx, hb, hml, hret, hlocks, hts, hown, hnm, hbs, hK, hSx⟩ := C
    exact lv_if_ge hx hb hd ht (fun q => kt q base sa cy D p e s m args below meth cd H locs ls C0 hWd hz hS hL) (fun q => kf q base sa cy D p e s m args below meth cd H locs ls C0 hWd hz hS hL)
theorem Ev.if_gt {x : Int32} {off : Int} {r : List Value} {tgt : Nat} (hd : decode M.2.1 pc = .ok (.ifCond .gt off, 3)) (ht : (pc : Int) + off = (tgt : Int)) (kt : 0 < x → Ev l d M tgt lv r h uc us rr) (kf : ¬ 0 < x → Ev l d M (pc + 3) lv r h uc us rr) : Ev l d M pc lv (.int x :: r) h uc us rr := by
    intro base sa cy D p e s m args below meth cd H locs ls C hWd hz hS hL
    have C0 := C
    obtain ⟨hx, hb, hml, hret, hlocks, hts, hown, hnm, hbs, hK, hSx⟩ := C
    exact lv_if_gt hx hb hd ht (fun q => kt q base sa cy D p e s m args below meth cd H locs ls C0 hWd hz hS hL) (fun q => kf q base sa cy D p e s m args below meth cd H locs ls C0 hWd hz hS hL)
theorem Ev.if_le {x : Int32} {off : Int} {r : List Value} {tgt : Nat} (hd : decode M.2.1 pc = .ok (.ifCond .le off, 3)) (ht : (pc : Int) + off = (tgt : Int)) (kt : x ≤ 0 → Ev l d M tgt lv r h uc us rr) (kf : ¬ x ≤ 0 → Ev l d M (pc + 3) lv r h uc us rr) : Ev l d M pc lv (.int x :: r) h uc us rr := by
    intro base sa cy D p e s m args below meth cd H locs ls C hWd hz hS hL
    have C0 := C
    obtain ⟨hx, hb, hml, hret, hlocks, hts, hown, hnm, hbs, hK, hSx⟩ := C
    exact lv_if_le hx hb hd ht (fun q => kt q base sa cy D p e s m args below meth cd H locs ls C0 hWd hz hS hL) (fun q => kf q base sa cy D p e s m args below meth cd H locs ls C0 hWd hz hS hL)
theorem Ev.icmp_eq {x y : Int32} {off : Int} {r : List Value} {tgt : Nat} (hd : decode M.2.1 pc = .ok (.if_icmp .eq off, 3)) (ht : (pc : Int) + off = (tgt : Int)) (kt : x = y → Ev l d M tgt lv r h uc us rr) (kf : ¬ x = y → Ev l d M (pc + 3) lv r h uc us rr) : Ev l d M pc lv (.int y :: .int x :: r) h uc us rr := by
    intro base sa cy D p e s m args below meth cd H locs ls C hWd hz hS hL
    have C0 := C
    obtain ⟨hx, hb, hml, hret, hlocks, hts, hown, hnm, hbs, hK, hSx⟩ := C
    exact lv_icmp_eq hx hb hd ht (fun q => kt q base sa cy D p e s m args below meth cd H locs ls C0 hWd hz hS hL) (fun q => kf q base sa cy D p e s m args below meth cd H locs ls C0 hWd hz hS hL)
theorem Ev.icmp_ne {x y : Int32} {off : Int} {r : List Value} {tgt : Nat} (hd : decode M.2.1 pc = .ok (.if_icmp .ne off, 3)) (ht : (pc : Int) + off = (tgt : Int)) (kt : ¬ x = y → Ev l d M tgt lv r h uc us rr) (kf : x = y → Ev l d M (pc + 3) lv r h uc us rr) : Ev l d M pc lv (.int y :: .int x :: r) h uc us rr := by
    intro base sa cy D p e s m args below meth cd H locs ls C hWd hz hS hL
    have C0 := C
    obtain ⟨hx, hb, hml, hret, hlocks, hts, hown, hnm, hbs, hK, hSx⟩ := C
    exact lv_icmp_ne hx hb hd ht (fun q => kt q base sa cy D p e s m args below meth cd H locs ls C0 hWd hz hS hL) (fun q => kf q base sa cy D p e s m args below meth cd H locs ls C0 hWd hz hS hL)
theorem Ev.icmp_lt {x y : Int32} {off : Int} {r : List Value} {tgt : Nat} (hd : decode M.2.1 pc = .ok (.if_icmp .lt off, 3)) (ht : (pc : Int) + off = (tgt : Int)) (kt : x < y → Ev l d M tgt lv r h uc us rr) (kf : ¬ x < y → Ev l d M (pc + 3) lv r h uc us rr) : Ev l d M pc lv (.int y :: .int x :: r) h uc us rr := by
    intro base sa cy D p e s m args below meth cd H locs ls C hWd hz hS hL
    have C0 := C
    obtain ⟨hx, hb, hml, hret, hlocks, hts, hown, hnm, hbs, hK, hSx⟩ := C
    exact lv_icmp_lt hx hb hd ht (fun q => kt q base sa cy D p e s m args below meth cd H locs ls C0 hWd hz hS hL) (fun q => kf q base sa cy D p e s m args below meth cd H locs ls C0 hWd hz hS hL)
theorem Ev.icmp_ge {x y : Int32} {off : Int} {r : List Value} {tgt : Nat} (hd : decode M.2.1 pc = .ok (.if_icmp .ge off, 3)) (ht : (pc : Int) + off = (tgt : Int)) (kt : y ≤ x → Ev l d M tgt lv r h uc us rr) (kf : ¬ y ≤ x → Ev l d M (pc + 3) lv r h uc us rr) : Ev l d M pc lv (.int y :: .int x :: r) h uc us rr := by
    intro base sa cy D p e s m args below meth cd H locs ls C hWd hz hS hL
    have C0 := C
    obtain ⟨hx, hb, hml, hret, hlocks, hts, hown, hnm, hbs, hK, hSx⟩ := C
    exact lv_icmp_ge hx hb hd ht (fun q => kt q base sa cy D p e s m args below meth cd H locs ls C0 hWd hz hS hL) (fun q => kf q base sa cy D p e s m args below meth cd H locs ls C0 hWd hz hS hL)
theorem Ev.icmp_gt {x y : Int32} {off : Int} {r : List Value} {tgt : Nat} (hd : decode M.2.1 pc = .ok (.if_icmp .gt off, 3)) (ht : (pc : Int) + off = (tgt : Int)) (kt : y < x → Ev l d M tgt lv r h uc us rr) (kf : ¬ y < x → Ev l d M (pc + 3) lv r h uc us rr) : Ev l d M pc lv (.int y :: .int x :: r) h uc us rr := by
    intro base sa cy D p e s m args below meth cd H locs ls C hWd hz hS hL
    have C0 := C
    obtain ⟨hx, hb, hml, hret, hlocks, hts, hown, hnm, hbs, hK, hSx⟩ := C
    exact lv_icmp_gt hx hb hd ht (fun q => kt q base sa cy D p e s m args below meth cd H locs ls C0 hWd hz hS hL) (fun q => kf q base sa cy D p e s m args below meth cd H locs ls C0 hWd hz hS hL)
theorem Ev.icmp_le {x y : Int32} {off : Int} {r : List Value} {tgt : Nat} (hd : decode M.2.1 pc = .ok (.if_icmp .le off, 3)) (ht : (pc : Int) + off = (tgt : Int)) (kt : x ≤ y → Ev l d M tgt lv r h uc us rr) (kf : ¬ x ≤ y → Ev l d M (pc + 3) lv r h uc us rr) : Ev l d M pc lv (.int y :: .int x :: r) h uc us rr := by
    intro base sa cy D p e s m args below meth cd H locs ls C hWd hz hS hL
    have C0 := C
    obtain ⟨hx, hb, hml, hret, hlocks, hts, hown, hnm, hbs, hK, hSx⟩ := C
    exact lv_icmp_le hx hb hd ht (fun q => kt q base sa cy D p e s m args below meth cd H locs ls C0 hWd hz hS hL) (fun q => kf q base sa cy D p e s m args below meth cd H locs ls C0 hWd hz hS hL)
theorem Ev.goto {off : Int} {tgt : Nat} (hd : decode M.2.1 pc = .ok (.goto off, 3)) (ht : (pc : Int) + off = (tgt : Int)) (k : Ev l d M tgt lv st h uc us rr) : Ev l d M pc lv st h uc us rr := by
    intro base sa cy D p e s m args below meth cd H locs ls C hWd hz hS hL
    have C0 := C
    obtain ⟨hx, hb, hml, hret, hlocks, hts, hown, hnm, hbs, hK, hSx⟩ := C
    exact lv_goto hx hb hd ht (k base sa cy D p e s m args below meth cd H locs ls C0 hWd hz hS hL)
theorem Ev.ifnull {off : Int} {a : Nat} {r : List Value} (hd : decode M.2.1 pc = .ok (.ifnull off, 3)) (k : Ev l d M (pc + 3) lv r h uc us rr) : Ev l d M pc lv (.ref a :: r) h uc us rr := by
    intro base sa cy D p e s m args below meth cd H locs ls C hWd hz hS hL
    have C0 := C
    obtain ⟨hx, hb, hml, hret, hlocks, hts, hown, hnm, hbs, hK, hSx⟩ := C
    exact lv_ifnull hx hb hd (k base sa cy D p e s m args below meth cd H locs ls C0 hWd hz hS hL)
theorem Ev.aconst_null (hd : decode M.2.1 pc = .ok (.aconst_null, 1)) (k : Ev l d M (pc + 1) lv (.null :: st) h uc us rr) : Ev l d M pc lv st h uc us rr := by
    intro base sa cy D p e s m args below meth cd H locs ls C hWd hz hS hL
    have C0 := C
    obtain ⟨hx, hb, hml, hret, hlocks, hts, hown, hnm, hbs, hK, hSx⟩ := C
    exact lv_null hx hb hd (k base sa cy D p e s m args below meth cd H locs ls C0 hWd hz hS hL)
/-- a switch: where it goes -/
theorem Ev.tswitch {dflt lo hi : Int} {offs : Array Int} {len : Nat} {x : Int32} {r : List Value} (hd : decode M.2.1 pc = .ok (.tableswitch dflt lo hi offs, len)) {tgt : Nat} (ht : (pc : Int) + (if x.toInt < lo ∨ hi < x.toInt then dflt else offs.getD (x.toInt - lo).toNat 0) = (tgt : Int)) (hsz : offs.size = (hi - lo + 1).toNat)
    (k : Ev l d M tgt lv r h uc us rr) : Ev l d M pc lv (.int x :: r) h uc us rr := by
    intro base sa cy D p e s m args below meth cd H locs ls C hWd hz hS hL
    have C0 := C
    obtain ⟨hx, hb, hml, hret, hlocks, hts, hown, hnm, hbs, hK, hSx⟩ := C
    by_cases hc : x.toInt < lo ∨ hi < x.toInt
    · rw [if_pos hc] at ht
      exact lv_tableOut hx hb hd hc ht (k base sa cy D p e s m args below meth cd H locs ls C0 hWd hz hS hL)
    · rw [if_neg hc] at ht
      have hi : (x.toInt - lo).toNat < offs.size := by omega
      refine lv_tableIn hx hb hd (fun q => hc (Or.inl q)) (fun q => hc (Or.inr q)) (off := offs.getD (x.toInt - lo).toNat 0) ?_ ht (k base sa cy D p e s m args below meth cd H locs ls C0 hWd hz hS hL)
      rw [Array.getD_eq_getD_getElem?, Array.getElem?_eq_getElem hi]
      rfl
theorem Ev.lswitch {dflt : Int} {ps : Array (Int × Int)} {len : Nat} {x : Int32} {r : List Value} (hd : decode M.2.1 pc = .ok (.lookupswitch dflt ps, len)) (hp : (ps.toList.zip (ps.toList.drop 1)).all (fun (a, next) => a.1 < next.1) = true) {tgt : Nat} (ht : (pc : Int) + Op.lookupswitch.offset ps.toList dflt x.toInt = (tgt : Int))
    (k : Ev l d M tgt lv r h uc us rr) : Ev l d M pc lv (.int x :: r) h uc us rr := by
    intro base sa cy D p e s m args below meth cd H locs ls C hWd hz hS hL
    have C0 := C
    obtain ⟨hx, hb, hml, hret, hlocks, hts, hown, hnm, hbs, hK, hSx⟩ := C
    exact lv_lookup hx hb hd hp rfl ht (k base sa cy D p e s m args below meth cd H locs ls C0 hWd hz hS hL)
end ROWS
