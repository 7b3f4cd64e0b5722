/-! CELLS: the rules of fields and rows -/
theorem sm_obj {base : Nat} {sa : Nat → Nat} {cy : Nat → ClassId} {h : SH} {o c : Nat} (ho : o < h.1) (hk : (h.2.1 o).1 = c) (hc : c < 11) : (sm_ws base sa cy h)[o]? = some (base + o, .inr (c, (List.range (sm_nC c)).map (fun k => sm_mv base sa (sm_fu h o c k)))) := by
  rw [sm_ws_at ho]
  unfold sm_ce
  rw [hk, if_pos hc]
theorem sm_row {base : Nat} {sa : Nat → Nat} {cy : Nat → ClassId} {h : SH} {o c : Nat} (ho : o < h.1) (hk : (h.2.1 o).1 = c) (hc : 11 ≤ c) (h14 : c ≠ 14) : (sm_ws base sa cy h)[o]? = some (base + o, .inl (cy c, (h.2.1 o).2, .inl (h.2.2.1 o))) := by
  rw [sm_ws_at ho]
  unfold sm_ce
  rw [hk, if_neg (by omega), if_neg h14]
theorem sm_rowL {base : Nat} {sa : Nat → Nat} {cy : Nat → ClassId} {h : SH} {o : Nat} (ho : o < h.1) (hk : (h.2.1 o).1 = 14) : (sm_ws base sa cy h)[o]? = some (base + o, .inl (cy 14, (h.2.1 o).2, .inr (.inl (h.2.2.2.1 o)))) := by
  rw [sm_ws_at ho]
  unfold sm_ce
  rw [hk, if_neg (by omega), if_pos rfl]
theorem sm_mvr {base : Nat} {sa : Nat → Nat} {o n : Nat} (h : n ≤ 1000000) (ho : o < n) : sm_mv base sa (.ref o) = .ref (base + o) := by
  show Value.ref (if o < 1000000 then base + o else sa (o - 1000000)) = _
  rw [if_pos (by omega)]
/-- a field's link: the class' own number, the place in the pool, the class and the field -/
def sm_fl (own idx c k : Nat) : Prop := (c < 11 ∧ k < sm_nC c) ∧ Cond.fieldLink (sm_RC own) idx (sm_TC c k).1 (sm_TC c k).2.1 (sm_TC c k).2.2.1 ∈ sm_Tg
section CELLS
variable {l : Launch} {d : Nat} {M : MI} {pc : Nat} {lv : LV} {st : List Value} {h : SH} {uc us : Nat} {rr : Option Value × SH} {Q : LV → List Value → SH → Prop}
theorem Ev.getfield {idx c k : Nat} (hl : sm_fl M.2.2.2.2.1 idx c k) (hd : decode M.2.1 pc = .ok (.getfield idx, 3)) (hs : sx_getfield c k lv st h Q) (kk : ∀ lv' st' h', Q lv' st' h' → Ev l d M (pc + 3) lv' st' h' uc us rr) : Ev l d M pc lv st h uc us rr := by
  unfold sx_getfield at hs
  split at hs
  · rename_i o r
    obtain ⟨⟨ho, hk⟩, hs⟩ := hs
    obtain ⟨⟨hc, hn⟩, hw⟩ := hl
    intro base sa cy D p e s m args below meth cd H locs ls C hWd hz hS hL
    have C0 := C
    obtain ⟨hx, hb, hml, hret, hlocks, hts, hown, hnm, hbs, hK, hSx⟩ := C
    have go : ∀ v : Value, sm_fu h o c k = v → Ev l d M (pc + 3) lv (v :: r) h uc us rr → W p l e (sm_rm d M) s m args below meth cd H locs uc us (MQ below (sm_Q base sa cy D rr) args s M.2.2.2.2.2.1 M.2.2.2.2.2.2 (sm_A base)) (F0 m pc ls ((Value.ref o :: r).map (sm_mv base sa))) := by
      intro v hv hE
      rw [List.map_cons, sm_mvr hWd.1 ho]
      refine va_get (v := sm_mv base sa v) hx hb hts (sm_lay hc) hown hK hWd.2 o (sm_obj ho hk hc) (sm_cl hc) k hn (hts _ hw) (fun _ h9 => h9) ?_ hd (hE base sa cy D p e s m args below meth cd H locs ls C0 hWd hz hS hL)
      rw [List.getElem?_map, List.getElem?_range hn, ← hv]
      rfl
    split at hs
    · rename_i ht
      exact go _ (by unfold sm_fu; rw [ht]) (kk _ _ _ hs)
    · rename_i ht
      obtain ⟨a, ha, hs⟩ := hs
      exact go (.ref a) (by unfold sm_fu; rw [ht, ha]; rfl) (kk _ _ _ hs)
    · rename_i ht
      obtain ⟨a, ha, hs⟩ := hs
      exact go (.ref a) (by unfold sm_fu; rw [ht, ha]; rfl) (kk _ _ _ hs)
    · rename_i h1 h2 h3
      refine go _ ?_ (kk _ _ _ hs)
      unfold sm_fu
      split
      · exact absurd ‹_› h1
      · exact absurd ‹_› (h2 _)
      · exact absurd ‹_› (h3 _)
      · rfl
  · exact hs.elim
/-- a field is another, all else as it was -/
theorem sm_ws_fld {base : Nat} {sa : Nat → Nat} {cy : Nat → ClassId} {h h' : SH} {o c k : Nat} {v : Value} (ho : o < h.1) (hk : (h.2.1 o).1 = c) (hc : c < 11) (e1 : h'.1 = h.1) (e2 : h'.2.1 = h.2.1) (ev : sm_fu h' o c k = v) (ej : ∀ j, j ≠ k → sm_fu h' o c j = sm_fu h o c j)
    (hI : ∀ q, q ≠ o → h'.2.2.1 q = h.2.2.1 q) (hJ : ∀ q, q ≠ o → h'.2.2.2.1 q = h.2.2.2.1 q) (hR : ∀ q, q ≠ o → h'.2.2.2.2 q = h.2.2.2.2 q) :
    (sm_ws base sa cy h).set o (base + o, .inr (c, ((List.range (sm_nC c)).map (fun k => sm_mv base sa (sm_fu h o c k))).set k (sm_mv base sa v))) = sm_ws base sa cy h' := by
  refine sm_ws_set ho e1 ?_ (fun q hq => ?_)
  · unfold sm_ce
    rw [e2, hk, if_pos hc, ← ev]
    exact congrArg (fun z => Sum.inr (c, z)) (sm_fs_set (g := fun k => sm_mv base sa (sm_fu h' o c k)) (fun j hj => by rw [ej j hj])).symm
  · have ef : ∀ c k, sm_fu h' q c k = sm_fu h q c k := fun c k => by unfold sm_fu; rw [hI q hq, hJ q hq, hR q hq]
    unfold sm_ce
    rw [e2, hI q hq, hJ q hq]
    simp only [ef]
theorem Ev.putfield {idx c k : Nat} (hl : sm_fl M.2.2.2.2.1 idx c k) (hf : (sm_TC c k).2.2.2 = false ∨ ((sm_TC c k).2.2.2 = true ∧ M.1.name = "<init>" ∧ (sm_TC c k).1 = sm_RC M.2.2.2.2.1)) (hd : decode M.2.1 pc = .ok (.putfield idx, 3)) (hs : sx_putfield c k lv st h Q) (kk : ∀ lv' st' h', Q lv' st' h' → Ev l d M (pc + 3) lv' st' h' uc us rr) : Ev l d M pc lv st h uc us rr := by
  obtain ⟨⟨hc, hn⟩, hw⟩ := hl
  have go : ∀ (o : Nat) (r : List Value) (v : Value) (h' : SH) (ty : FieldType), (o < h.1 ∧ (h.2.1 o).1 = c) → sm_ty c k = ty → (∀ base sa, narrow ty (sm_mv base sa v) = sm_mv base sa v) → (∀ base sa, fits ty (sm_mv base sa v) = true) → h'.1 = h.1 → h'.2.1 = h.2.1 → sm_fu h' o c k = v → (∀ j, j ≠ k → sm_fu h' o c j = sm_fu h o c j) →
      (∀ q, q ≠ o → h'.2.2.1 q = h.2.2.1 q) → (∀ q, q ≠ o → h'.2.2.2.1 q = h.2.2.2.1 q) → (∀ q, q ≠ o → h'.2.2.2.2 q = h.2.2.2.2 q) → Ev l d M (pc + 3) lv r h' uc us rr → Ev l d M pc lv (v :: .ref o :: r) h uc us rr := by
    intro o r v h' ty ⟨ho, hk⟩ hty hnar hfit e1 e2 ev ej hI hJ hR hE base sa cy D p e s m args below meth cd H locs ls C hWd hz hS hL
    have C0 := C
    obtain ⟨hx, hb, hml, hret, hlocks, hts, hown, hnm, hbs, hK, hSx⟩ := C
    rw [List.map_cons, List.map_cons, sm_mvr hWd.1 ho]
    have hlen : k < ((List.range (sm_nC c)).map (fun k => sm_mv base sa (sm_fu h o c k))).length := by simpa using hn
    have hws := sm_ws_fld (base := base) (sa := sa) (cy := cy) ho hk hc e1 e2 ev ej hI hJ hR
    have hpd : parseFieldDescriptor (sm_TC c k).2.2.1 = some ty := by rw [← hty]; exact sm_tyok hc k hn
    have fin : ∀ (H1 : Heap) (locs1 : List Loc), va_P D vwCl ((sm_ws base sa cy h).set o (base + o, .inr (c, ((List.range (sm_nC c)).map (fun k => sm_mv base sa (sm_fu h o c k))).set k (sm_mv base sa v)))) H1 → va_S (sm_A base) s.heap H1 locs1 →
        W p l e (sm_rm d M) s m args below meth cd H1 locs1 uc us (MQ below (sm_Q base sa cy D rr) args s M.2.2.2.2.2.1 M.2.2.2.2.2.2 (sm_A base)) (F0 m (pc + 3) ls (r.map (sm_mv base sa))) := by
      intro H1 locs1 hP1 hS1
      rw [hws] at hP1
      exact hE base sa cy D p e s m args below meth cd H1 locs1 ls C0 ⟨by rw [e1]; exact hWd.1, hP1⟩ (by rw [e1]; exact hz) hS1 hL
    rcases hf with hf | ⟨hf, hi, hdc⟩
    · exact va_put hx hb hts (sm_lay hc) (sm_ty c) (sm_tyok hc) (sm_nm hc) hown hK hWd.2 (sm_D base sa cy h) hS o (sm_obj ho hk hc) (sm_cl hc) k hn (hts _ hw) (fun _ h9 => h9) hf hpd (hnar base sa) (hfit base sa) hlen hd (fun H1 locs1 hP1 _ hS1 => fin H1 locs1 hP1 hS1)
    · exact va_putF hx hb hts (sm_lay hc) (sm_ty c) (sm_tyok hc) (sm_nm hc) hown hK hWd.2 (sm_D base sa cy h) hS o (sm_obj ho hk hc) (sm_cl hc) k hn (hts _ hw) (fun _ h9 => h9) hf (hnm.trans hi) hdc hpd (hnar base sa) (hfit base sa) hlen hd (fun H1 locs1 hP1 _ hS1 => fin H1 locs1 hP1 hS1)
  have upI : ∀ (o j : Nat) (x : Int32), j ≠ k → sm_fu (sm_I h o k x) o c j = sm_fu h o c j := by
    intro o j x hj
    unfold sm_fu sm_I
    simp only [sm_up_self, if_neg hj]
  have upJ : ∀ (o j : Nat) (x : Int64), j ≠ k → sm_fu (sm_J h o k x) o c j = sm_fu h o c j := by
    intro o j x hj
    unfold sm_fu sm_J
    simp only [sm_up_self, if_neg hj]
  have upR : ∀ (o j : Nat) (x : Option Nat), j ≠ k → sm_fu (sm_R h o k x) o c j = sm_fu h o c j := by
    intro o j x hj
    unfold sm_fu sm_R
    simp only [sm_up_self, if_neg hj]
  have oI : ∀ (o q : Nat) (x : Int32), q ≠ o → (sm_I h o k x).2.2.1 q = h.2.2.1 q := fun o q x hq => sm_up_other hq
  have oJ : ∀ (o q : Nat) (x : Int64), q ≠ o → (sm_J h o k x).2.2.2.1 q = h.2.2.2.1 q := fun o q x hq => sm_up_other hq
  have oR : ∀ (o q : Nat) (x : Option Nat), q ≠ o → (sm_R h o k x).2.2.2.2 q = h.2.2.2.2 q := fun o q x hq => sm_up_other hq
  unfold sx_putfield at hs
  split at hs
  · rename_i x o r
    obtain ⟨hok, hs⟩ := hs
    split at hs
    · rename_i ht
      exact go o r _ (sm_I h o k x) _ hok ht (fun _ _ => rfl) (fun _ _ => rfl) rfl rfl (by unfold sm_fu sm_I; rw [ht]; simp [sm_up_self]) (fun j hj => upI o j x hj) (fun q hq => oI o q x hq) (fun _ _ => rfl) (fun _ _ => rfl) (kk _ _ _ hs)
    · rename_i ht
      obtain ⟨hx01, hs⟩ := hs
      refine go o r _ (sm_I h o k x) _ hok ht (fun _ _ => ?_) (fun _ _ => ?_) rfl rfl (by unfold sm_fu sm_I; rw [ht]; simp [sm_up_self]) (fun j hj => upI o j x hj) (fun q hq => oI o q x hq) (fun _ _ => rfl) (fun _ _ => rfl) (kk _ _ _ hs)
      · rcases hx01 with rfl | rfl <;> rfl
      · rcases hx01 with rfl | rfl <;> rfl
    · exact hs.elim
  · rename_i x o r
    obtain ⟨hok, hs⟩ := hs
    split at hs
    · rename_i ht
      exact go o r _ (sm_J h o k x) _ hok ht (fun _ _ => rfl) (fun _ _ => rfl) rfl rfl (by unfold sm_fu sm_J; rw [ht]; simp [sm_up_self]) (fun j hj => upJ o j x hj) (fun _ _ => rfl) (fun q hq => oJ o q x hq) (fun _ _ => rfl) (kk _ _ _ hs)
    · exact hs.elim
  · rename_i a o r
    obtain ⟨hok, hs⟩ := hs
    split at hs
    · rename_i ht
      exact go o r _ (sm_R h o k (some a)) _ hok ht (fun _ _ => rfl) (fun _ _ => rfl) rfl rfl (by unfold sm_fu sm_R; rw [ht]; simp [sm_up_self, sm_rf]) (fun j hj => upR o j _ hj) (fun _ _ => rfl) (fun _ _ => rfl) (fun q hq => oR o q _ hq) (kk _ _ _ hs)
    · rename_i ht
      exact go o r _ (sm_R h o k (some a)) _ hok ht (fun _ _ => rfl) (fun _ _ => rfl) rfl rfl (by unfold sm_fu sm_R; rw [ht]; simp [sm_up_self, sm_rf]) (fun j hj => upR o j _ hj) (fun _ _ => rfl) (fun _ _ => rfl) (fun q hq => oR o q _ hq) (kk _ _ _ hs)
    · exact hs.elim
  · rename_i o r
    obtain ⟨hok, hs⟩ := hs
    split at hs
    · rename_i ht
      exact go o r _ (sm_R h o k none) _ hok ht (fun _ _ => rfl) (fun _ _ => rfl) rfl rfl (by unfold sm_fu sm_R; rw [ht]; simp [sm_up_self, sm_rf]) (fun j hj => upR o j _ hj) (fun _ _ => rfl) (fun _ _ => rfl) (fun q hq => oR o q _ hq) (kk _ _ _ hs)
    · exact hs.elim
  · exact hs.elim
end CELLS
