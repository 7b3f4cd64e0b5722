/-! THE SMALL MACHINE: a heap of numbered cells (an object or a row by its number, from 'base' on in the order in which they are made), locals as a list, and the judgement Ev over it. -/
/-- how many cells; of each its kind (below 11 a class of vwCl; 11 bytes, 12 chars, 13 ints, 14 longs) and length; ints (fields and elements), longs, references -/
abbrev SH : Type := Nat × (Nat → Nat × Nat) × (Nat → Nat → Int32) × (Nat → Nat → Int64) × (Nat → Nat → Option Nat)
abbrev LV : Type := List (Option Value)
/-- a method: name, code, locals, what it returns, its class' number, cells and slots that it makes -/
abbrev MI : Type := MethodName × ByteArray × Nat × Option FieldType × Nat × Nat × Nat
def sm_mv (base : Nat) (sa : Nat → Nat) (v : Value) : Value := match v with
  | .ref a => .ref (if a < 1000000 then base + a else sa (a - 1000000))
  | w => w
def sm_rf (r : Option Nat) : Value := match r with
  | none => .null
  | some a => .ref a
def sm_up {α : Type} (f : Nat → Nat → α) (o k : Nat) (x : α) : Nat → Nat → α := fun a b => if a = o then (if b = k then x else f a b) else f a b
def sm_I (h : SH) (o k : Nat) (x : Int32) : SH := (h.1, h.2.1, sm_up h.2.2.1 o k x, h.2.2.2.1, h.2.2.2.2)
def sm_J (h : SH) (o k : Nat) (x : Int64) : SH := (h.1, h.2.1, h.2.2.1, sm_up h.2.2.2.1 o k x, h.2.2.2.2)
def sm_R (h : SH) (o k : Nat) (x : Option Nat) : SH := (h.1, h.2.1, h.2.2.1, h.2.2.2.1, sm_up h.2.2.2.2 o k x)
def sm_TC (c : Nat) : u_T := match c with
  | 0 => TX0
  | 1 => TX1
  | 2 => TX2
  | 3 => TX3
  | 4 => TX4
  | 5 => TX5
  | 6 => TX6
  | 7 => TX7
  | 8 => TX8
  | 9 => TX9
  | _ => TX10
def sm_ty (c : Nat) : Nat → FieldType := match c with
  | 0 => tyX0
  | 1 => tyX1
  | 2 => tyX2
  | 3 => tyX3
  | 4 => tyX4
  | 5 => tyX5
  | 6 => tyX6
  | 7 => tyX7
  | 8 => tyX8
  | 9 => tyX9
  | _ => tyX10
def sm_nC (c : Nat) : Nat := match c with
  | 0 => 4
  | 1 => 3
  | 2 => 2
  | 3 => 14
  | 4 => 20
  | 5 => 7
  | 6 => 4
  | 7 => 2
  | 8 => 2
  | 9 => 20
  | _ => 122
def sm_RC (c : Nat) : String := match c with
  | 0 => RX0
  | 1 => RX1
  | 2 => RX2
  | 3 => RX3
  | 4 => RX4
  | 5 => RX5
  | 6 => RX6
  | 7 => RX7
  | 8 => RX8
  | 9 => RX9
  | 10 => RX10
  | 11 => RJ6
  | 12 => RJ9
  | 13 => RJ7
  | 14 => RJ0
  | 15 => RJ1
  | 16 => RJ3
  | _ => RL
/-- what a field holds -/
def sm_fu (h : SH) (o c k : Nat) : Value := match sm_ty c k with
  | .long => .long (h.2.2.2.1 o k)
  | .object _ => sm_rf (h.2.2.2.2 o k)
  | .array _ => sm_rf (h.2.2.2.2 o k)
  | _ => .int (h.2.2.1 o k)
def sm_ce (base : Nat) (sa : Nat → Nat) (cy : Nat → ClassId) (h : SH) (o : Nat) : va_E :=
  if (h.2.1 o).1 < 11 then .inr ((h.2.1 o).1, (List.range (sm_nC (h.2.1 o).1)).map (fun k => sm_mv base sa (sm_fu h o (h.2.1 o).1 k)))
  else if (h.2.1 o).1 = 14 then .inl (cy 14, (h.2.1 o).2, .inr (.inl (h.2.2.2.1 o)))
  else .inl (cy (h.2.1 o).1, (h.2.1 o).2, .inl (h.2.2.1 o))
def sm_ws (base : Nat) (sa : Nat → Nat) (cy : Nat → ClassId) (h : SH) : va_W := (List.range h.1).map (fun o => (base + o, sm_ce base sa cy h o))
abbrev sm_A (base : Nat) : Nat → Prop := fun q => base ≤ q
abbrev sm_tys (cy : Nat → ClassId) : List (ClassId × FieldType) := [(cy 11, .byte), (cy 12, .char), (cy 13, .int), (cy 14, .long)]
def sm_Wd (base : Nat) (sa : Nat → Nat) (cy : Nat → ClassId) (D : va_G) (h : SH) (H : Heap) : Prop := h.1 ≤ 1000000 ∧ va_P D vwCl (sm_ws base sa cy h) H
theorem sm_ws_at {base : Nat} {sa : Nat → Nat} {cy : Nat → ClassId} {h : SH} {o : Nat} (ho : o < h.1) : (sm_ws base sa cy h)[o]? = some (base + o, sm_ce base sa cy h o) := by
  simp [sm_ws, ho]
theorem sm_ws_in {base : Nat} {sa : Nat → Nat} {cy : Nat → ClassId} {h : SH} {o : Nat} {q : Nat × va_E} (ho : (sm_ws base sa cy h)[o]? = some q) : o < h.1 ∧ q = (base + o, sm_ce base sa cy h o) := by
  have hl : o < h.1 := by
    have := (List.getElem?_eq_some_iff.mp ho).1
    simpa [sm_ws] using this
  rw [sm_ws_at hl] at ho
  exact ⟨hl, (Option.some.inj ho).symm⟩
theorem sm_D (base : Nat) (sa : Nat → Nat) (cy : Nat → ClassId) (h : SH) : va_D (sm_A base) (sm_ws base sa cy h) := by
  refine ⟨fun i j p q hi hj e => ?_, fun k q hk => ?_⟩
  · obtain ⟨-, rfl⟩ := sm_ws_in hi
    obtain ⟨-, rfl⟩ := sm_ws_in hj
    have e : base + i = base + j := e
    omega
  · obtain ⟨-, rfl⟩ := sm_ws_in hk
    exact Nat.le_add_right _ _
/-- one cell of the world is another, all else as it was -/
theorem sm_ws_set {base : Nat} {sa : Nat → Nat} {cy : Nat → ClassId} {h h' : SH} {o : Nat} {e : va_E} (ho : o < h.1) (hn : h'.1 = h.1) (he : sm_ce base sa cy h' o = e) (hx : ∀ q, q ≠ o → sm_ce base sa cy h' q = sm_ce base sa cy h q) :
    (sm_ws base sa cy h).set o (base + o, e) = sm_ws base sa cy h' := by
  apply List.ext_getElem?
  intro k
  by_cases hk : k = o
  · subst hk
    rw [List.getElem?_set_self (by simpa [sm_ws] using ho), sm_ws_at (by rw [hn]; exact ho), he]
  · rw [List.getElem?_set_ne (fun z => hk z.symm)]
    by_cases hl : k < h.1
    · rw [sm_ws_at hl, sm_ws_at (by rw [hn]; exact hl), hx k hk]
    · rw [List.getElem?_eq_none (by simpa [sm_ws] using hl), List.getElem?_eq_none (by simp only [sm_ws, List.length_map, List.length_range, hn]; omega)]
theorem sm_fs_set {N k : Nat} {f g : Nat → Value} (hx : ∀ j, j ≠ k → g j = f j) : ((List.range N).map f).set k (g k) = (List.range N).map g := by
  apply List.ext_getElem?
  intro j
  by_cases hj : j = k
  · subst hj
    by_cases hl : j < N
    · rw [List.getElem?_set_self (by simpa using hl)]
      simp [hl]
    · rw [List.getElem?_eq_none (by simpa using hl), List.getElem?_eq_none (by simpa using hl)]
  · rw [List.getElem?_set_ne (fun z => hj z.symm)]
    by_cases hl : j < N
    · simp [hl, hx j hj]
    · rw [List.getElem?_eq_none (by simpa using hl), List.getElem?_eq_none (by simpa using hl)]
theorem sm_up_other {α : Type} {f : Nat → Nat → α} {o k : Nat} {x : α} {q : Nat} (h : q ≠ o) : sm_up f o k x q = f q := by
  funext b
  simp [sm_up, h]
theorem sm_up_self {α : Type} {f : Nat → Nat → α} {o k : Nat} {x : α} : sm_up f o k x o = fun b => if b = k then x else f o b := by
  funext b
  simp [sm_up]
theorem sm_cat (base : Nat) (sa : Nat → Nat) (v : Value) : (sm_mv base sa v).category = v.category := by cases v <;> rfl
theorem sm_cats (base : Nat) (sa : Nat → Nat) (l : List Value) : ((l.map (sm_mv base sa)).map fun v => v.category) = l.map fun v => v.category := by
  rw [List.map_map]
  exact List.map_congr_left (fun v _ => sm_cat base sa v)
/-! locals -/
def sm_kl (base : Nat) (sa : Nat → Nat) (lv : LV) : List (Nat × Value) := (List.range lv.length).filterMap (fun i => match lv[i]? with
  | some (some v) => some (i, sm_mv base sa v)
  | _ => none)
theorem sm_kl_mem {base : Nat} {sa : Nat → Nat} {lv : LV} {q : Nat × Value} : q ∈ sm_kl base sa lv ↔ ∃ v, lv[q.1]? = some (some v) ∧ q.2 = sm_mv base sa v := by
  unfold sm_kl
  rw [List.mem_filterMap]
  constructor
  · rintro ⟨i, -, hi⟩
    split at hi
    · rename_i v hv
      cases hi
      exact ⟨v, hv, rfl⟩
    · cases hi
  · rintro ⟨v, hv, hq⟩
    refine ⟨q.1, List.mem_range.mpr (List.getElem?_eq_some_iff.mp hv).1, ?_⟩
    rw [hv]
    show some (q.1, sm_mv base sa v) = some q
    rw [← hq]
def sm_Lh (base : Nat) (sa : Nat → Nat) (ls : Array Slot) (nL : Nat) (lv : LV) : Prop := lv.length = nL ∧ lv_has ls nL (sm_kl base sa lv)
theorem sm_Lh.get {base : Nat} {sa : Nat → Nat} {ls : Array Slot} {nL : Nat} {lv : LV} (h : sm_Lh base sa ls nL lv) {i : Nat} {v : Value} (hi : lv[i]? = some (some v)) : ls[i]? = some (.val (sm_mv base sa v)) :=
  h.2.2.2 (i, sm_mv base sa v) (sm_kl_mem.mpr ⟨v, hi, rfl⟩)
/-- a store of one word -/
def sm_s1 (lv : LV) (i : Nat) (v : Value) : LV := (match i with
  | 0 => lv
  | j + 1 => match lv[j]? with
    | some (some (.long _)) => lv.set j none
    | some (some (.double _)) => lv.set j none
    | _ => lv).set i (some v)
/-- a store of two words -/
def sm_s2 (lv : LV) (i : Nat) (v : Value) : LV := (sm_s1 lv i v).set (i + 1) none
theorem sm_s1_len (lv : LV) (i : Nat) (v : Value) : (sm_s1 lv i v).length = lv.length := by
  unfold sm_s1
  split
  · simp
  · split <;> simp
theorem sm_s1_at {lv : LV} {i j : Nat} {v w : Value} (hij : j ≠ i) (h : (sm_s1 lv i v)[j]? = some (some w)) : lv[j]? = some (some w) ∧ ¬ (j + 1 = i ∧ w.category = 2) := by
  unfold sm_s1 at h
  rw [List.getElem?_set_ne (fun z => hij z.symm)] at h
  split at h
  · exact ⟨h, by omega⟩
  · rename_i k
    split at h
    · by_cases hk : j = k
      · subst hk
        rw [List.getElem?_set] at h
        split at h <;> simp_all
      · rw [List.getElem?_set_ne (fun z => hk z.symm)] at h
        exact ⟨h, by omega⟩
    · by_cases hk : j = k
      · subst hk
        rw [List.getElem?_set] at h
        split at h <;> simp_all
      · rw [List.getElem?_set_ne (fun z => hk z.symm)] at h
        exact ⟨h, by omega⟩
    · rename_i h1 h2
      refine ⟨h, fun ⟨e, hc⟩ => ?_⟩
      have e : j = k := by omega
      subst e
      cases w <;> simp [Value.category] at hc
      · exact h1 _ h
      · exact h2 _ h
theorem sm_Lh.s1 {base : Nat} {sa : Nat → Nat} {ls' : Array Slot} {nL : Nat} {lv : LV} {i : Nat} {v : Value} (hlen : lv.length = nL) (h : lv_has ls' nL ((i, sm_mv base sa v) :: (sm_kl base sa lv).filter (fun q => !(q.1 == i) && !(q.1 + 1 == i && q.2.category == 2)))) : sm_Lh base sa ls' nL (sm_s1 lv i v) := by
  refine ⟨by rw [sm_s1_len]; exact hlen, h.1, h.2.1, fun q hq => h.2.2 q ?_⟩
  obtain ⟨w, hw, e⟩ := sm_kl_mem.mp hq
  by_cases hi : q.1 = i
  · have : w = v := by
      rw [hi] at hw
      unfold sm_s1 at hw
      rw [List.getElem?_set] at hw
      split at hw
      · split at hw <;> simp_all
      · exact absurd rfl ‹_›
    subst this
    exact List.mem_cons.mpr (Or.inl (by rw [← hi, ← e]))
  · obtain ⟨h1, h2⟩ := sm_s1_at hi hw
    refine List.mem_cons_of_mem _ (List.mem_filter.mpr ⟨sm_kl_mem.mpr ⟨w, h1, e⟩, ?_⟩)
    rw [e, sm_cat]
    simp only [Bool.and_eq_true, Bool.not_eq_true', beq_eq_false_iff_ne, ne_eq, Bool.and_eq_false_iff]
    refine ⟨hi, ?_⟩
    by_cases hc : q.1 + 1 = i
    · exact Or.inr (fun z => h2 ⟨hc, z⟩)
    · exact Or.inl hc
theorem sm_Lh.s2 {base : Nat} {sa : Nat → Nat} {ls' : Array Slot} {nL : Nat} {lv : LV} {i : Nat} {v : Value} (hlen : lv.length = nL) (h : lv_has ls' nL ((i, sm_mv base sa v) :: (sm_kl base sa lv).filter (fun q => !(q.1 == i) && (!(q.1 == i + 1) && !(q.1 + 1 == i && q.2.category == 2))))) : sm_Lh base sa ls' nL (sm_s2 lv i v) := by
  refine ⟨by rw [sm_s2, List.length_set, sm_s1_len]; exact hlen, h.1, h.2.1, fun q hq => h.2.2 q ?_⟩
  obtain ⟨w, hw, e⟩ := sm_kl_mem.mp hq
  have hne : q.1 ≠ i + 1 := fun z => by
    rw [z, sm_s2, List.getElem?_set] at hw
    split at hw
    · split at hw <;> simp at hw
    · exact absurd rfl ‹_›
  rw [sm_s2, List.getElem?_set_ne (fun z => hne z.symm)] at hw
  by_cases hi : q.1 = i
  · have : w = v := by
      rw [hi] at hw
      unfold sm_s1 at hw
      rw [List.getElem?_set] at hw
      split at hw
      · split at hw <;> simp_all
      · exact absurd rfl ‹_›
    subst this
    exact List.mem_cons.mpr (Or.inl (by rw [← hi, ← e]))
  · obtain ⟨h1, h2⟩ := sm_s1_at hi hw
    refine List.mem_cons_of_mem _ (List.mem_filter.mpr ⟨sm_kl_mem.mpr ⟨w, h1, e⟩, ?_⟩)
    rw [e, sm_cat]
    simp only [Bool.and_eq_true, Bool.not_eq_true', beq_eq_false_iff_ne, ne_eq, Bool.and_eq_false_iff]
    refine ⟨hi, hne, ?_⟩
    by_cases hc : q.1 + 1 = i
    · exact Or.inr (fun z => h2 ⟨hc, z⟩)
    · exact Or.inl hc
