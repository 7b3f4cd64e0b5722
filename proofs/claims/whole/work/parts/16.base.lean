/-! L2: the state of the program's cells, and what the functions are made of -/
def K0l : List (Nat × Nat) := [(9, 0), (7, 0), (11, 1600), (5, 0), (8, 0), (1, 0), (4, 0), (13, 2), (13, 5), (13, 5), (13, 5), (13, 5), (13, 8), (13, 8), (13, 8), (13, 6), (13, 6), (13, 19), (2, 0), (13, 1600), (4, 0), (13, 2), (13, 5), (13, 5), (13, 5), (13, 5), (13, 8), (13, 8), (13, 8), (13, 6), (13, 6), (13, 19), (2, 0), (13, 1600), (2, 0), (13, 1600), (3, 0), (13, 2), (13, 8), (13, 6), (13, 25), (13, 2), (6, 0), (13, 33), (13, 6), (13, 64), (3, 0), (13, 2), (13, 8), (13, 6), (13, 25), (13, 2), (6, 0), (13, 33), (13, 6), (13, 64), (0, 0), (13, 999), (13, 340), (13, 16), (13, 16), (13, 6), (13, 32), (13, 8), (13, 25), (10, 0), (13, 1600), (13, 6), (12, 5), (12, 2), (12, 5), (12, 5), (12, 4), (12, 4), (12, 5), (12, 5), (12, 5), (12, 3), (12, 2), (12, 2), (12, 2), (12, 5), (12, 5), (12, 4), (12, 5), (12, 6), (12, 5), (12, 5), (12, 3), (12, 3), (12, 6), (12, 6), (12, 3), (12, 4), (12, 5), (12, 2), (12, 3), (12, 3), (12, 3), (12, 3), (12, 3), (13, 6), (14, 48), (13, 8), (13, 40), (13, 32), (13, 16), (13, 36), (13, 4), (13, 2), (13, 2), (13, 3200), (13, 225), (13, 24), (13, 5), (13, 5), (13, 5), (13, 5), (13, 8), (14, 25), (13, 48), (13, 16), (13, 4500), (12, 5), (12, 4), (12, 5), (12, 5), (12, 4), (12, 5), (12, 3), (12, 3), (12, 2), (12, 3), (12, 3), (12, 3), (12, 5), (12, 5), (12, 3), (12, 3), (12, 6), (12, 6), (12, 3), (12, 4), (12, 5), (12, 5), (12, 5), (13, 1700), (13, 1700), (14, 1700), (13, 32)]
def K0 (o : Nat) : Nat × Nat := K0l.getD o (99, 0)
def R0r (o : Nat) : List (Option Nat) := match o with
  | 0 => [some 1, some 3, some 4, some 6, some 20, some 34, some 36, some 46, some 56, some 59, some 60, none, none, none, none, some 61, some 62, none, some 63, some 64]
  | 1 => [some 2, none]
  | 3 => [some 1, none, none, none, none, none, none]
  | 4 => [some 3, some 5]
  | 5 => [some 3, none, none]
  | 6 => [none, none, some 7, none, some 8, some 9, some 10, some 11, none, some 12, some 13, some 14, none, some 15, some 16, some 17, some 18, none, none, none]
  | 18 => [some 19, none]
  | 20 => [none, none, some 21, none, some 22, some 23, some 24, some 25, none, some 26, some 27, some 28, none, some 29, some 30, some 31, some 32, none, none, none]
  | 32 => [some 33, none]
  | 34 => [some 35, none]
  | 36 => [some 6, none, none, some 37, some 38, some 39, some 40, some 41, none, none, some 42, none, none, none]
  | 42 => [some 43, some 44, some 45, none]
  | 46 => [some 6, none, none, some 47, some 48, some 49, some 50, some 51, none, none, some 52, none, none, none]
  | 52 => [some 53, some 54, some 55, none]
  | 56 => [some 57, none, some 58, none]
  | 65 => [some 66, none, none, none, none, none, none, none, none, some 67, none, some 68, some 69, some 70, some 71, some 72, some 73, some 74, some 75, some 76, some 77, some 78, some 79, some 80, some 81, some 82, some 83, some 84, some 85, some 86, some 87, some 88, some 89, some 90, some 91, some 92, some 93, some 94, some 95, some 96, some 97, some 98, some 99, some 100, none, some 101, some 102, some 103, some 104, some 105, some 106, some 107, some 108, some 109, some 110, some 111, none, none, none, none, none, none, some 112, some 113, some 114, some 115, some 116, some 117, none, none, none, none, none, none, some 118, none, some 119, none, none, none, none, some 120, some 121, some 122, none, none, none, some 123, some 124, some 125, some 126, some 127, some 128, some 129, some 130, some 131, some 132, some 133, some 134, some 135, some 136, some 137, some 138, some 139, some 140, some 141, some 142, some 143, some 144, some 145, some 146, none, some 147, none, none, none, some 148, none, none, none, some 149, none]
  | _ => []
def R0 (o k : Nat) : Option Nat := (R0r o).getD k none
/-- the references that change: which of them -/
def slot (o k : Nat) : Nat := if k = 3 then (if o = 0 then 0 else 9) else if k = 4 then (if o = 0 then 1 else 9) else if k = 0 then (if o = 36 then 2 else if o = 46 then 3 else 9) else if k = 1 then (if o = 5 then 4 else 9) else 9
def RR (ρ : Nat → Option Nat) (o k : Nat) : Option Nat := if slot o k = 9 then R0 o k else ρ (slot o k)
abbrev ST : Type := (Nat → Nat → Int32) × (Nat → Nat → Int64) × (Nat → Option Nat)
abbrev hp (s : ST) : SH := (150, K0, s.1, s.2.1, RR s.2.2)
def uI (s : ST) (o k : Nat) (x : Int32) : ST := (sm_up s.1 o k x, s.2.1, s.2.2)
def uJ (s : ST) (o k : Nat) (x : Int64) : ST := (s.1, sm_up s.2.1 o k x, s.2.2)
def uR (s : ST) (o k a : Nat) : ST := (s.1, s.2.1, fun j => if j = slot o k then some a else s.2.2 j)
def cp (s : ST) (a0 a sp dp n : Nat) : ST := (fun o k => if o = a then va_cpy (s.1 a0) (s.1 a) sp dp n k else s.1 o k, s.2.1, s.2.2)
def fuel : Nat := 100000
def gd {α : Type} (b : Bool) (x : Option α) : Option α := if b = true then x else none
theorem gd_some {α : Type} {b : Bool} {x : Option α} {r : α} (h : gd b x = some r) : b = true ∧ x = some r := by
  unfold gd at h
  split at h
  · exact ⟨‹_›, h⟩
  · cases h
theorem bd_some {α β : Type} {x : Option α} {f : α → Option β} {r : β} (h : x.bind f = some r) : ∃ a, x = some a ∧ f a = some r := by
  cases x with
  | none => cases h
  | some a => exact ⟨a, rfl, h⟩
def lt {α β : Type} (x : α) (f : α → Option β) : Option β := f x
theorem lt_some {α β : Type} {x : α} {f : α → Option β} {r : β} (h : lt x f = some r) : ∃ y, y = x ∧ f y = some r := ⟨x, rfl, h⟩
def ib (i : Int32) (n : Nat) : Bool := decide (¬ (i < 0 ∨ n ≤ i.toNatClampNeg))
theorem ib_ok {i : Int32} {n : Nat} (h : ib i n = true) : vp_in i n := by
  unfold vp_in
  exact of_decide_eq_true h
def kk (o c : Nat) : Bool := decide (o < 150 ∧ (K0 o).1 = c)
theorem kk_ok {o c : Nat} (h : kk o c = true) : o < 150 ∧ (K0 o).1 = c := of_decide_eq_true h
def kr (o : Nat) : Bool := decide (o < 150 ∧ 11 ≤ (K0 o).1 ∧ (K0 o).1 ≤ 14)
theorem kr_ok {o : Nat} (h : kr o = true) : o < 150 ∧ 11 ≤ (K0 o).1 ∧ (K0 o).1 ≤ 14 := of_decide_eq_true h
theorem kc {o n c c' : Nat} (h1 : Nat.ble (o + 1) n = true) (h2 : c' = c) : o < n ∧ c' = c := ⟨Nat.le_of_ble_eq_true h1, h2⟩
theorem kl {o n c : Nat} (h1 : Nat.ble (o + 1) n = true) (h2 : Nat.ble 11 c = true) (h3 : Nat.ble c 14 = true) : o < n ∧ 11 ≤ c ∧ c ≤ 14 := ⟨Nat.le_of_ble_eq_true h1, Nat.le_of_ble_eq_true h2, Nat.le_of_ble_eq_true h3⟩
def nz (x : Int32) : Bool := decide (¬ x = 0)
theorem nz_ok {x : Int32} (h : nz x = true) : ¬ x = 0 := of_decide_eq_true h
def nzl (x : Int64) : Bool := decide (¬ x = 0)
theorem nzl_ok {x : Int64} (h : nzl x = true) : ¬ x = 0 := of_decide_eq_true h
def b01 (x : Int32) : Bool := decide (x = 0 ∨ x = 1)
theorem b01_ok {x : Int32} (h : b01 x = true) : x = 0 ∨ x = 1 := of_decide_eq_true h
def nb (x : Int32) : Bool := decide (x &&& 1 = x)
theorem nb_ok {x : Int32} (h : nb x = true) : narrow .boolean (.int x) = .int x := congrArg Value.int (of_decide_eq_true h)
def dy (o k : Nat) : Bool := decide (slot o k < 9)
theorem dy_ok {o k : Nat} (h : dy o k = true) : Nat.ble (slot o k + 1) 9 = true := Nat.ble_eq_true_of_le (of_decide_eq_true h)
theorem sw_ne {x k : Int32} {c : Int} (h : ¬ x = k) (hk : k.toInt = c) : ¬ x.toInt = c := fun e => h (Int32.toInt_inj.mp (e.trans hk.symm))
def cpk (sp dp n : Int32) (n0 n1 : Nat) : Bool := decide (¬ sp < 0 ∧ ¬ dp < 0 ∧ ¬ n < 0 ∧ sp.toNatClampNeg + n.toNatClampNeg ≤ n0 ∧ dp.toNatClampNeg + n.toNatClampNeg ≤ n1)
theorem cp_1 {sp dp n : Int32} {n0 n1 : Nat} (h : cpk sp dp n n0 n1 = true) : ¬ sp < 0 := (of_decide_eq_true h).1
theorem cp_2 {sp dp n : Int32} {n0 n1 : Nat} (h : cpk sp dp n n0 n1 = true) : ¬ dp < 0 := (of_decide_eq_true h).2.1
theorem cp_3 {sp dp n : Int32} {n0 n1 : Nat} (h : cpk sp dp n n0 n1 = true) : ¬ n < 0 := (of_decide_eq_true h).2.2.1
theorem cp_4 {sp dp n : Int32} {n0 n1 : Nat} (h : cpk sp dp n n0 n1 = true) : sp.toNatClampNeg + n.toNatClampNeg ≤ n0 := (of_decide_eq_true h).2.2.2.1
theorem cp_5 {sp dp n : Int32} {n0 n1 : Nat} (h : cpk sp dp n n0 n1 = true) : dp.toNatClampNeg + n.toNatClampNeg ≤ n1 := (of_decide_eq_true h).2.2.2.2
theorem slot_inj {o k p q : Nat} (h : slot o k < 9) (e : slot p q = slot o k) : p = o ∧ q = k := by
  unfold slot at h e
  repeat' (split at h)
  all_goals (try omega)
  all_goals (repeat' (split at e))
  all_goals omega
theorem hp_R {s : ST} {o k a : Nat} (h : Nat.ble (slot o k + 1) 9 = true) : sm_R (hp s) o k (some a) = hp (uR s o k a) := by
  have h : slot o k < 9 := Nat.le_of_ble_eq_true h
  show ((150, K0, s.1, s.2.1, sm_up (RR s.2.2) o k (some a)) : SH) = (150, K0, s.1, s.2.1, RR (uR s o k a).2.2)
  have e : sm_up (RR s.2.2) o k (some a) = RR (uR s o k a).2.2 := by
    funext p q
    unfold sm_up RR uR
    by_cases hp : p = o ∧ q = k
    · obtain ⟨rfl, rfl⟩ := hp
      rw [if_pos rfl, if_pos rfl, if_neg (by omega)]
      exact (if_pos rfl).symm
    · have hne : ¬ slot p q = slot o k := fun e => hp (slot_inj h e)
      have : (if p = o then (if q = k then some a else if slot p q = 9 then R0 p q else s.2.2 (slot p q)) else if slot p q = 9 then R0 p q else s.2.2 (slot p q)) = if slot p q = 9 then R0 p q else s.2.2 (slot p q) := by
        split
        · split
          · exact absurd ⟨‹_›, ‹_›⟩ hp
          · rfl
        · rfl
      refine this.trans ?_
      simp only [hne, if_false]
  rw [e]
/-- fewer locals known -/
def sm_le : LV → LV → Prop
  | [], [] => True
  | a :: r, b :: q => (b = none ∨ a = b) ∧ sm_le r q
  | _, _ => False
theorem sm_le_at : ∀ {a b : LV}, sm_le a b → a.length = b.length ∧ ∀ (i : Nat) (v : Value), b[i]? = some (some v) → a[i]? = some (some v)
  | [], [], _ => ⟨rfl, fun _ _ h => h⟩
  | a :: r, b :: q, h => by
    obtain ⟨h1, h2⟩ := sm_le_at h.2
    refine ⟨by simp [h1], fun i v hv => ?_⟩
    cases i with
    | zero =>
      simp only [List.getElem?_cons_zero, Option.some.injEq] at hv ⊢
      rcases h.1 with e | e
      · rw [e] at hv; cases hv
      · rw [e]; exact hv
    | succ i =>
      simp only [List.getElem?_cons_succ] at hv ⊢
      exact h2 i v hv
  | [], _ :: _, h => h.elim
  | _ :: _, [], h => h.elim
theorem Ev.wk {l : Launch} {d : Nat} {M : MI} {pc : Nat} {lv lv' : LV} {st : List Value} {h : SH} {uc us : Nat} {r : Option Value × SH} (hE : Ev l d M pc lv' st h uc us r) (hw : sm_le lv lv') : Ev l d M pc lv st h uc us r := by
  intro base sa cy D p e s m args below meth c H locs ls C hWd hz hS hL
  obtain ⟨h1, h2⟩ := sm_le_at hw
  refine hE base sa cy D p e s m args below meth c H locs ls C hWd hz hS ⟨h1.symm.trans hL.1, hL.2.1, hL.2.2.1, fun q hq => hL.2.2.2 q ?_⟩
  obtain ⟨v, hv, e⟩ := sm_kl_mem.mp hq
  exact sm_kl_mem.mpr ⟨v, h2 _ _ hv, e⟩
