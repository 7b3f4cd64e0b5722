/-! L3: longs, literals -/
theorem n_l1 : (1 : Int32) = Int32.ofInt 1 := rfl
theorem n_l2 : (2 : Int32) = Int32.ofInt 2 := rfl
theorem n_l3 : (3 : Int32) = Int32.ofInt 3 := rfl
theorem n_l4 : (4 : Int32) = Int32.ofInt 4 := rfl
theorem n_l5 : (5 : Int32) = Int32.ofInt 5 := rfl
theorem n_l6 : (6 : Int32) = Int32.ofInt 6 := rfl
theorem n_l7 : (7 : Int32) = Int32.ofInt 7 := rfl
theorem n_l8 : (8 : Int32) = Int32.ofInt 8 := rfl
theorem n_l9 : (9 : Int32) = Int32.ofInt 9 := rfl
theorem n_l10 : (10 : Int32) = Int32.ofInt 10 := rfl
theorem n_l11 : (11 : Int32) = Int32.ofInt 11 := rfl
theorem n_l12 : (12 : Int32) = Int32.ofInt 12 := rfl
theorem n_l13 : (13 : Int32) = Int32.ofInt 13 := rfl
theorem n_l14 : (14 : Int32) = Int32.ofInt 14 := rfl
theorem n_l15 : (15 : Int32) = Int32.ofInt 15 := rfl
theorem n_l16 : (16 : Int32) = Int32.ofInt 16 := rfl
theorem n_l17 : (17 : Int32) = Int32.ofInt 17 := rfl
theorem n_l18 : (18 : Int32) = Int32.ofInt 18 := rfl
theorem n_l19 : (19 : Int32) = Int32.ofInt 19 := rfl
theorem n_l20 : (20 : Int32) = Int32.ofInt 20 := rfl
theorem n_l21 : (21 : Int32) = Int32.ofInt 21 := rfl
theorem n_l22 : (22 : Int32) = Int32.ofInt 22 := rfl
theorem n_l23 : (23 : Int32) = Int32.ofInt 23 := rfl
theorem n_l24 : (24 : Int32) = Int32.ofInt 24 := rfl
theorem n_l25 : (25 : Int32) = Int32.ofInt 25 := rfl
theorem n_l26 : (26 : Int32) = Int32.ofInt 26 := rfl
theorem n_l27 : (27 : Int32) = Int32.ofInt 27 := rfl
theorem n_l28 : (28 : Int32) = Int32.ofInt 28 := rfl
theorem n_l29 : (29 : Int32) = Int32.ofInt 29 := rfl
theorem n_l30 : (30 : Int32) = Int32.ofInt 30 := rfl
theorem n_l31 : (31 : Int32) = Int32.ofInt 31 := rfl
theorem n_l32 : (32 : Int32) = Int32.ofInt 32 := rfl
theorem n_l33 : (33 : Int32) = Int32.ofInt 33 := rfl
theorem n_l34 : (34 : Int32) = Int32.ofInt 34 := rfl
theorem n_l35 : (35 : Int32) = Int32.ofInt 35 := rfl
theorem n_l36 : (36 : Int32) = Int32.ofInt 36 := rfl
theorem n_l37 : (37 : Int32) = Int32.ofInt 37 := rfl
theorem n_l38 : (38 : Int32) = Int32.ofInt 38 := rfl
theorem n_l39 : (39 : Int32) = Int32.ofInt 39 := rfl
theorem n_l40 : (40 : Int32) = Int32.ofInt 40 := rfl
theorem n_l41 : (41 : Int32) = Int32.ofInt 41 := rfl
theorem n_l42 : (42 : Int32) = Int32.ofInt 42 := rfl
theorem n_l43 : (43 : Int32) = Int32.ofInt 43 := rfl
theorem n_l44 : (44 : Int32) = Int32.ofInt 44 := rfl
theorem n_l45 : (45 : Int32) = Int32.ofInt 45 := rfl
theorem n_l46 : (46 : Int32) = Int32.ofInt 46 := rfl
theorem n_l47 : (47 : Int32) = Int32.ofInt 47 := rfl
theorem n_l48 : (48 : Int32) = Int32.ofInt 48 := rfl
theorem n_l49 : (49 : Int32) = Int32.ofInt 49 := rfl
theorem n_l50 : (50 : Int32) = Int32.ofInt 50 := rfl
theorem n_l51 : (51 : Int32) = Int32.ofInt 51 := rfl
theorem n_l52 : (52 : Int32) = Int32.ofInt 52 := rfl
theorem n_l53 : (53 : Int32) = Int32.ofInt 53 := rfl
theorem n_l54 : (54 : Int32) = Int32.ofInt 54 := rfl
theorem n_l55 : (55 : Int32) = Int32.ofInt 55 := rfl
theorem n_l56 : (56 : Int32) = Int32.ofInt 56 := rfl
theorem n_l57 : (57 : Int32) = Int32.ofInt 57 := rfl
theorem n_l58 : (58 : Int32) = Int32.ofInt 58 := rfl
theorem n_l59 : (59 : Int32) = Int32.ofInt 59 := rfl
theorem n_l60 : (60 : Int32) = Int32.ofInt 60 := rfl
theorem l_0 : Int64.ofNat ((0 : Fin 2) : Nat) = Int64.ofInt 0 := rfl
theorem l_1 : Int64.ofNat ((1 : Fin 2) : Nat) = Int64.ofInt 1 := rfl
theorem l_00 : (0 : Int64) = Int64.ofInt 0 := rfl
theorem l_i {a : Int} (h1 : -2147483648 ≤ a) (h2 : a ≤ 2147483647) : (Int32.ofInt a).toInt64 = Int64.ofInt a := Int32.toInt64_ofInt h1 h2
theorem l_j (a : Int) : (Int64.ofInt a).toInt32 = Int32.ofInt a := Int64.toInt32_ofInt
theorem l_add (a b : Int) : Int64.ofInt a + Int64.ofInt b = Int64.ofInt (a + b) := (Int64.ofInt_add a b).symm
theorem l_sub (a b : Int) : Int64.ofInt a - Int64.ofInt b = Int64.ofInt (a - b) := (Int64.ofInt_sub a b).symm
theorem l_mul (a b : Int) : Int64.ofInt a * Int64.ofInt b = Int64.ofInt (a * b) := (Int64.ofInt_mul a b).symm
theorem l_lt {a b : Int} (h1 : -9223372036854775808 ≤ a) (h2 : a ≤ 9223372036854775807) (h3 : -9223372036854775808 ≤ b) (h4 : b ≤ 9223372036854775807) : (Int64.ofInt a < Int64.ofInt b) = (a < b) := propext (Int64.ofInt_lt_iff_lt h1 h2 h3 h4)
theorem l_to {a : Int} (h1 : -9223372036854775808 ≤ a) (h2 : a ≤ 9223372036854775807) : (Int64.ofInt a).toInt = a := Int64.toInt_ofInt_of_le (by omega) (by omega)
theorem l_eq {a b : Int} (h1 : -9223372036854775808 ≤ a) (h2 : a ≤ 9223372036854775807) (h3 : -9223372036854775808 ≤ b) (h4 : b ≤ 9223372036854775807) : (Int64.ofInt a = Int64.ofInt b) = (a = b) := propext ⟨fun h => by have := congrArg Int64.toInt h; rwa [l_to h1 h2, l_to h3 h4] at this, fun h => by rw [h]⟩
theorem l_gt {a b : Int} (h : b < a) (h1 : -9223372036854775808 ≤ b) (h2 : a ≤ 9223372036854775807) : lg_cmp (Int64.ofInt a) (Int64.ofInt b) = Int32.ofInt 1 := by
  have e : Int64.ofInt b < Int64.ofInt a := by rw [l_lt (by omega) (by omega) (by omega) (by omega)]; exact h
  unfold lg_cmp
  rw [if_pos e]
  rfl
theorem l_ceq {a b : Int} (h : a = b) (h1 : -9223372036854775808 ≤ b) (h2 : a ≤ 9223372036854775807) : lg_cmp (Int64.ofInt a) (Int64.ofInt b) = Int32.ofInt 0 := by
  have e : ¬ Int64.ofInt b < Int64.ofInt a := by rw [l_lt (by omega) (by omega) (by omega) (by omega)]; omega
  unfold lg_cmp
  rw [if_neg e, if_pos (by rw [h])]
  rfl
theorem l_clt {a b : Int} (h : a < b) (h1 : -9223372036854775808 ≤ a) (h2 : b ≤ 9223372036854775807) : lg_cmp (Int64.ofInt a) (Int64.ofInt b) = Int32.ofInt (-1) := by
  have e : ¬ Int64.ofInt b < Int64.ofInt a := by rw [l_lt (by omega) (by omega) (by omega) (by omega)]; omega
  have e2 : ¬ Int64.ofInt a = Int64.ofInt b := by rw [l_eq (by omega) (by omega) (by omega) (by omega)]; omega
  unfold lg_cmp
  rw [if_neg e, if_neg e2]
  rfl
theorem l_nz {a : Int} (h : ¬ a = 0) (h1 : -9223372036854775808 ≤ a) (h2 : a ≤ 9223372036854775807) : nzl (Int64.ofInt a) = true := by
  unfold nzl
  refine decide_eq_true ?_
  rw [l_00, l_eq h1 h2 (by omega) (by omega)]
  exact h
theorem l_div {a b : Int} (h1 : -9223372036854775808 ≤ a) (h2 : a ≤ 9223372036854775807) (h3 : -9223372036854775808 ≤ b) (h4 : b ≤ 9223372036854775807) : Int64.ofInt a / Int64.ofInt b = Int64.ofInt (a.tdiv b) := (Int64.ofInt_tdiv h1 h2 h3 h4).symm
theorem m_isIn {s : ST} {v a b : Int} (h1 : -9223372036854775808 ≤ v) (h2 : v ≤ 9223372036854775807) (h3 : -9223372036854775808 ≤ a) (h4 : a ≤ 9223372036854775807) (h5 : -9223372036854775808 ≤ b) (h6 : b ≤ 9223372036854775807) : f_X10_isIn (Int64.ofInt v) (Int64.ofInt a) (Int64.ofInt b) s = some (bI (decide (a ≤ v ∧ v ≤ b)), s) := by
  by_cases e1 : a ≤ v
  · by_cases e2 : v ≤ b
    · rw [decide_eq_true (And.intro e1 e2)]
      by_cases e3 : a = v
      · by_cases e4 : v = b
        · simp (disch := omega) only [f_X10_isIn, n_i8, n_i16, n_0, n_31, n_add, n_sub, n_mul, n_neg, n_div, n_rem, n_le_t, n_le_f, n_lt_t, n_lt_f, n_eq_t, n_eq_f, n_cl, n_gd, n_gdt, n_nz, Int.reduceToNat, Int.reduceAdd, Int.reduceSub, Int.reduceMul, Int.reduceNeg, Int.reduceLT, Int.reduceLE, Int.reduceEq, Int.reduceDiv, Int.reduceMod, Nat.reduceAdd, Nat.reduceMul, ↓reduceIte, l_0, l_1, l_00, l_i, l_j, l_add, l_sub, l_mul, l_gt, l_ceq, l_clt, l_nz, bI_t]
        · simp (disch := omega) only [f_X10_isIn, n_i8, n_i16, n_0, n_31, n_add, n_sub, n_mul, n_neg, n_div, n_rem, n_le_t, n_le_f, n_lt_t, n_lt_f, n_eq_t, n_eq_f, n_cl, n_gd, n_gdt, n_nz, Int.reduceToNat, Int.reduceAdd, Int.reduceSub, Int.reduceMul, Int.reduceNeg, Int.reduceLT, Int.reduceLE, Int.reduceEq, Int.reduceDiv, Int.reduceMod, Nat.reduceAdd, Nat.reduceMul, ↓reduceIte, l_0, l_1, l_00, l_i, l_j, l_add, l_sub, l_mul, l_gt, l_ceq, l_clt, l_nz, bI_t]
      · by_cases e4 : v = b
        · simp (disch := omega) only [f_X10_isIn, n_i8, n_i16, n_0, n_31, n_add, n_sub, n_mul, n_neg, n_div, n_rem, n_le_t, n_le_f, n_lt_t, n_lt_f, n_eq_t, n_eq_f, n_cl, n_gd, n_gdt, n_nz, Int.reduceToNat, Int.reduceAdd, Int.reduceSub, Int.reduceMul, Int.reduceNeg, Int.reduceLT, Int.reduceLE, Int.reduceEq, Int.reduceDiv, Int.reduceMod, Nat.reduceAdd, Nat.reduceMul, ↓reduceIte, l_0, l_1, l_00, l_i, l_j, l_add, l_sub, l_mul, l_gt, l_ceq, l_clt, l_nz, bI_t]
        · simp (disch := omega) only [f_X10_isIn, n_i8, n_i16, n_0, n_31, n_add, n_sub, n_mul, n_neg, n_div, n_rem, n_le_t, n_le_f, n_lt_t, n_lt_f, n_eq_t, n_eq_f, n_cl, n_gd, n_gdt, n_nz, Int.reduceToNat, Int.reduceAdd, Int.reduceSub, Int.reduceMul, Int.reduceNeg, Int.reduceLT, Int.reduceLE, Int.reduceEq, Int.reduceDiv, Int.reduceMod, Nat.reduceAdd, Nat.reduceMul, ↓reduceIte, l_0, l_1, l_00, l_i, l_j, l_add, l_sub, l_mul, l_gt, l_ceq, l_clt, l_nz, bI_t]
    · rw [decide_eq_false (fun c => e2 c.2)]
      by_cases e3 : a = v
      · simp (disch := omega) only [f_X10_isIn, n_i8, n_i16, n_0, n_31, n_add, n_sub, n_mul, n_neg, n_div, n_rem, n_le_t, n_le_f, n_lt_t, n_lt_f, n_eq_t, n_eq_f, n_cl, n_gd, n_gdt, n_nz, Int.reduceToNat, Int.reduceAdd, Int.reduceSub, Int.reduceMul, Int.reduceNeg, Int.reduceLT, Int.reduceLE, Int.reduceEq, Int.reduceDiv, Int.reduceMod, Nat.reduceAdd, Nat.reduceMul, ↓reduceIte, l_0, l_1, l_00, l_i, l_j, l_add, l_sub, l_mul, l_gt, l_ceq, l_clt, l_nz, bI_f]
      · simp (disch := omega) only [f_X10_isIn, n_i8, n_i16, n_0, n_31, n_add, n_sub, n_mul, n_neg, n_div, n_rem, n_le_t, n_le_f, n_lt_t, n_lt_f, n_eq_t, n_eq_f, n_cl, n_gd, n_gdt, n_nz, Int.reduceToNat, Int.reduceAdd, Int.reduceSub, Int.reduceMul, Int.reduceNeg, Int.reduceLT, Int.reduceLE, Int.reduceEq, Int.reduceDiv, Int.reduceMod, Nat.reduceAdd, Nat.reduceMul, ↓reduceIte, l_0, l_1, l_00, l_i, l_j, l_add, l_sub, l_mul, l_gt, l_ceq, l_clt, l_nz, bI_f]
  · rw [decide_eq_false (fun c => e1 c.1)]
    simp (disch := omega) only [f_X10_isIn, n_i8, n_i16, n_0, n_31, n_add, n_sub, n_mul, n_neg, n_div, n_rem, n_le_t, n_le_f, n_lt_t, n_lt_f, n_eq_t, n_eq_f, n_cl, n_gd, n_gdt, n_nz, Int.reduceToNat, Int.reduceAdd, Int.reduceSub, Int.reduceMul, Int.reduceNeg, Int.reduceLT, Int.reduceLE, Int.reduceEq, Int.reduceDiv, Int.reduceMod, Nat.reduceAdd, Nat.reduceMul, ↓reduceIte, l_0, l_1, l_00, l_i, l_j, l_add, l_sub, l_mul, l_gt, l_ceq, l_clt, l_nz, bI_f]
/-! codes: 1 .. 11 joins, 12 not, 13 all, 40 .. 50 parts, 60 off, 1000 .. numbers -/
def clp (v : Int) : Int := if 1000000 < v then 1000000 else if v < -1000000 then -1000000 else v
theorem clp_b (v : Int) : -1000000 ≤ clp v ∧ clp v ≤ 1000000 := by
  unfold clp
  repeat' split
  all_goals omega
def fdv (a b : Int) : Int := if b = 0 then 0 else if ¬ a - a.tdiv b * b = 0 ∧ ¬ ((a < 0) ↔ (b < 0)) then a.tdiv b - 1 else a.tdiv b
def jn (c a b : Int) : Int := if c = 1 then clp (a + b) else if c = 2 then clp (a - b) else if c = 3 then clp (a * b) else if c = 4 then fdv a b else if c = 5 then (if a < b then a else b) else if c = 6 then (if b < a then a else b) else if c = 7 then (if a < b then 1 else 0) else if c = 8 then (if b < a then 1 else 0) else if c = 9 then (if a = b then 1 else 0) else if c = 10 then a * b else (if 0 < a + b then 1 else 0)
def lb (v : Int) : Prop := -1000000 ≤ v ∧ v ≤ 1000000
def vt (t : Bool) (v : Int) : Prop := lb v ∧ (t = true → v = 0 ∨ v = 1)
def vts : List Bool → List Int → Prop
  | [], [] => True
  | t :: r, v :: q => vt t v ∧ vts r q
  | _, _ => False
theorem vts_len : ∀ {T : List Bool} {st : List Int}, vts T st → st.length = T.length
  | [], [], _ => rfl
  | _ :: r, _ :: q, h => by rw [List.length_cons, List.length_cons, vts_len h.2]
  | [], _ :: _, h => h.elim
  | _ :: _, [], h => h.elim
/-- the sorts on the pile: true of a TEST, false of a SUM -/
def ty1 (c : Int) (st : List Bool) : Option (List Bool) :=
  if 1000 ≤ c then (if c ≤ 10999 ∧ st.length < 60 then some (false :: st) else none)
  else if c = 60 then (match st with
    | false :: r => some (false :: r)
    | _ => none)
  else if 40 ≤ c then (if c ≤ 50 ∧ st.length < 60 then some (false :: st) else none)
  else if c = 13 then (if st.length < 60 then some (true :: st) else none)
  else if c = 12 then (match st with
    | true :: r => some (true :: r)
    | _ => none)
  else if 1 ≤ c ∧ c ≤ 6 then (match st with
    | false :: false :: r => some (false :: r)
    | _ => none)
  else if 7 ≤ c ∧ c ≤ 9 then (match st with
    | false :: false :: r => some (true :: r)
    | _ => none)
  else if 10 ≤ c ∧ c ≤ 11 then (match st with
    | true :: true :: r => some (true :: r)
    | _ => none)
  else none
def tyL : List Int → List Bool → Option (List Bool)
  | [], st => some st
  | c :: l, st => (ty1 c st).bind (tyL l)
def ev1 (E F : Int → Int) (c : Int) (st : List Int) : List Int :=
  if 1000 ≤ c then (c - 1000) :: st
  else if c = 60 then (match st with
    | v :: r => F v :: r
    | [] => [])
  else if 40 ≤ c then E (c - 40) :: st
  else if c = 13 then 1 :: st
  else if c = 12 then (match st with
    | v :: r => (1 - v) :: r
    | [] => [])
  else (match st with
    | b :: a :: r => jn c a b :: r
    | _ => [])
def evL (E F : Int → Int) : List Int → List Int → List Int
  | [], st => st
  | c :: l, st => evL E F l (ev1 E F c st)
theorem mul_b {a b : Int} (ha : lb a) (hb : lb b) : -1000000000000 ≤ a * b ∧ a * b ≤ 1000000000000 := by
  unfold lb at *
  have h1 : (1000000 - a) * (1000000 - b) ≥ 0 := Int.mul_nonneg (by omega) (by omega)
  have h2 : (1000000 + a) * (1000000 - b) ≥ 0 := Int.mul_nonneg (by omega) (by omega)
  have h3 : (1000000 - a) * (1000000 + b) ≥ 0 := Int.mul_nonneg (by omega) (by omega)
  have h4 : (1000000 + a) * (1000000 + b) ≥ 0 := Int.mul_nonneg (by omega) (by omega)
  simp only [Int.sub_mul, Int.mul_sub, Int.add_mul, Int.mul_add] at h1 h2 h3 h4
  have e : 1000000 * b = b * 1000000 := Int.mul_comm _ _
  omega
theorem tdiv_b {a b : Int} (ha : lb a) (hb : lb b) (h0 : ¬ b = 0) : -1000000 ≤ a.tdiv b ∧ a.tdiv b ≤ 1000000 := by
  unfold lb at *
  have h1 : (a.tdiv b).natAbs ≤ a.natAbs := by rw [Int.natAbs_tdiv]; exact Nat.div_le_self _ _
  omega
theorem fdv_b {a b : Int} (ha : lb a) (hb : lb b) : lb (fdv a b) := by
  unfold fdv
  split
  · unfold lb; omega
  · rename_i h0
    have h1 := tdiv_b ha hb h0
    split
    · rename_i h
      unfold lb at *
      have h2 : (a.tdiv b).natAbs ≤ a.natAbs := by rw [Int.natAbs_tdiv]; exact Nat.div_le_self _ _
      by_cases e : a.tdiv b = -1000000
      · exfalso
        have hb1 : b.natAbs = 1 := by
          have : (a.tdiv b).natAbs = a.natAbs / b.natAbs := Int.natAbs_tdiv a b
          have h3 : a.natAbs / b.natAbs = 1000000 := by omega
          have h4 : 0 < b.natAbs := by omega
          have h5 : 1000000 * b.natAbs ≤ a.natAbs := by rw [← h3]; exact Nat.div_mul_le_self _ _
          omega
        have : b = 1 ∨ b = -1 := by omega
        rcases this with rfl | rfl
        · rw [Int.tdiv_one] at h; omega
        · rw [Int.tdiv_neg, Int.tdiv_one] at h; omega
      · omega
    · unfold lb; omega
theorem jn_1 (a b : Int) : jn 1 a b = clp (a + b) := by simp only [jn, Int.reduceEq, ↓reduceIte]
theorem jn_2 (a b : Int) : jn 2 a b = clp (a - b) := by simp only [jn, Int.reduceEq, ↓reduceIte]
theorem jn_3 (a b : Int) : jn 3 a b = clp (a * b) := by simp only [jn, Int.reduceEq, ↓reduceIte]
theorem jn_4 (a b : Int) : jn 4 a b = fdv a b := by simp only [jn, Int.reduceEq, ↓reduceIte]
theorem jn_5 (a b : Int) : jn 5 a b = (if a < b then a else b) := by simp only [jn, Int.reduceEq, ↓reduceIte]
theorem jn_6 (a b : Int) : jn 6 a b = (if b < a then a else b) := by simp only [jn, Int.reduceEq, ↓reduceIte]
theorem jn_7 (a b : Int) : jn 7 a b = (if a < b then 1 else 0) := by simp only [jn, Int.reduceEq, ↓reduceIte]
theorem jn_8 (a b : Int) : jn 8 a b = (if b < a then 1 else 0) := by simp only [jn, Int.reduceEq, ↓reduceIte]
theorem jn_9 (a b : Int) : jn 9 a b = (if a = b then 1 else 0) := by simp only [jn, Int.reduceEq, ↓reduceIte]
theorem jn_10 (a b : Int) : jn 10 a b = a * b := by simp only [jn, Int.reduceEq, ↓reduceIte]
theorem jn_11 (a b : Int) : jn 11 a b = (if 0 < a + b then 1 else 0) := by simp only [jn, Int.reduceEq, ↓reduceIte]
theorem jn_b {c a b : Int} (ha : lb a) (hb : lb b) (hc : 1 ≤ c) (h6 : c ≤ 6) : lb (jn c a b) := by
  have h : c = 1 ∨ c = 2 ∨ c = 3 ∨ c = 4 ∨ c = 5 ∨ c = 6 := by omega
  rcases h with rfl | rfl | rfl | rfl | rfl | rfl
  · rw [jn_1]; exact clp_b _
  · rw [jn_2]; exact clp_b _
  · rw [jn_3]; exact clp_b _
  · rw [jn_4]; exact fdv_b ha hb
  · rw [jn_5]; split <;> assumption
  · rw [jn_6]; split <;> assumption
theorem b01_v {p : Prop} [Decidable p] : vt true (if p then 1 else 0) := by split <;> exact ⟨⟨by omega, by omega⟩, fun _ => by omega⟩
theorem ev_ty {E F : Int → Int} (hE : ∀ i, 0 ≤ i → i ≤ 10 → lb (E i)) (hF : ∀ v, lb v → lb (F v)) {c : Int} {T T' : List Bool} {st : List Int} (hv : vts T st) (ht : ty1 c T = some T') : vts T' (ev1 E F c st) := by
  unfold ty1 at ht
  unfold ev1
  by_cases h1 : 1000 ≤ c
  · rw [if_pos h1] at ht ⊢
    split at ht
    · cases ht; exact ⟨⟨⟨by omega, by omega⟩, fun h => by cases h⟩, hv⟩
    · cases ht
  rw [if_neg h1] at ht ⊢
  by_cases h2 : c = 60
  · rw [if_pos h2] at ht ⊢
    split at ht
    · cases ht
      cases st with
      | nil => exact hv.elim
      | cons v q => exact ⟨⟨hF v hv.1.1, fun h => by cases h⟩, hv.2⟩
    · cases ht
  rw [if_neg h2] at ht ⊢
  by_cases h3 : 40 ≤ c
  · rw [if_pos h3] at ht ⊢
    split at ht
    · cases ht; exact ⟨⟨hE _ (by omega) (by omega), fun h => by cases h⟩, hv⟩
    · cases ht
  rw [if_neg h3] at ht ⊢
  by_cases h4 : c = 13
  · rw [if_pos h4] at ht ⊢
    split at ht
    · cases ht; exact ⟨⟨⟨by omega, by omega⟩, fun _ => by omega⟩, hv⟩
    · cases ht
  rw [if_neg h4] at ht ⊢
  by_cases h5 : c = 12
  · rw [if_pos h5] at ht ⊢
    split at ht
    · cases ht
      cases st with
      | nil => exact hv.elim
      | cons v q =>
        have := hv.1.2 rfl
        exact ⟨⟨⟨by omega, by omega⟩, fun _ => by omega⟩, hv.2⟩
    · cases ht
  rw [if_neg h5] at ht ⊢
  by_cases h6 : 1 ≤ c ∧ c ≤ 6
  · rw [if_pos h6] at ht
    split at ht
    · cases ht
      match st, hv with
      | b :: a :: q, hv => exact ⟨⟨jn_b hv.2.1.1 hv.1.1 h6.1 h6.2, fun h => by cases h⟩, hv.2.2⟩
    · cases ht
  rw [if_neg h6] at ht
  by_cases h7 : 7 ≤ c ∧ c ≤ 9
  · rw [if_pos h7] at ht
    split at ht
    · cases ht
      match st, hv with
      | b :: a :: q, hv =>
        refine ⟨?_, hv.2.2⟩
        have : c = 7 ∨ c = 8 ∨ c = 9 := by omega
        rcases this with rfl | rfl | rfl
        · rw [jn_7]; exact b01_v
        · rw [jn_8]; exact b01_v
        · rw [jn_9]; exact b01_v
    · cases ht
  rw [if_neg h7] at ht
  by_cases h8 : 10 ≤ c ∧ c ≤ 11
  · rw [if_pos h8] at ht
    split at ht
    · cases ht
      match st, hv with
      | b :: a :: q, hv =>
        refine ⟨?_, hv.2.2⟩
        have : c = 10 ∨ c = 11 := by omega
        rcases this with rfl | rfl
        · rw [jn_10]
          have ha := hv.2.1.2 rfl
          have hb := hv.1.2 rfl
          rcases ha with rfl | rfl
          · rw [Int.zero_mul]; exact ⟨⟨by omega, by omega⟩, fun _ => by omega⟩
          · rw [Int.one_mul]; exact hv.1
        · rw [jn_11]; exact b01_v
    · cases ht
  rw [if_neg h8] at ht
  cases ht
