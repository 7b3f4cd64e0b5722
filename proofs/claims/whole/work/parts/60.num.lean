/-! L3: numbers. Int32.ofInt is the one normal form -/
theorem n_i8 {z : Int} (h1 : -128 ≤ z) (h2 : z ≤ 127) : (Int8.ofInt z).toInt32 = Int32.ofInt z := Int8.toInt32_ofInt h1 h2
theorem n_i16 {z : Int} (h1 : -32768 ≤ z) (h2 : z ≤ 32767) : (Int16.ofInt z).toInt32 = Int32.ofInt z := Int16.toInt32_ofInt h1 h2
theorem n_0 : (0 : Int32) = Int32.ofInt 0 := rfl
theorem n_31 : (31 : Int32) = Int32.ofInt 31 := rfl
theorem n_add (a b : Int) : Int32.ofInt a + Int32.ofInt b = Int32.ofInt (a + b) := (Int32.ofInt_add a b).symm
theorem n_sub (a b : Int) : Int32.ofInt a - Int32.ofInt b = Int32.ofInt (a - b) := (Int32.ofInt_sub a b).symm
theorem n_mul (a b : Int) : Int32.ofInt a * Int32.ofInt b = Int32.ofInt (a * b) := (Int32.ofInt_mul a b).symm
theorem n_neg (a : Int) : -Int32.ofInt a = Int32.ofInt (-a) := (Int32.ofInt_neg a).symm
theorem n_to {a : Int} (h1 : -2147483648 ≤ a) (h2 : a ≤ 2147483647) : (Int32.ofInt a).toInt = a := Int32.toInt_ofInt_of_le (by omega) (by omega)
theorem n_le {a b : Int} (h1 : -2147483648 ≤ a) (h2 : a ≤ 2147483647) (h3 : -2147483648 ≤ b) (h4 : b ≤ 2147483647) : (Int32.ofInt a ≤ Int32.ofInt b) = (a ≤ b) := propext (Int32.ofInt_le_iff_le h1 h2 h3 h4)
theorem n_lt {a b : Int} (h1 : -2147483648 ≤ a) (h2 : a ≤ 2147483647) (h3 : -2147483648 ≤ b) (h4 : b ≤ 2147483647) : (Int32.ofInt a < Int32.ofInt b) = (a < b) := propext (Int32.ofInt_lt_iff_lt h1 h2 h3 h4)
theorem n_eq {a b : Int} (h1 : -2147483648 ≤ a) (h2 : a ≤ 2147483647) (h3 : -2147483648 ≤ b) (h4 : b ≤ 2147483647) : (Int32.ofInt a = Int32.ofInt b) = (a = b) := propext ⟨fun h => by have := congrArg Int32.toInt h; rwa [n_to h1 h2, n_to h3 h4] at this, fun h => by rw [h]⟩
theorem n_le_t {a b : Int} (h : a ≤ b) (h1 : -2147483648 ≤ a) (h4 : b ≤ 2147483647) : (Int32.ofInt a ≤ Int32.ofInt b) = True := by rw [n_le (by omega) (by omega) (by omega) (by omega)]; exact eq_true h
theorem n_le_f {a b : Int} (h : b < a) (h1 : -2147483648 ≤ b) (h4 : a ≤ 2147483647) : (Int32.ofInt a ≤ Int32.ofInt b) = False := by rw [n_le (by omega) (by omega) (by omega) (by omega)]; exact eq_false (by omega)
theorem n_lt_t {a b : Int} (h : a < b) (h1 : -2147483648 ≤ a) (h4 : b ≤ 2147483647) : (Int32.ofInt a < Int32.ofInt b) = True := by rw [n_lt (by omega) (by omega) (by omega) (by omega)]; exact eq_true h
theorem n_lt_f {a b : Int} (h : b ≤ a) (h1 : -2147483648 ≤ b) (h4 : a ≤ 2147483647) : (Int32.ofInt a < Int32.ofInt b) = False := by rw [n_lt (by omega) (by omega) (by omega) (by omega)]; exact eq_false (by omega)
theorem n_eq_t {a b : Int} (h : a = b) : (Int32.ofInt a = Int32.ofInt b) = True := eq_true (by rw [h])
theorem n_eq_f {a b : Int} (h : ¬ a = b) (h1 : -2147483648 ≤ a) (h2 : a ≤ 2147483647) (h3 : -2147483648 ≤ b) (h4 : b ≤ 2147483647) : (Int32.ofInt a = Int32.ofInt b) = False := by rw [n_eq h1 h2 h3 h4]; exact eq_false h
theorem n_cl {a : Int} (h1 : 0 ≤ a) (h2 : a ≤ 2147483647) : (Int32.ofInt a).toNatClampNeg = a.toNat := by
  show (Int32.ofInt a).toInt.toNat = a.toNat
  rw [n_to (by omega) (by omega)]
theorem n_gd {α : Type} {a : Int} {n : Nat} {x : Option α} (h1 : 0 ≤ a) (h2 : a < (n : Int)) (h3 : (n : Int) ≤ 100000) : gd (ib (Int32.ofInt a) n) x = x := by
  have : ib (Int32.ofInt a) n = true := by
    unfold ib
    refine decide_eq_true ?_
    rw [n_cl h1 (by omega), n_0, n_lt (by omega) (by omega) (by omega) (by omega)]
    omega
  rw [this]
  rfl
theorem n_gdt {α : Type} {x : Option α} : gd true x = x := rfl
theorem n_nz {a : Int} (h : ¬ a = 0) (h1 : -2147483648 ≤ a) (h2 : a ≤ 2147483647) : nz (Int32.ofInt a) = true := by
  unfold nz
  refine decide_eq_true ?_
  rw [n_0, n_eq h1 h2 (by omega) (by omega)]
  exact h
theorem n_div {a b : Int} (h1 : 0 ≤ a) (h2 : a ≤ 2147483647) (h3 : 0 < b) (h4 : b ≤ 2147483647) : Int32.ofInt a / Int32.ofInt b = Int32.ofInt (a / b) := by
  rw [← Int32.ofInt_tdiv (show Int32.minValue.toInt ≤ a from Int.le_trans (show (-2147483648 : Int) ≤ 0 by omega) h1) h2 (show Int32.minValue.toInt ≤ b from Int.le_trans (show (-2147483648 : Int) ≤ 0 by omega) (by omega)) h4, Int.tdiv_eq_ediv_of_nonneg h1]
theorem n_rem (a b : Int) : a - a / b * b = a % b := by rw [Int.emod_def, Int.mul_comm]
theorem u_eq (s : ST) (o k : Nat) (x : Int32) : (uI s o k x).1 o k = x := by simp [uI, sm_up]
theorem u_no {s : ST} {o k o' k' : Nat} {x : Int32} (h : ¬ o' = o) : (uI s o k x).1 o' k' = s.1 o' k' := by simp [uI, sm_up, h]
theorem u_nk {s : ST} {o k o' k' : Nat} {x : Int32} (h : ¬ k' = k) : (uI s o k x).1 o' k' = s.1 o' k' := by simp [uI, sm_up, h]
theorem u_ek {s : ST} {o k k' : Nat} {x : Int32} (h : k' = k) : (uI s o k x).1 o k' = x := by rw [h]; exact u_eq s o k x
theorem u_2 (s : ST) (o k : Nat) (x : Int32) : (uI s o k x).2.1 = s.2.1 := rfl
theorem u_3 (s : ST) (o k : Nat) (x : Int32) : (uI s o k x).2.2 = s.2.2 := rfl
theorem j_1 (s : ST) (o k : Nat) (x : Int64) : (uJ s o k x).1 = s.1 := rfl
theorem j_3 (s : ST) (o k : Nat) (x : Int64) : (uJ s o k x).2.2 = s.2.2 := rfl
theorem j_eq (s : ST) (o k : Nat) (x : Int64) : (uJ s o k x).2.1 o k = x := by simp [uJ, sm_up]
theorem j_no {s : ST} {o k o' k' : Nat} {x : Int64} (h : ¬ o' = o) : (uJ s o k x).2.1 o' k' = s.2.1 o' k' := by simp [uJ, sm_up, h]
theorem j_nk {s : ST} {o k o' k' : Nat} {x : Int64} (h : ¬ k' = k) : (uJ s o k x).2.1 o' k' = s.2.1 o' k' := by simp [uJ, sm_up, h]
theorem lt_def {α β : Type} (x : α) (f : α → Option β) : lt x f = f x := rfl
/-- the numbers i, i + 1, .. (n of them) -/
def upto : Nat → Int → List Int
  | 0, _ => []
  | n + 1, i => i :: upto n (i + 1)
theorem upto_0 {n : Nat} {i : Int} (h : n = 0) : upto n i = [] := by rw [h]; rfl
theorem upto_s {n : Nat} {i : Int} (h : 0 < n) : upto n i = i :: upto (n - 1) (i + 1) := by
  cases n with
  | zero => omega
  | succ n => rfl
theorem mem_upto : ∀ {n : Nat} {i x : Int}, x ∈ upto n i ↔ i ≤ x ∧ x < i + n
  | 0, i, x => by simp only [upto, List.not_mem_nil, false_iff]; omega
  | n + 1, i, x => by
    simp only [upto, List.mem_cons, mem_upto]
    omega
