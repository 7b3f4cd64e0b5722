/-! L3: bits; how many there are -/
def vl (b : Nat) : List Nat → Nat
  | [] => 0
  | d :: l => d + b * vl b l
theorem vl_inj {b : Nat} (hb : 0 < b) : ∀ {l m : List Nat}, l.length = m.length → (∀ d ∈ l, d < b) → (∀ d ∈ m, d < b) → vl b l = vl b m → l = m
  | [], [], _, _, _, _ => rfl
  | x :: l, y :: m, hl, h1, h2, h => by
    have a := h1 x List.mem_cons_self
    have c := h2 y List.mem_cons_self
    have h : x + b * vl b l = y + b * vl b m := h
    have e1 : x = y := by
      have := congrArg (· % b) h
      simp only [Nat.add_mul_mod_self_left] at this
      rwa [Nat.mod_eq_of_lt a, Nat.mod_eq_of_lt c] at this
    have e2 : vl b l = vl b m := by
      rw [e1] at h
      exact Nat.eq_of_mul_eq_mul_left hb (Nat.add_left_cancel h)
    rw [e1, vl_inj hb (by simpa using hl) (fun d hd => h1 d (List.mem_cons_of_mem _ hd)) (fun d hd => h2 d (List.mem_cons_of_mem _ hd)) e2]
  | [], _ :: _, hl, _, _, _ => by cases hl
  | _ :: _, [], hl, _, _, _ => by cases hl
def Bt (n i : Nat) : Nat := n / 2 ^ i % 2
theorem Bt_t (n i : Nat) : Bt n i = (n.testBit i).toNat := by
  unfold Bt
  rw [Nat.testBit_eq_decide_div_mod_eq]
  by_cases h : n / 2 ^ i % 2 = 1
  · rw [decide_eq_true h, h]; rfl
  · rw [decide_eq_false h]
    have : n / 2 ^ i % 2 < 2 := Nat.mod_lt _ (by decide)
    show n / 2 ^ i % 2 = 0
    omega
theorem Bt_le (n i : Nat) : Bt n i ≤ 1 := by unfold Bt; have : n / 2 ^ i % 2 < 2 := Nat.mod_lt _ (by decide); omega
theorem Bt_and (n m i : Nat) : Bt (n &&& m) i = Bt n i * Bt m i := by
  rw [Bt_t, Bt_t, Bt_t, Nat.testBit_and]
  cases n.testBit i <;> cases m.testBit i <;> rfl
theorem Bt_shr (n k i : Nat) : Bt (n >>> k) i = Bt n (k + i) := by
  unfold Bt
  rw [Nat.shiftRight_eq_div_pow, Nat.div_div_eq_div_mul, ← Nat.pow_add]
def bT (n : Nat) : Nat → Nat → List Nat
  | 0, _ => []
  | k + 1, i => Bt n i :: bT n k (i + 1)
theorem bT_v (n : Nat) : ∀ k i, vl 2 (bT n k i) = n / 2 ^ i % 2 ^ k
  | 0, i => by rw [Nat.pow_zero, Nat.mod_one]; rfl
  | k + 1, i => by
    show Bt n i + 2 * vl 2 (bT n k (i + 1)) = _
    rw [bT_v n k (i + 1)]
    unfold Bt
    rw [Nat.pow_succ 2 k, Nat.mul_comm (2 ^ k) 2, Nat.mod_mul, Nat.div_div_eq_div_mul, ← Nat.pow_succ]
theorem bT_mem (n : Nat) : ∀ k i d, d ∈ bT n k i → d ≤ 1
  | 0, i, d, h => by cases h
  | k + 1, i, d, h => by
    rcases List.mem_cons.mp h with e | e
    · rw [e]; exact Bt_le n i
    · exact bT_mem n k (i + 1) d e
theorem Bt_sum (n : Nat) (h : n < 4294967296) : n = vl 2 (bT n 32 0) := by
  rw [bT_v, Nat.pow_zero, Nat.div_one]
  exact (Nat.mod_eq_of_lt h).symm
/-- pairs, and fours, of digits -/
def pr : List Nat → List Nat
  | a :: b :: l => (a + 2 * b) :: pr l
  | _ => []
theorem pr_v : ∀ (k : Nat) (l : List Nat), l.length = 2 * k → vl 2 l = vl 4 (pr l)
  | 0, [], _ => rfl
  | k + 1, a :: b :: l, h => by
    have ih := pr_v k l (by simp only [List.length_cons] at h; omega)
    show a + 2 * (b + 2 * vl 2 l) = (a + 2 * b) + 4 * vl 4 (pr l)
    rw [ih]; omega
def nb4 : List Nat → List Nat
  | a :: b :: c :: d :: l => (a + 2 * b + 4 * c + 8 * d) :: nb4 l
  | _ => []
theorem nb4_v : ∀ (k : Nat) (l : List Nat), l.length = 4 * k → vl 2 l = vl 16 (nb4 l)
  | 0, [], _ => rfl
  | k + 1, a :: b :: c :: d :: l, h => by
    have ih := nb4_v k l (by simp only [List.length_cons] at h; omega)
    show a + 2 * (b + 2 * (c + 2 * (d + 2 * vl 2 l))) = (a + 2 * b + 4 * c + 8 * d) + 16 * vl 16 (nb4 l)
    rw [ih]; omega
theorem pr_m : ∀ (k : Nat) (l : List Nat), l.length = 2 * k → (∀ d ∈ l, d ≤ 1) → ∀ d ∈ pr l, d < 4
  | 0, [], _, _, d, h => by cases h
  | k + 1, a :: b :: l, hl, hm, d, h => by
    rcases List.mem_cons.mp h with e | e
    · have := hm a List.mem_cons_self
      have := hm b (List.mem_cons_of_mem _ List.mem_cons_self)
      omega
    · exact pr_m k l (by simp only [List.length_cons] at hl; omega) (fun d hd => hm d (List.mem_cons_of_mem _ (List.mem_cons_of_mem _ hd))) d e
theorem nb4_m : ∀ (k : Nat) (l : List Nat), l.length = 4 * k → (∀ d ∈ l, d ≤ 1) → ∀ d ∈ nb4 l, d < 16
  | 0, [], _, _, d, h => by cases h
  | k + 1, a :: b :: c :: e :: l, hl, hm, d, h => by
    rcases List.mem_cons.mp h with g | g
    · have := hm a (by simp)
      have := hm b (by simp)
      have := hm c (by simp)
      have := hm e (by simp)
      omega
    · exact nb4_m k l (by simp only [List.length_cons] at hl; omega) (fun d hd => hm d (by simp [hd])) d g
/-- the sums of pairs; every second one; their sums -/
def sp : List Nat → List Nat
  | a :: b :: l => (a + b) :: sp l
  | _ => []
def odd0 : List Nat → List Nat
  | _ :: b :: l => b :: 0 :: odd0 l
  | _ => []
def evn0 : List Nat → List Nat
  | a :: _ :: l => a :: 0 :: evn0 l
  | _ => []
theorem st1 : ∀ (k : Nat) (l : List Nat), l.length = 2 * k → vl 4 (sp l) + vl 2 (odd0 l) = vl 2 l
  | 0, [], _ => rfl
  | k + 1, a :: b :: l, h => by
    have ih := st1 k l (by simp only [List.length_cons] at h; omega)
    show ((a + b) + 4 * vl 4 (sp l)) + (b + 2 * (0 + 2 * vl 2 (odd0 l))) = a + 2 * (b + 2 * vl 2 l)
    omega
theorem st2 : ∀ (k : Nat) (l : List Nat), l.length = 2 * k → vl 4 (evn0 l) + vl 4 (odd0 l) = vl 16 (sp l)
  | 0, [], _ => rfl
  | k + 1, a :: b :: l, h => by
    have ih := st2 k l (by simp only [List.length_cons] at h; omega)
    show (a + 4 * (0 + 4 * vl 4 (evn0 l))) + (b + 4 * (0 + 4 * vl 4 (odd0 l))) = (a + b) + 16 * vl 16 (sp l)
    omega
def evn : List Nat → List Nat
  | a :: _ :: l => a :: evn l
  | _ => []
theorem st3 : ∀ (k : Nat) (l : List Nat), l.length = 2 * k → vl 16 (evn0 l) = vl 256 (evn l)
  | 0, [], _ => rfl
  | k + 1, a :: b :: l, h => by
    have ih := st3 k l (by simp only [List.length_cons] at h; omega)
    show a + 16 * (0 + 16 * vl 16 (evn0 l)) = a + 256 * vl 256 (evn l)
    omega
theorem an5 (n : Nat) : (n >>> 1) &&& 1431655765 = vl 2 [Bt n 1, 0, Bt n 3, 0, Bt n 5, 0, Bt n 7, 0, Bt n 9, 0, Bt n 11, 0, Bt n 13, 0, Bt n 15, 0, Bt n 17, 0, Bt n 19, 0, Bt n 21, 0, Bt n 23, 0, Bt n 25, 0, Bt n 27, 0, Bt n 29, 0, Bt n 31, 0] := by
  have hb : (n >>> 1) &&& 1431655765 < 4294967296 := Nat.lt_of_le_of_lt Nat.and_le_right (by decide)
  have hs := Bt_sum ((n >>> 1) &&& 1431655765) hb
  have hl : bT ((n >>> 1) &&& 1431655765) 32 0 = [Bt n 1, 0, Bt n 3, 0, Bt n 5, 0, Bt n 7, 0, Bt n 9, 0, Bt n 11, 0, Bt n 13, 0, Bt n 15, 0, Bt n 17, 0, Bt n 19, 0, Bt n 21, 0, Bt n 23, 0, Bt n 25, 0, Bt n 27, 0, Bt n 29, 0, Bt n 31, 0] := by
    show [Bt ((n >>> 1) &&& 1431655765) 0, Bt ((n >>> 1) &&& 1431655765) 1, Bt ((n >>> 1) &&& 1431655765) 2, Bt ((n >>> 1) &&& 1431655765) 3, Bt ((n >>> 1) &&& 1431655765) 4, Bt ((n >>> 1) &&& 1431655765) 5, Bt ((n >>> 1) &&& 1431655765) 6, Bt ((n >>> 1) &&& 1431655765) 7, Bt ((n >>> 1) &&& 1431655765) 8, Bt ((n >>> 1) &&& 1431655765) 9, Bt ((n >>> 1) &&& 1431655765) 10, Bt ((n >>> 1) &&& 1431655765) 11, Bt ((n >>> 1) &&& 1431655765) 12, Bt ((n >>> 1) &&& 1431655765) 13, Bt ((n >>> 1) &&& 1431655765) 14, Bt ((n >>> 1) &&& 1431655765) 15, Bt ((n >>> 1) &&& 1431655765) 16, Bt ((n >>> 1) &&& 1431655765) 17, Bt ((n >>> 1) &&& 1431655765) 18, Bt ((n >>> 1) &&& 1431655765) 19, Bt ((n >>> 1) &&& 1431655765) 20, Bt ((n >>> 1) &&& 1431655765) 21, Bt ((n >>> 1) &&& 1431655765) 22, Bt ((n >>> 1) &&& 1431655765) 23, Bt ((n >>> 1) &&& 1431655765) 24, Bt ((n >>> 1) &&& 1431655765) 25, Bt ((n >>> 1) &&& 1431655765) 26, Bt ((n >>> 1) &&& 1431655765) 27, Bt ((n >>> 1) &&& 1431655765) 28, Bt ((n >>> 1) &&& 1431655765) 29, Bt ((n >>> 1) &&& 1431655765) 30, Bt ((n >>> 1) &&& 1431655765) 31] = _
    have e0 : Bt ((n >>> 1) &&& 1431655765) 0 = Bt n 1 := by rw [Bt_and, Bt_shr, show Bt 1431655765 0 = 1 from rfl, Nat.mul_one]
    have e1 : Bt ((n >>> 1) &&& 1431655765) 1 = 0 := by rw [Bt_and, show Bt 1431655765 1 = 0 from rfl, Nat.mul_zero]
    have e2 : Bt ((n >>> 1) &&& 1431655765) 2 = Bt n 3 := by rw [Bt_and, Bt_shr, show Bt 1431655765 2 = 1 from rfl, Nat.mul_one]
    have e3 : Bt ((n >>> 1) &&& 1431655765) 3 = 0 := by rw [Bt_and, show Bt 1431655765 3 = 0 from rfl, Nat.mul_zero]
    have e4 : Bt ((n >>> 1) &&& 1431655765) 4 = Bt n 5 := by rw [Bt_and, Bt_shr, show Bt 1431655765 4 = 1 from rfl, Nat.mul_one]
    have e5 : Bt ((n >>> 1) &&& 1431655765) 5 = 0 := by rw [Bt_and, show Bt 1431655765 5 = 0 from rfl, Nat.mul_zero]
    have e6 : Bt ((n >>> 1) &&& 1431655765) 6 = Bt n 7 := by rw [Bt_and, Bt_shr, show Bt 1431655765 6 = 1 from rfl, Nat.mul_one]
    have e7 : Bt ((n >>> 1) &&& 1431655765) 7 = 0 := by rw [Bt_and, show Bt 1431655765 7 = 0 from rfl, Nat.mul_zero]
    have e8 : Bt ((n >>> 1) &&& 1431655765) 8 = Bt n 9 := by rw [Bt_and, Bt_shr, show Bt 1431655765 8 = 1 from rfl, Nat.mul_one]
    have e9 : Bt ((n >>> 1) &&& 1431655765) 9 = 0 := by rw [Bt_and, show Bt 1431655765 9 = 0 from rfl, Nat.mul_zero]
    have e10 : Bt ((n >>> 1) &&& 1431655765) 10 = Bt n 11 := by rw [Bt_and, Bt_shr, show Bt 1431655765 10 = 1 from rfl, Nat.mul_one]
    have e11 : Bt ((n >>> 1) &&& 1431655765) 11 = 0 := by rw [Bt_and, show Bt 1431655765 11 = 0 from rfl, Nat.mul_zero]
    have e12 : Bt ((n >>> 1) &&& 1431655765) 12 = Bt n 13 := by rw [Bt_and, Bt_shr, show Bt 1431655765 12 = 1 from rfl, Nat.mul_one]
    have e13 : Bt ((n >>> 1) &&& 1431655765) 13 = 0 := by rw [Bt_and, show Bt 1431655765 13 = 0 from rfl, Nat.mul_zero]
    have e14 : Bt ((n >>> 1) &&& 1431655765) 14 = Bt n 15 := by rw [Bt_and, Bt_shr, show Bt 1431655765 14 = 1 from rfl, Nat.mul_one]
    have e15 : Bt ((n >>> 1) &&& 1431655765) 15 = 0 := by rw [Bt_and, show Bt 1431655765 15 = 0 from rfl, Nat.mul_zero]
    have e16 : Bt ((n >>> 1) &&& 1431655765) 16 = Bt n 17 := by rw [Bt_and, Bt_shr, show Bt 1431655765 16 = 1 from rfl, Nat.mul_one]
    have e17 : Bt ((n >>> 1) &&& 1431655765) 17 = 0 := by rw [Bt_and, show Bt 1431655765 17 = 0 from rfl, Nat.mul_zero]
    have e18 : Bt ((n >>> 1) &&& 1431655765) 18 = Bt n 19 := by rw [Bt_and, Bt_shr, show Bt 1431655765 18 = 1 from rfl, Nat.mul_one]
    have e19 : Bt ((n >>> 1) &&& 1431655765) 19 = 0 := by rw [Bt_and, show Bt 1431655765 19 = 0 from rfl, Nat.mul_zero]
    have e20 : Bt ((n >>> 1) &&& 1431655765) 20 = Bt n 21 := by rw [Bt_and, Bt_shr, show Bt 1431655765 20 = 1 from rfl, Nat.mul_one]
    have e21 : Bt ((n >>> 1) &&& 1431655765) 21 = 0 := by rw [Bt_and, show Bt 1431655765 21 = 0 from rfl, Nat.mul_zero]
    have e22 : Bt ((n >>> 1) &&& 1431655765) 22 = Bt n 23 := by rw [Bt_and, Bt_shr, show Bt 1431655765 22 = 1 from rfl, Nat.mul_one]
    have e23 : Bt ((n >>> 1) &&& 1431655765) 23 = 0 := by rw [Bt_and, show Bt 1431655765 23 = 0 from rfl, Nat.mul_zero]
    have e24 : Bt ((n >>> 1) &&& 1431655765) 24 = Bt n 25 := by rw [Bt_and, Bt_shr, show Bt 1431655765 24 = 1 from rfl, Nat.mul_one]
    have e25 : Bt ((n >>> 1) &&& 1431655765) 25 = 0 := by rw [Bt_and, show Bt 1431655765 25 = 0 from rfl, Nat.mul_zero]
    have e26 : Bt ((n >>> 1) &&& 1431655765) 26 = Bt n 27 := by rw [Bt_and, Bt_shr, show Bt 1431655765 26 = 1 from rfl, Nat.mul_one]
    have e27 : Bt ((n >>> 1) &&& 1431655765) 27 = 0 := by rw [Bt_and, show Bt 1431655765 27 = 0 from rfl, Nat.mul_zero]
    have e28 : Bt ((n >>> 1) &&& 1431655765) 28 = Bt n 29 := by rw [Bt_and, Bt_shr, show Bt 1431655765 28 = 1 from rfl, Nat.mul_one]
    have e29 : Bt ((n >>> 1) &&& 1431655765) 29 = 0 := by rw [Bt_and, show Bt 1431655765 29 = 0 from rfl, Nat.mul_zero]
    have e30 : Bt ((n >>> 1) &&& 1431655765) 30 = Bt n 31 := by rw [Bt_and, Bt_shr, show Bt 1431655765 30 = 1 from rfl, Nat.mul_one]
    have e31 : Bt ((n >>> 1) &&& 1431655765) 31 = 0 := by rw [Bt_and, show Bt 1431655765 31 = 0 from rfl, Nat.mul_zero]
    rw [e0, e1, e2, e3, e4, e5, e6, e7, e8, e9, e10, e11, e12, e13, e14, e15, e16, e17, e18, e19, e20, e21, e22, e23, e24, e25, e26, e27, e28, e29, e30, e31]
  rw [hl] at hs
  exact hs
theorem an3 (n : Nat) : n &&& 858993459 = vl 2 [Bt n 0, Bt n 1, 0, 0, Bt n 4, Bt n 5, 0, 0, Bt n 8, Bt n 9, 0, 0, Bt n 12, Bt n 13, 0, 0, Bt n 16, Bt n 17, 0, 0, Bt n 20, Bt n 21, 0, 0, Bt n 24, Bt n 25, 0, 0, Bt n 28, Bt n 29, 0, 0] := by
  have hb : n &&& 858993459 < 4294967296 := Nat.lt_of_le_of_lt Nat.and_le_right (by decide)
  have hs := Bt_sum (n &&& 858993459) hb
  have hl : bT (n &&& 858993459) 32 0 = [Bt n 0, Bt n 1, 0, 0, Bt n 4, Bt n 5, 0, 0, Bt n 8, Bt n 9, 0, 0, Bt n 12, Bt n 13, 0, 0, Bt n 16, Bt n 17, 0, 0, Bt n 20, Bt n 21, 0, 0, Bt n 24, Bt n 25, 0, 0, Bt n 28, Bt n 29, 0, 0] := by
    show [Bt (n &&& 858993459) 0, Bt (n &&& 858993459) 1, Bt (n &&& 858993459) 2, Bt (n &&& 858993459) 3, Bt (n &&& 858993459) 4, Bt (n &&& 858993459) 5, Bt (n &&& 858993459) 6, Bt (n &&& 858993459) 7, Bt (n &&& 858993459) 8, Bt (n &&& 858993459) 9, Bt (n &&& 858993459) 10, Bt (n &&& 858993459) 11, Bt (n &&& 858993459) 12, Bt (n &&& 858993459) 13, Bt (n &&& 858993459) 14, Bt (n &&& 858993459) 15, Bt (n &&& 858993459) 16, Bt (n &&& 858993459) 17, Bt (n &&& 858993459) 18, Bt (n &&& 858993459) 19, Bt (n &&& 858993459) 20, Bt (n &&& 858993459) 21, Bt (n &&& 858993459) 22, Bt (n &&& 858993459) 23, Bt (n &&& 858993459) 24, Bt (n &&& 858993459) 25, Bt (n &&& 858993459) 26, Bt (n &&& 858993459) 27, Bt (n &&& 858993459) 28, Bt (n &&& 858993459) 29, Bt (n &&& 858993459) 30, Bt (n &&& 858993459) 31] = _
    have e0 : Bt (n &&& 858993459) 0 = Bt n 0 := by rw [Bt_and, show Bt 858993459 0 = 1 from rfl, Nat.mul_one]
    have e1 : Bt (n &&& 858993459) 1 = Bt n 1 := by rw [Bt_and, show Bt 858993459 1 = 1 from rfl, Nat.mul_one]
    have e2 : Bt (n &&& 858993459) 2 = 0 := by rw [Bt_and, show Bt 858993459 2 = 0 from rfl, Nat.mul_zero]
    have e3 : Bt (n &&& 858993459) 3 = 0 := by rw [Bt_and, show Bt 858993459 3 = 0 from rfl, Nat.mul_zero]
    have e4 : Bt (n &&& 858993459) 4 = Bt n 4 := by rw [Bt_and, show Bt 858993459 4 = 1 from rfl, Nat.mul_one]
    have e5 : Bt (n &&& 858993459) 5 = Bt n 5 := by rw [Bt_and, show Bt 858993459 5 = 1 from rfl, Nat.mul_one]
    have e6 : Bt (n &&& 858993459) 6 = 0 := by rw [Bt_and, show Bt 858993459 6 = 0 from rfl, Nat.mul_zero]
    have e7 : Bt (n &&& 858993459) 7 = 0 := by rw [Bt_and, show Bt 858993459 7 = 0 from rfl, Nat.mul_zero]
    have e8 : Bt (n &&& 858993459) 8 = Bt n 8 := by rw [Bt_and, show Bt 858993459 8 = 1 from rfl, Nat.mul_one]
    have e9 : Bt (n &&& 858993459) 9 = Bt n 9 := by rw [Bt_and, show Bt 858993459 9 = 1 from rfl, Nat.mul_one]
    have e10 : Bt (n &&& 858993459) 10 = 0 := by rw [Bt_and, show Bt 858993459 10 = 0 from rfl, Nat.mul_zero]
    have e11 : Bt (n &&& 858993459) 11 = 0 := by rw [Bt_and, show Bt 858993459 11 = 0 from rfl, Nat.mul_zero]
    have e12 : Bt (n &&& 858993459) 12 = Bt n 12 := by rw [Bt_and, show Bt 858993459 12 = 1 from rfl, Nat.mul_one]
    have e13 : Bt (n &&& 858993459) 13 = Bt n 13 := by rw [Bt_and, show Bt 858993459 13 = 1 from rfl, Nat.mul_one]
    have e14 : Bt (n &&& 858993459) 14 = 0 := by rw [Bt_and, show Bt 858993459 14 = 0 from rfl, Nat.mul_zero]
    have e15 : Bt (n &&& 858993459) 15 = 0 := by rw [Bt_and, show Bt 858993459 15 = 0 from rfl, Nat.mul_zero]
    have e16 : Bt (n &&& 858993459) 16 = Bt n 16 := by rw [Bt_and, show Bt 858993459 16 = 1 from rfl, Nat.mul_one]
    have e17 : Bt (n &&& 858993459) 17 = Bt n 17 := by rw [Bt_and, show Bt 858993459 17 = 1 from rfl, Nat.mul_one]
    have e18 : Bt (n &&& 858993459) 18 = 0 := by rw [Bt_and, show Bt 858993459 18 = 0 from rfl, Nat.mul_zero]
    have e19 : Bt (n &&& 858993459) 19 = 0 := by rw [Bt_and, show Bt 858993459 19 = 0 from rfl, Nat.mul_zero]
    have e20 : Bt (n &&& 858993459) 20 = Bt n 20 := by rw [Bt_and, show Bt 858993459 20 = 1 from rfl, Nat.mul_one]
    have e21 : Bt (n &&& 858993459) 21 = Bt n 21 := by rw [Bt_and, show Bt 858993459 21 = 1 from rfl, Nat.mul_one]
    have e22 : Bt (n &&& 858993459) 22 = 0 := by rw [Bt_and, show Bt 858993459 22 = 0 from rfl, Nat.mul_zero]
    have e23 : Bt (n &&& 858993459) 23 = 0 := by rw [Bt_and, show Bt 858993459 23 = 0 from rfl, Nat.mul_zero]
    have e24 : Bt (n &&& 858993459) 24 = Bt n 24 := by rw [Bt_and, show Bt 858993459 24 = 1 from rfl, Nat.mul_one]
    have e25 : Bt (n &&& 858993459) 25 = Bt n 25 := by rw [Bt_and, show Bt 858993459 25 = 1 from rfl, Nat.mul_one]
    have e26 : Bt (n &&& 858993459) 26 = 0 := by rw [Bt_and, show Bt 858993459 26 = 0 from rfl, Nat.mul_zero]
    have e27 : Bt (n &&& 858993459) 27 = 0 := by rw [Bt_and, show Bt 858993459 27 = 0 from rfl, Nat.mul_zero]
    have e28 : Bt (n &&& 858993459) 28 = Bt n 28 := by rw [Bt_and, show Bt 858993459 28 = 1 from rfl, Nat.mul_one]
    have e29 : Bt (n &&& 858993459) 29 = Bt n 29 := by rw [Bt_and, show Bt 858993459 29 = 1 from rfl, Nat.mul_one]
    have e30 : Bt (n &&& 858993459) 30 = 0 := by rw [Bt_and, show Bt 858993459 30 = 0 from rfl, Nat.mul_zero]
    have e31 : Bt (n &&& 858993459) 31 = 0 := by rw [Bt_and, show Bt 858993459 31 = 0 from rfl, Nat.mul_zero]
    rw [e0, e1, e2, e3, e4, e5, e6, e7, e8, e9, e10, e11, e12, e13, e14, e15, e16, e17, e18, e19, e20, e21, e22, e23, e24, e25, e26, e27, e28, e29, e30, e31]
  rw [hl] at hs
  exact hs
theorem an32 (n : Nat) : (n >>> 2) &&& 858993459 = vl 2 [Bt n 2, Bt n 3, 0, 0, Bt n 6, Bt n 7, 0, 0, Bt n 10, Bt n 11, 0, 0, Bt n 14, Bt n 15, 0, 0, Bt n 18, Bt n 19, 0, 0, Bt n 22, Bt n 23, 0, 0, Bt n 26, Bt n 27, 0, 0, Bt n 30, Bt n 31, 0, 0] := by
  have hb : (n >>> 2) &&& 858993459 < 4294967296 := Nat.lt_of_le_of_lt Nat.and_le_right (by decide)
  have hs := Bt_sum ((n >>> 2) &&& 858993459) hb
  have hl : bT ((n >>> 2) &&& 858993459) 32 0 = [Bt n 2, Bt n 3, 0, 0, Bt n 6, Bt n 7, 0, 0, Bt n 10, Bt n 11, 0, 0, Bt n 14, Bt n 15, 0, 0, Bt n 18, Bt n 19, 0, 0, Bt n 22, Bt n 23, 0, 0, Bt n 26, Bt n 27, 0, 0, Bt n 30, Bt n 31, 0, 0] := by
    show [Bt ((n >>> 2) &&& 858993459) 0, Bt ((n >>> 2) &&& 858993459) 1, Bt ((n >>> 2) &&& 858993459) 2, Bt ((n >>> 2) &&& 858993459) 3, Bt ((n >>> 2) &&& 858993459) 4, Bt ((n >>> 2) &&& 858993459) 5, Bt ((n >>> 2) &&& 858993459) 6, Bt ((n >>> 2) &&& 858993459) 7, Bt ((n >>> 2) &&& 858993459) 8, Bt ((n >>> 2) &&& 858993459) 9, Bt ((n >>> 2) &&& 858993459) 10, Bt ((n >>> 2) &&& 858993459) 11, Bt ((n >>> 2) &&& 858993459) 12, Bt ((n >>> 2) &&& 858993459) 13, Bt ((n >>> 2) &&& 858993459) 14, Bt ((n >>> 2) &&& 858993459) 15, Bt ((n >>> 2) &&& 858993459) 16, Bt ((n >>> 2) &&& 858993459) 17, Bt ((n >>> 2) &&& 858993459) 18, Bt ((n >>> 2) &&& 858993459) 19, Bt ((n >>> 2) &&& 858993459) 20, Bt ((n >>> 2) &&& 858993459) 21, Bt ((n >>> 2) &&& 858993459) 22, Bt ((n >>> 2) &&& 858993459) 23, Bt ((n >>> 2) &&& 858993459) 24, Bt ((n >>> 2) &&& 858993459) 25, Bt ((n >>> 2) &&& 858993459) 26, Bt ((n >>> 2) &&& 858993459) 27, Bt ((n >>> 2) &&& 858993459) 28, Bt ((n >>> 2) &&& 858993459) 29, Bt ((n >>> 2) &&& 858993459) 30, Bt ((n >>> 2) &&& 858993459) 31] = _
    have e0 : Bt ((n >>> 2) &&& 858993459) 0 = Bt n 2 := by rw [Bt_and, Bt_shr, show Bt 858993459 0 = 1 from rfl, Nat.mul_one]
    have e1 : Bt ((n >>> 2) &&& 858993459) 1 = Bt n 3 := by rw [Bt_and, Bt_shr, show Bt 858993459 1 = 1 from rfl, Nat.mul_one]
    have e2 : Bt ((n >>> 2) &&& 858993459) 2 = 0 := by rw [Bt_and, show Bt 858993459 2 = 0 from rfl, Nat.mul_zero]
    have e3 : Bt ((n >>> 2) &&& 858993459) 3 = 0 := by rw [Bt_and, show Bt 858993459 3 = 0 from rfl, Nat.mul_zero]
    have e4 : Bt ((n >>> 2) &&& 858993459) 4 = Bt n 6 := by rw [Bt_and, Bt_shr, show Bt 858993459 4 = 1 from rfl, Nat.mul_one]
    have e5 : Bt ((n >>> 2) &&& 858993459) 5 = Bt n 7 := by rw [Bt_and, Bt_shr, show Bt 858993459 5 = 1 from rfl, Nat.mul_one]
    have e6 : Bt ((n >>> 2) &&& 858993459) 6 = 0 := by rw [Bt_and, show Bt 858993459 6 = 0 from rfl, Nat.mul_zero]
    have e7 : Bt ((n >>> 2) &&& 858993459) 7 = 0 := by rw [Bt_and, show Bt 858993459 7 = 0 from rfl, Nat.mul_zero]
    have e8 : Bt ((n >>> 2) &&& 858993459) 8 = Bt n 10 := by rw [Bt_and, Bt_shr, show Bt 858993459 8 = 1 from rfl, Nat.mul_one]
    have e9 : Bt ((n >>> 2) &&& 858993459) 9 = Bt n 11 := by rw [Bt_and, Bt_shr, show Bt 858993459 9 = 1 from rfl, Nat.mul_one]
    have e10 : Bt ((n >>> 2) &&& 858993459) 10 = 0 := by rw [Bt_and, show Bt 858993459 10 = 0 from rfl, Nat.mul_zero]
    have e11 : Bt ((n >>> 2) &&& 858993459) 11 = 0 := by rw [Bt_and, show Bt 858993459 11 = 0 from rfl, Nat.mul_zero]
    have e12 : Bt ((n >>> 2) &&& 858993459) 12 = Bt n 14 := by rw [Bt_and, Bt_shr, show Bt 858993459 12 = 1 from rfl, Nat.mul_one]
    have e13 : Bt ((n >>> 2) &&& 858993459) 13 = Bt n 15 := by rw [Bt_and, Bt_shr, show Bt 858993459 13 = 1 from rfl, Nat.mul_one]
    have e14 : Bt ((n >>> 2) &&& 858993459) 14 = 0 := by rw [Bt_and, show Bt 858993459 14 = 0 from rfl, Nat.mul_zero]
    have e15 : Bt ((n >>> 2) &&& 858993459) 15 = 0 := by rw [Bt_and, show Bt 858993459 15 = 0 from rfl, Nat.mul_zero]
    have e16 : Bt ((n >>> 2) &&& 858993459) 16 = Bt n 18 := by rw [Bt_and, Bt_shr, show Bt 858993459 16 = 1 from rfl, Nat.mul_one]
    have e17 : Bt ((n >>> 2) &&& 858993459) 17 = Bt n 19 := by rw [Bt_and, Bt_shr, show Bt 858993459 17 = 1 from rfl, Nat.mul_one]
    have e18 : Bt ((n >>> 2) &&& 858993459) 18 = 0 := by rw [Bt_and, show Bt 858993459 18 = 0 from rfl, Nat.mul_zero]
    have e19 : Bt ((n >>> 2) &&& 858993459) 19 = 0 := by rw [Bt_and, show Bt 858993459 19 = 0 from rfl, Nat.mul_zero]
    have e20 : Bt ((n >>> 2) &&& 858993459) 20 = Bt n 22 := by rw [Bt_and, Bt_shr, show Bt 858993459 20 = 1 from rfl, Nat.mul_one]
    have e21 : Bt ((n >>> 2) &&& 858993459) 21 = Bt n 23 := by rw [Bt_and, Bt_shr, show Bt 858993459 21 = 1 from rfl, Nat.mul_one]
    have e22 : Bt ((n >>> 2) &&& 858993459) 22 = 0 := by rw [Bt_and, show Bt 858993459 22 = 0 from rfl, Nat.mul_zero]
    have e23 : Bt ((n >>> 2) &&& 858993459) 23 = 0 := by rw [Bt_and, show Bt 858993459 23 = 0 from rfl, Nat.mul_zero]
    have e24 : Bt ((n >>> 2) &&& 858993459) 24 = Bt n 26 := by rw [Bt_and, Bt_shr, show Bt 858993459 24 = 1 from rfl, Nat.mul_one]
    have e25 : Bt ((n >>> 2) &&& 858993459) 25 = Bt n 27 := by rw [Bt_and, Bt_shr, show Bt 858993459 25 = 1 from rfl, Nat.mul_one]
    have e26 : Bt ((n >>> 2) &&& 858993459) 26 = 0 := by rw [Bt_and, show Bt 858993459 26 = 0 from rfl, Nat.mul_zero]
    have e27 : Bt ((n >>> 2) &&& 858993459) 27 = 0 := by rw [Bt_and, show Bt 858993459 27 = 0 from rfl, Nat.mul_zero]
    have e28 : Bt ((n >>> 2) &&& 858993459) 28 = Bt n 30 := by rw [Bt_and, Bt_shr, show Bt 858993459 28 = 1 from rfl, Nat.mul_one]
    have e29 : Bt ((n >>> 2) &&& 858993459) 29 = Bt n 31 := by rw [Bt_and, Bt_shr, show Bt 858993459 29 = 1 from rfl, Nat.mul_one]
    have e30 : Bt ((n >>> 2) &&& 858993459) 30 = 0 := by rw [Bt_and, show Bt 858993459 30 = 0 from rfl, Nat.mul_zero]
    have e31 : Bt ((n >>> 2) &&& 858993459) 31 = 0 := by rw [Bt_and, show Bt 858993459 31 = 0 from rfl, Nat.mul_zero]
    rw [e0, e1, e2, e3, e4, e5, e6, e7, e8, e9, e10, e11, e12, e13, e14, e15, e16, e17, e18, e19, e20, e21, e22, e23, e24, e25, e26, e27, e28, e29, e30, e31]
  rw [hl] at hs
  exact hs
theorem an0f (n : Nat) : n &&& 252645135 = vl 2 [Bt n 0, Bt n 1, Bt n 2, Bt n 3, 0, 0, 0, 0, Bt n 8, Bt n 9, Bt n 10, Bt n 11, 0, 0, 0, 0, Bt n 16, Bt n 17, Bt n 18, Bt n 19, 0, 0, 0, 0, Bt n 24, Bt n 25, Bt n 26, Bt n 27, 0, 0, 0, 0] := by
  have hb : n &&& 252645135 < 4294967296 := Nat.lt_of_le_of_lt Nat.and_le_right (by decide)
  have hs := Bt_sum (n &&& 252645135) hb
  have hl : bT (n &&& 252645135) 32 0 = [Bt n 0, Bt n 1, Bt n 2, Bt n 3, 0, 0, 0, 0, Bt n 8, Bt n 9, Bt n 10, Bt n 11, 0, 0, 0, 0, Bt n 16, Bt n 17, Bt n 18, Bt n 19, 0, 0, 0, 0, Bt n 24, Bt n 25, Bt n 26, Bt n 27, 0, 0, 0, 0] := by
    show [Bt (n &&& 252645135) 0, Bt (n &&& 252645135) 1, Bt (n &&& 252645135) 2, Bt (n &&& 252645135) 3, Bt (n &&& 252645135) 4, Bt (n &&& 252645135) 5, Bt (n &&& 252645135) 6, Bt (n &&& 252645135) 7, Bt (n &&& 252645135) 8, Bt (n &&& 252645135) 9, Bt (n &&& 252645135) 10, Bt (n &&& 252645135) 11, Bt (n &&& 252645135) 12, Bt (n &&& 252645135) 13, Bt (n &&& 252645135) 14, Bt (n &&& 252645135) 15, Bt (n &&& 252645135) 16, Bt (n &&& 252645135) 17, Bt (n &&& 252645135) 18, Bt (n &&& 252645135) 19, Bt (n &&& 252645135) 20, Bt (n &&& 252645135) 21, Bt (n &&& 252645135) 22, Bt (n &&& 252645135) 23, Bt (n &&& 252645135) 24, Bt (n &&& 252645135) 25, Bt (n &&& 252645135) 26, Bt (n &&& 252645135) 27, Bt (n &&& 252645135) 28, Bt (n &&& 252645135) 29, Bt (n &&& 252645135) 30, Bt (n &&& 252645135) 31] = _
    have e0 : Bt (n &&& 252645135) 0 = Bt n 0 := by rw [Bt_and, show Bt 252645135 0 = 1 from rfl, Nat.mul_one]
    have e1 : Bt (n &&& 252645135) 1 = Bt n 1 := by rw [Bt_and, show Bt 252645135 1 = 1 from rfl, Nat.mul_one]
    have e2 : Bt (n &&& 252645135) 2 = Bt n 2 := by rw [Bt_and, show Bt 252645135 2 = 1 from rfl, Nat.mul_one]
    have e3 : Bt (n &&& 252645135) 3 = Bt n 3 := by rw [Bt_and, show Bt 252645135 3 = 1 from rfl, Nat.mul_one]
    have e4 : Bt (n &&& 252645135) 4 = 0 := by rw [Bt_and, show Bt 252645135 4 = 0 from rfl, Nat.mul_zero]
    have e5 : Bt (n &&& 252645135) 5 = 0 := by rw [Bt_and, show Bt 252645135 5 = 0 from rfl, Nat.mul_zero]
    have e6 : Bt (n &&& 252645135) 6 = 0 := by rw [Bt_and, show Bt 252645135 6 = 0 from rfl, Nat.mul_zero]
    have e7 : Bt (n &&& 252645135) 7 = 0 := by rw [Bt_and, show Bt 252645135 7 = 0 from rfl, Nat.mul_zero]
    have e8 : Bt (n &&& 252645135) 8 = Bt n 8 := by rw [Bt_and, show Bt 252645135 8 = 1 from rfl, Nat.mul_one]
    have e9 : Bt (n &&& 252645135) 9 = Bt n 9 := by rw [Bt_and, show Bt 252645135 9 = 1 from rfl, Nat.mul_one]
    have e10 : Bt (n &&& 252645135) 10 = Bt n 10 := by rw [Bt_and, show Bt 252645135 10 = 1 from rfl, Nat.mul_one]
    have e11 : Bt (n &&& 252645135) 11 = Bt n 11 := by rw [Bt_and, show Bt 252645135 11 = 1 from rfl, Nat.mul_one]
    have e12 : Bt (n &&& 252645135) 12 = 0 := by rw [Bt_and, show Bt 252645135 12 = 0 from rfl, Nat.mul_zero]
    have e13 : Bt (n &&& 252645135) 13 = 0 := by rw [Bt_and, show Bt 252645135 13 = 0 from rfl, Nat.mul_zero]
    have e14 : Bt (n &&& 252645135) 14 = 0 := by rw [Bt_and, show Bt 252645135 14 = 0 from rfl, Nat.mul_zero]
    have e15 : Bt (n &&& 252645135) 15 = 0 := by rw [Bt_and, show Bt 252645135 15 = 0 from rfl, Nat.mul_zero]
    have e16 : Bt (n &&& 252645135) 16 = Bt n 16 := by rw [Bt_and, show Bt 252645135 16 = 1 from rfl, Nat.mul_one]
    have e17 : Bt (n &&& 252645135) 17 = Bt n 17 := by rw [Bt_and, show Bt 252645135 17 = 1 from rfl, Nat.mul_one]
    have e18 : Bt (n &&& 252645135) 18 = Bt n 18 := by rw [Bt_and, show Bt 252645135 18 = 1 from rfl, Nat.mul_one]
    have e19 : Bt (n &&& 252645135) 19 = Bt n 19 := by rw [Bt_and, show Bt 252645135 19 = 1 from rfl, Nat.mul_one]
    have e20 : Bt (n &&& 252645135) 20 = 0 := by rw [Bt_and, show Bt 252645135 20 = 0 from rfl, Nat.mul_zero]
    have e21 : Bt (n &&& 252645135) 21 = 0 := by rw [Bt_and, show Bt 252645135 21 = 0 from rfl, Nat.mul_zero]
    have e22 : Bt (n &&& 252645135) 22 = 0 := by rw [Bt_and, show Bt 252645135 22 = 0 from rfl, Nat.mul_zero]
    have e23 : Bt (n &&& 252645135) 23 = 0 := by rw [Bt_and, show Bt 252645135 23 = 0 from rfl, Nat.mul_zero]
    have e24 : Bt (n &&& 252645135) 24 = Bt n 24 := by rw [Bt_and, show Bt 252645135 24 = 1 from rfl, Nat.mul_one]
    have e25 : Bt (n &&& 252645135) 25 = Bt n 25 := by rw [Bt_and, show Bt 252645135 25 = 1 from rfl, Nat.mul_one]
    have e26 : Bt (n &&& 252645135) 26 = Bt n 26 := by rw [Bt_and, show Bt 252645135 26 = 1 from rfl, Nat.mul_one]
    have e27 : Bt (n &&& 252645135) 27 = Bt n 27 := by rw [Bt_and, show Bt 252645135 27 = 1 from rfl, Nat.mul_one]
    have e28 : Bt (n &&& 252645135) 28 = 0 := by rw [Bt_and, show Bt 252645135 28 = 0 from rfl, Nat.mul_zero]
    have e29 : Bt (n &&& 252645135) 29 = 0 := by rw [Bt_and, show Bt 252645135 29 = 0 from rfl, Nat.mul_zero]
    have e30 : Bt (n &&& 252645135) 30 = 0 := by rw [Bt_and, show Bt 252645135 30 = 0 from rfl, Nat.mul_zero]
    have e31 : Bt (n &&& 252645135) 31 = 0 := by rw [Bt_and, show Bt 252645135 31 = 0 from rfl, Nat.mul_zero]
    rw [e0, e1, e2, e3, e4, e5, e6, e7, e8, e9, e10, e11, e12, e13, e14, e15, e16, e17, e18, e19, e20, e21, e22, e23, e24, e25, e26, e27, e28, e29, e30, e31]
  rw [hl] at hs
  exact hs
theorem pop1 (n : Nat) (h : n < 4294967296) : (n >>> 1) &&& 1431655765 ≤ n ∧ n - ((n >>> 1) &&& 1431655765) < 4294967296 ∧ pr (bT (n - ((n >>> 1) &&& 1431655765)) 32 0) = sp (bT n 32 0) := by
  have ha : (n >>> 1) &&& 1431655765 = vl 2 (odd0 (bT n 32 0)) := an5 n
  have hs := Bt_sum n h
  have h1 := st1 16 (bT n 32 0) rfl
  generalize ht : (n >>> 1) &&& 1431655765 = t at *
  have hle : t ≤ n := by omega
  have hvb : n - t < 4294967296 := by omega
  refine ⟨hle, hvb, ?_⟩
  have hv := Bt_sum (n - t) hvb
  have hv2 := pr_v 16 (bT (n - t) 32 0) rfl
  refine vl_inj (b := 4) (by decide) rfl (pr_m 16 _ rfl (bT_mem _ 32 0)) (fun d hd => ?_) (by omega)
  have key : ∀ (k : Nat) (l : List Nat), l.length = 2 * k → (∀ d ∈ l, d ≤ 1) → ∀ d ∈ sp l, d < 4 := by
    intro k
    induction k with
    | zero =>
      intro l hl hm d h
      match l, hl with
      | [], _ => cases h
    | succ k ih =>
      intro l hl hm d h
      match l, hl with
      | a :: b :: l, hl =>
        rcases List.mem_cons.mp h with e | e
        · have := hm a List.mem_cons_self
          have := hm b (List.mem_cons_of_mem _ List.mem_cons_self)
          omega
        · exact ih l (by simp only [List.length_cons] at hl; omega) (fun d hd => hm d (List.mem_cons_of_mem _ (List.mem_cons_of_mem _ hd))) d e
  exact key 16 _ rfl (bT_mem n 32 0) d hd
theorem pop2 (n v : Nat) (h : pr (bT v 32 0) = sp (bT n 32 0)) : (v &&& 858993459) + ((v >>> 2) &&& 858993459) = vl 16 (sp (sp (bT n 32 0))) := by
  have h1 := an3 v
  have h2 := an32 v
  rw [pr_v 16 _ rfl] at h1 h2
  have h1 : v &&& 858993459 = vl 4 (evn0 (pr (bT v 32 0))) := h1
  have h2 : (v >>> 2) &&& 858993459 = vl 4 (odd0 (pr (bT v 32 0))) := h2
  rw [h1, h2, st2 8 _ rfl, h]
theorem sp_le (c : Nat) : ∀ (k : Nat) (l : List Nat), l.length = 2 * k → (∀ d ∈ l, d ≤ c) → ∀ d ∈ sp l, d ≤ 2 * c := by
  intro k
  induction k with
  | zero =>
    intro l hl hm d h
    match l, hl with
    | [], _ => cases h
  | succ k ih =>
    intro l hl hm d h
    match l, hl with
    | a :: b :: l, hl =>
      rcases List.mem_cons.mp h with e | e
      · have := hm a List.mem_cons_self
        have := hm b (List.mem_cons_of_mem _ List.mem_cons_self)
        omega
      · exact ih l (by simp only [List.length_cons] at hl; omega) (fun d hd => hm d (List.mem_cons_of_mem _ (List.mem_cons_of_mem _ hd))) d e
theorem pop3 (w n0 n1 n2 n3 n4 n5 n6 n7 : Nat) (k : ∀ d ∈ [n0, n1, n2, n3, n4, n5, n6, n7], d ≤ 4) (hw : w = vl 16 [n0, n1, n2, n3, n4, n5, n6, n7]) : w < 4294967296 ∧ w + (w >>> 4) < 4294967296 ∧ (w + (w >>> 4)) &&& 252645135 = vl 256 [n0 + n1, n2 + n3, n4 + n5, n6 + n7] := by
  have k0 := k n0 (by simp)
  have k1 := k n1 (by simp)
  have k2 := k n2 (by simp)
  have k3 := k n3 (by simp)
  have k4 := k n4 (by simp)
  have k5 := k n5 (by simp)
  have k6 := k n6 (by simp)
  have k7 := k n7 (by simp)
  simp only [vl] at hw
  have hq : w >>> 4 = n1 + 16 * (n2 + 16 * (n3 + 16 * (n4 + 16 * (n5 + 16 * (n6 + 16 * (n7 + 16 * 0)))))) := by rw [Nat.shiftRight_eq_div_pow]; omega
  have hwb : w < 4294967296 := by omega
  have hub : w + (w >>> 4) < 4294967296 := by omega
  refine ⟨hwb, hub, ?_⟩
  obtain ⟨u, hu⟩ : ∃ u, u = w + (w >>> 4) := ⟨_, rfl⟩
  rw [← hu] at hub ⊢
  have hs := Bt_sum u hub
  have hs2 := nb4_v 8 (bT u 32 0) rfl
  have hv : u = vl 16 [n0 + n1, n1 + n2, n2 + n3, n3 + n4, n4 + n5, n5 + n6, n6 + n7, n7] := by
    simp only [vl]
    omega
  have key := vl_inj (b := 16) (l := nb4 (bT u 32 0)) (m := [n0 + n1, n1 + n2, n2 + n3, n3 + n4, n4 + n5, n5 + n6, n6 + n7, n7]) (by decide) rfl (nb4_m 8 _ rfl (bT_mem u 32 0)) (fun d hd => by
    clear hs hs2 hv hu hq hw hub hwb k
    simp only [List.mem_cons, List.not_mem_nil, or_false] at hd
    rcases hd with e | e | e | e | e | e | e | e <;> omega) (by rw [← hs2, ← hs]; exact hv)
  have ha := an0f u
  rw [nb4_v 8 _ rfl] at ha
  have ha : u &&& 252645135 = vl 16 (evn0 (nb4 (bT u 32 0))) := ha
  rw [ha, key, st3 4 _ rfl]
  rfl
theorem pop4 (x m0 m1 m2 m3 : Nat) (k0 : m0 ≤ 8) (k1 : m1 ≤ 8) (k2 : m2 ≤ 8) (k3 : m3 ≤ 8) (hx : x = vl 256 [m0, m1, m2, m3]) : x + (x >>> 8) < 4294967296 ∧ (x + (x >>> 8)) + ((x + (x >>> 8)) >>> 16) < 4294967296 ∧ ((x + (x >>> 8)) + ((x + (x >>> 8)) >>> 16)) &&& 63 = m0 + m1 + m2 + m3 := by
  simp only [vl] at hx
  have h1 : x >>> 8 = m1 + 256 * m2 + 65536 * m3 := by rw [Nat.shiftRight_eq_div_pow]; omega
  obtain ⟨y, hy⟩ : ∃ y, y = x + (x >>> 8) := ⟨_, rfl⟩
  rw [← hy]
  have h2 : y >>> 16 = m2 + m3 + 256 * m3 := by rw [Nat.shiftRight_eq_div_pow]; omega
  have h3 : (y + (y >>> 16)) &&& 63 = (y + (y >>> 16)) % 64 := Nat.and_two_pow_sub_one_eq_mod _ 6
  rw [h3]
  omega
def cnt32 (n : Nat) : Nat := ((Bt n 0 + Bt n 1 + (Bt n 2 + Bt n 3)) + (Bt n 4 + Bt n 5 + (Bt n 6 + Bt n 7))) + ((Bt n 8 + Bt n 9 + (Bt n 10 + Bt n 11)) + (Bt n 12 + Bt n 13 + (Bt n 14 + Bt n 15))) + ((Bt n 16 + Bt n 17 + (Bt n 18 + Bt n 19)) + (Bt n 20 + Bt n 21 + (Bt n 22 + Bt n 23))) + ((Bt n 24 + Bt n 25 + (Bt n 26 + Bt n 27)) + (Bt n 28 + Bt n 29 + (Bt n 30 + Bt n 31)))
def pcB (x : BitVec 32) : BitVec 32 :=
  let v1 := x - ((x >>> 1) &&& 1431655765#32)
  let v2 := (v1 &&& 858993459#32) + ((v1 >>> 2) &&& 858993459#32)
  let v3 := (v2 + (v2 >>> 4)) &&& 252645135#32
  let v4 := v3 + (v3 >>> 8)
  let v5 := v4 + (v4 >>> 16)
  v5 &&& 63#32
theorem q_le (n a b c d : Nat) : Bt n a + Bt n b + (Bt n c + Bt n d) ≤ 4 := by have e := Bt_le n a; have f := Bt_le n b; have g := Bt_le n c; have h := Bt_le n d; omega
theorem pcB_n (x : BitVec 32) : (pcB x).toNat = cnt32 x.toNat := by
  have hx : x.toNat < 4294967296 := x.isLt
  obtain ⟨hle, hvb, hpr⟩ := pop1 x.toNat hx
  have b1 : (x - ((x >>> 1) &&& 1431655765#32)).toNat = x.toNat - ((x.toNat >>> 1) &&& 1431655765) := by
    rw [BitVec.toNat_sub_of_le]
    · rfl
    · exact hle
  obtain ⟨y1, hy1⟩ : ∃ y, y = x - ((x >>> 1) &&& 1431655765#32) := ⟨_, rfl⟩
  rw [← hy1] at b1
  obtain ⟨v, hv⟩ : ∃ v, v = x.toNat - ((x.toNat >>> 1) &&& 1431655765) := ⟨_, rfl⟩
  rw [← hv] at b1 hvb hpr
  have p2 := pop2 x.toNat v hpr
  obtain ⟨w, hw⟩ : ∃ w, w = (v &&& 858993459) + ((v >>> 2) &&& 858993459) := ⟨_, rfl⟩
  rw [← hw] at p2
  have p2 : w = vl 16 [Bt x.toNat 0 + Bt x.toNat 1 + (Bt x.toNat 2 + Bt x.toNat 3), Bt x.toNat 4 + Bt x.toNat 5 + (Bt x.toNat 6 + Bt x.toNat 7), Bt x.toNat 8 + Bt x.toNat 9 + (Bt x.toNat 10 + Bt x.toNat 11), Bt x.toNat 12 + Bt x.toNat 13 + (Bt x.toNat 14 + Bt x.toNat 15), Bt x.toNat 16 + Bt x.toNat 17 + (Bt x.toNat 18 + Bt x.toNat 19), Bt x.toNat 20 + Bt x.toNat 21 + (Bt x.toNat 22 + Bt x.toNat 23), Bt x.toNat 24 + Bt x.toNat 25 + (Bt x.toNat 26 + Bt x.toNat 27), Bt x.toNat 28 + Bt x.toNat 29 + (Bt x.toNat 30 + Bt x.toNat 31)] := p2
  obtain ⟨p3a, p3b, p3c⟩ := pop3 w _ _ _ _ _ _ _ _ (fun d hd => sp_le 2 8 (sp (bT x.toNat 32 0)) rfl (sp_le 1 16 (bT x.toNat 32 0) rfl (bT_mem x.toNat 32 0)) d hd) p2
  have b2 : ((y1 &&& 858993459#32) + ((y1 >>> 2) &&& 858993459#32)).toNat = w := by
    rw [BitVec.toNat_add, BitVec.toNat_and, BitVec.toNat_and, BitVec.toNat_ushiftRight, b1]
    show ((v &&& 858993459) + ((v >>> 2) &&& 858993459)) % 4294967296 = w
    rw [← hw, Nat.mod_eq_of_lt p3a]
  obtain ⟨y2, hy2⟩ : ∃ y, y = (y1 &&& 858993459#32) + ((y1 >>> 2) &&& 858993459#32) := ⟨_, rfl⟩
  rw [← hy2] at b2
  obtain ⟨u, hu⟩ : ∃ u, u = (w + (w >>> 4)) &&& 252645135 := ⟨_, rfl⟩
  rw [← hu] at p3c
  have b3 : ((y2 + (y2 >>> 4)) &&& 252645135#32).toNat = u := by
    rw [BitVec.toNat_and, BitVec.toNat_add, BitVec.toNat_ushiftRight, b2]
    show (w + (w >>> 4)) % 4294967296 &&& 252645135 = u
    rw [Nat.mod_eq_of_lt p3b, hu]
  obtain ⟨y3, hy3⟩ : ∃ y, y = (y2 + (y2 >>> 4)) &&& 252645135#32 := ⟨_, rfl⟩
  rw [← hy3] at b3
  obtain ⟨p4a, p4b, p4c⟩ := pop4 u _ _ _ _ (Nat.add_le_add (q_le x.toNat 0 1 2 3) (q_le x.toNat 4 5 6 7)) (Nat.add_le_add (q_le x.toNat 8 9 10 11) (q_le x.toNat 12 13 14 15)) (Nat.add_le_add (q_le x.toNat 16 17 18 19) (q_le x.toNat 20 21 22 23)) (Nat.add_le_add (q_le x.toNat 24 25 26 27) (q_le x.toNat 28 29 30 31)) p3c
  have b4 : (y3 + (y3 >>> 8)).toNat = u + (u >>> 8) := by
    rw [BitVec.toNat_add, BitVec.toNat_ushiftRight, b3]
    exact Nat.mod_eq_of_lt p4a
  have b5 : ((y3 + (y3 >>> 8)) + ((y3 + (y3 >>> 8)) >>> 16)).toNat = (u + (u >>> 8)) + ((u + (u >>> 8)) >>> 16) := by
    rw [BitVec.toNat_add, BitVec.toNat_ushiftRight, b4]
    exact Nat.mod_eq_of_lt p4b
  have hp : pcB x = ((y3 + (y3 >>> 8)) + ((y3 + (y3 >>> 8)) >>> 16)) &&& 63#32 := by rw [hy3, hy2, hy1]; rfl
  rw [hp, BitVec.toNat_and, b5]
  show ((u + (u >>> 8)) + ((u + (u >>> 8)) >>> 16)) &&& 63 = cnt32 x.toNat
  rw [p4c]
  rfl
theorem c_bitCount (x : Int32) (s : ST) : f_J6_bitCount_0f7a4 x s = some (Int32.ofBitVec (pcB x.toBitVec), s) := rfl
