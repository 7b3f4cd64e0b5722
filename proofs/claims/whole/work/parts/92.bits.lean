/-! L3: bits; how many there are -/
def vl (b : Nat) : List Nat → Nat
  | [] => 0
  | d :: l => d + b * vl b l
theorem vl_inj {b : Nat} (hb : 0 < b) : ∀ {l m : List Nat}, l.length = m.length → (∀ d ∈ l, d < b) → (∀ d ∈ m, d < b) → vl b l = vl b m → l = m
  | [], [], _, _, _, _ => rfl
  | x :: l, y :: m, hl, h1, h2, h => by
    have a := h1 x List.mem_cons_self
    have c := h2 y List.mem_cons_self
    have h : x + b * vl b l = y + b * vl b m := h
    have e1 : x = y := by
      have := congrArg (· % b) h
      simp only [Nat.add_mul_mod_self_left] at this
      rwa [Nat.mod_eq_of_lt a, Nat.mod_eq_of_lt c] at this
    have e2 : vl b l = vl b m := by
      rw [e1] at h
      exact Nat.eq_of_mul_eq_mul_left hb (Nat.add_left_cancel h)
    rw [e1, vl_inj hb (by simpa using hl) (fun d hd => h1 d (List.mem_cons_of_mem _ hd)) (fun d hd => h2 d (List.mem_cons_of_mem _ hd)) e2]
  | [], _ :: _, hl, _, _, _ => by cases hl
  | _ :: _, [], hl, _, _, _ => by cases hl
def Bt (n i : Nat) : Nat := n / 2 ^ i % 2
theorem Bt_t (n i : Nat) : Bt n i = (n.testBit i).toNat := by
  unfold Bt
  rw [Nat.testBit_eq_decide_div_mod_eq]
  by_cases h : n / 2 ^ i % 2 = 1
  · rw [decide_eq_true h, h]; rfl
  · rw [decide_eq_false h]
    have : n / 2 ^ i % 2 < 2 := Nat.mod_lt _ (by decide)
    show n / 2 ^ i % 2 = 0
    omega
theorem Bt_le (n i : Nat) : Bt n i ≤ 1 := by unfold Bt; have : n / 2 ^ i % 2 < 2 := Nat.mod_lt _ (by decide); omega
theorem Bt_and (n m i : Nat) : Bt (n &&& m) i = Bt n i * Bt m i := by
  rw [Bt_t, Bt_t, Bt_t, Nat.testBit_and]
  cases n.testBit i <;> cases m.testBit i <;> rfl
theorem Bt_shr (n k i : Nat) : Bt (n >>> k) i = Bt n (k + i) := by
  unfold Bt
  rw [Nat.shiftRight_eq_div_pow, Nat.div_div_eq_div_mul, ← Nat.pow_add]
theorem Bt_s (n i : Nat) : n % 2 ^ (i + 1) = n % 2 ^ i + 2 ^ i * Bt n i := Nat.mod_pow_succ

def sumB (n : Nat) : Nat → Nat
  | 0 => 0
  | k + 1 => sumB n k + 2 ^ k * Bt n k
theorem sumB_eq (n : Nat) : ∀ k, n % 2 ^ k = sumB n k
  | 0 => by rw [Nat.pow_zero, Nat.mod_one]; rfl
  | k + 1 => by rw [Bt_s, sumB_eq n k]; rfl
theorem Bt_sum (n : Nat) (h : n < 4294967296) : n = 1 * Bt n 0 + 2 * Bt n 1 + 4 * Bt n 2 + 8 * Bt n 3 + 16 * Bt n 4 + 32 * Bt n 5 + 64 * Bt n 6 + 128 * Bt n 7 + 256 * Bt n 8 + 512 * Bt n 9 + 1024 * Bt n 10 + 2048 * Bt n 11 + 4096 * Bt n 12 + 8192 * Bt n 13 + 16384 * Bt n 14 + 32768 * Bt n 15 + 65536 * Bt n 16 + 131072 * Bt n 17 + 262144 * Bt n 18 + 524288 * Bt n 19 + 1048576 * Bt n 20 + 2097152 * Bt n 21 + 4194304 * Bt n 22 + 8388608 * Bt n 23 + 16777216 * Bt n 24 + 33554432 * Bt n 25 + 67108864 * Bt n 26 + 134217728 * Bt n 27 + 268435456 * Bt n 28 + 536870912 * Bt n 29 + 1073741824 * Bt n 30 + 2147483648 * Bt n 31 := by
  have e : n = sumB n 32 := by rw [← sumB_eq]; exact (Nat.mod_eq_of_lt h).symm
  simp only [sumB, Nat.reducePow, Nat.zero_add] at e
  exact e
