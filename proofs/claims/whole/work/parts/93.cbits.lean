/-! L3: sets of places as bits -/
def bmN : Nat → (Int → Bool) → BitVec 32
  | 0, _ => 0#32
  | n + 1, f => bmN n f ||| (if f (n : Int) = true then 1#32 <<< n else 0#32)
theorem one_shl (n i : Nat) (hn : n < 32) : (1#32 <<< n).getLsbD i = decide (i = n) := by
  rw [BitVec.getLsbD_shiftLeft]
  by_cases h : i = n
  · subst h
    simp [hn]
  · rw [decide_eq_false h]
    by_cases h2 : i < n
    · simp [h2]
    · have : ¬ i - n = 0 := by omega
      simp [this]
theorem bmN_get (f : Int → Bool) (i : Nat) : ∀ n : Nat, n ≤ 32 → (bmN n f).getLsbD i = (decide (i < n) && f (i : Int))
  | 0, _ => by simp [bmN]
  | n + 1, hn => by
    rw [bmN, BitVec.getLsbD_or, bmN_get f i n (by omega)]
    by_cases hf : f (n : Int) = true
    · rw [if_pos hf, one_shl n i (by omega)]
      by_cases e : i = n
      · subst e; simp [hf]
      · by_cases e2 : i < n
        · simp [e, e2, show i < n + 1 by omega]
        · simp [e, e2, show ¬ i < n + 1 by omega]
    · rw [if_neg hf]
      have hf' : f (n : Int) = false := by cases h : f (n : Int) with
        | true => exact absurd h hf
        | false => rfl
      by_cases e : i = n
      · subst e; simp [hf']
      · by_cases e2 : i < n
        · simp [e2, show i < n + 1 by omega]
        · simp [e2, show ¬ i < n + 1 by omega]
def bmk (f : Int → Bool) : Int32 := Int32.ofBitVec (bmN 25 f)
def tb (x : Int32) (q : Nat) : Bool := x.toBitVec.getLsbD q
theorem bmk_tb (f : Int → Bool) (i : Nat) : tb (bmk f) i = (decide (i < 25) && f (i : Int)) := bmN_get f i 25 (by omega)
theorem i32_ext {x y : Int32} (h : ∀ i : Nat, i < 32 → tb x i = tb y i) : x = y := Int32.toBitVec.inj (BitVec.eq_of_getLsbD_eq (fun i hi => h i hi))
theorem bmk_congr {f g : Int → Bool} (h : ∀ q : Int, 0 ≤ q → q < 25 → f q = g q) : bmk f = bmk g := i32_ext (fun i _ => by
  rw [bmk_tb, bmk_tb]
  by_cases e : i < 25
  · rw [h i (by omega) (by omega)]
  · rw [decide_eq_false e, Bool.false_and, Bool.false_and])
theorem bmk_or (f g : Int → Bool) : bmk f ||| bmk g = bmk (fun q => f q || g q) := i32_ext (fun i _ => by
  have : tb (bmk f ||| bmk g) i = (tb (bmk f) i || tb (bmk g) i) := BitVec.getLsbD_or
  rw [this, bmk_tb, bmk_tb, bmk_tb, ← Bool.and_or_distrib_left])
theorem bmk_and (f g : Int → Bool) : bmk f &&& bmk g = bmk (fun q => f q && g q) := i32_ext (fun i _ => by
  have : tb (bmk f &&& bmk g) i = (tb (bmk f) i && tb (bmk g) i) := BitVec.getLsbD_and
  rw [this, bmk_tb, bmk_tb, bmk_tb]
  cases decide (i < 25) <;> simp)
theorem bmk_andn (f g : Int → Bool) : bmk f &&& (bmk g ^^^ Int32.ofInt (-1)) = bmk (fun q => f q && !g q) := i32_ext (fun i hi => by
  have h1 : tb (bmk f &&& (bmk g ^^^ Int32.ofInt (-1))) i = (tb (bmk f) i && (tb (bmk g) i ^^ tb (Int32.ofInt (-1)) i)) := by
    show ((bmk f).toBitVec &&& ((bmk g).toBitVec ^^^ (Int32.ofInt (-1)).toBitVec)).getLsbD i = _
    rw [BitVec.getLsbD_and, BitVec.getLsbD_xor]
    rfl
  have h2 : tb (Int32.ofInt (-1)) i = true := by
    have : ∀ i : Nat, i < 32 → tb (Int32.ofInt (-1)) i = true := by decide
    exact this i hi
  rw [h1, h2, bmk_tb, bmk_tb, bmk_tb]
  by_cases e : i < 25
  · simp [e]
  · simp [e])
theorem bmk_no : bmk (fun _ => false) = Int32.ofInt 0 := by decide +kernel
theorem bmk_0 {f : Int → Bool} : (bmk f = Int32.ofInt 0) ↔ ∀ q : Int, 0 ≤ q → q < 25 → f q = false := by
  constructor
  · intro h q q0 q1
    have : tb (bmk f) q.toNat = false := by rw [h]; have : ∀ i : Nat, i < 25 → tb (Int32.ofInt 0) i = false := by decide
                                            exact this q.toNat (by omega)
    rw [bmk_tb, decide_eq_true (by omega), Bool.true_and, show ((q.toNat : Nat) : Int) = q by omega] at this
    exact this
  · intro h
    rw [← bmk_no]
    exact bmk_congr h
theorem shl_n : ∀ n : Nat, n < 25 → (Int32.ofInt 1 <<< (Int32.ofInt (n : Int) &&& Int32.ofInt 31)).toBitVec = 1#32 <<< n := by decide +kernel
theorem shl_q {q : Int} (h0 : 0 ≤ q) (h1 : q < 25) : Int32.ofInt 1 <<< (Int32.ofInt q &&& Int32.ofInt 31) = bmk (fun j => decide (j = q)) := i32_ext (fun i hi => by
  have := shl_n q.toNat (by omega)
  rw [show ((q.toNat : Nat) : Int) = q by omega] at this
  show (Int32.ofInt 1 <<< (Int32.ofInt q &&& Int32.ofInt 31)).toBitVec.getLsbD i = _
  rw [this, one_shl _ _ (by omega), bmk_tb]
  by_cases e : i = q.toNat
  · rw [decide_eq_true e, decide_eq_true (by omega), decide_eq_true (by omega)]; rfl
  · rw [decide_eq_false e]
    rw [decide_eq_false (show ¬ (i : Int) = q by omega), Bool.and_false])
theorem sar_n : ∀ n : Nat, n < 32 → ((Int32.ofInt (n : Int) &&& Int32.ofInt 31).toBitVec.smod 32).toNat = n := by decide +kernel
theorem sar_b (x : Int32) {q : Int} (h0 : 0 ≤ q) (h1 : q < 32) : (x >>> (Int32.ofInt q &&& Int32.ofInt 31)) &&& Int32.ofInt 1 = bI (tb x q.toNat) := by
  have hs := sar_n q.toNat (by omega)
  rw [show ((q.toNat : Nat) : Int) = q by omega] at hs
  have h : ∀ i : Nat, i < 32 → tb ((x >>> (Int32.ofInt q &&& Int32.ofInt 31)) &&& Int32.ofInt 1) i = (decide (i = 0) && tb x q.toNat) := by
    intro i hi
    show ((x.toBitVec.sshiftRight' ((Int32.ofInt q &&& Int32.ofInt 31).toBitVec.smod 32)) &&& (Int32.ofInt 1).toBitVec).getLsbD i = _
    rw [BitVec.getLsbD_and]
    by_cases e : i = 0
    · subst e
      rw [show ((Int32.ofInt 1).toBitVec.getLsbD 0) = true from rfl, Bool.and_true, decide_eq_true rfl, Bool.true_and]
      show (x.toBitVec.sshiftRight ((Int32.ofInt q &&& Int32.ofInt 31).toBitVec.smod 32).toNat).getLsbD 0 = _
      rw [hs, BitVec.getLsbD_sshiftRight]
      simp only [Nat.add_zero]
      rw [if_pos (by omega)]
      simp [tb]
    · have : ∀ i : Nat, i < 32 → ¬ i = 0 → (Int32.ofInt 1).toBitVec.getLsbD i = false := by decide
      rw [this i hi e, Bool.and_false, decide_eq_false e, Bool.false_and]
  apply i32_ext
  intro i hi
  rw [h i hi]
  cases tb x q.toNat with
  | true =>
    have : ∀ i : Nat, i < 32 → tb (bI true) i = decide (i = 0) := by decide
    rw [this i hi, Bool.and_true]
  | false =>
    have : ∀ i : Nat, i < 32 → tb (bI false) i = false := by decide
    rw [this i hi, Bool.and_false]
theorem bit_q (f : Int → Bool) {q : Int} (h0 : 0 ≤ q) (h1 : q < 25) : (bmk f >>> (Int32.ofInt q &&& Int32.ofInt 31)) &&& Int32.ofInt 1 = bI (f q) := by
  rw [sar_b _ h0 (by omega), bmk_tb, decide_eq_true (by omega), Bool.true_and, show ((q.toNat : Nat) : Int) = q by omega]
theorem low_n : ∀ n : Nat, n < 25 → (Int32.ofInt 1 <<< (Int32.ofInt (n : Int) &&& Int32.ofInt 31)) - Int32.ofInt 1 = bmk (fun j => decide (j < (n : Int))) := by decide +kernel
theorem low_q {q : Int} (h0 : 0 ≤ q) (h1 : q < 25) : (Int32.ofInt 1 <<< (Int32.ofInt q &&& Int32.ofInt 31)) - Int32.ofInt 1 = bmk (fun j => decide (j < q)) := by
  have := low_n q.toNat (by omega)
  rw [show ((q.toNat : Nat) : Int) = q by omega] at this
  exact this
def pls : List Int := upto 25 0
def cnF (f : Int → Bool) : Int := ((pls.filter f).length : Int)
theorem len_sum (f : Int → Bool) : ∀ l : List Int, ((l.filter f).length : Int) = smL (fun q => b1 (f q)) l
  | [] => rfl
  | q :: l => by
    rw [List.filter_cons]
    simp only [smL]
    rw [← len_sum f l]
    cases e : f q with
    | true => rw [if_pos rfl, List.length_cons]; show _ = (1 : Int) + _; omega
    | false => rw [if_neg (by decide)]; show _ = (0 : Int) + _; omega
theorem Bt_bm (f : Int → Bool) (i : Nat) (q : Int) (hi : i < 25) (hq : (i : Int) = q) : Bt (bmN 25 f).toNat i = (f q).toNat := by
  rw [← hq, Bt_t]
  show ((bmN 25 f).getLsbD i).toNat = _
  rw [bmN_get f i 25 (by omega), decide_eq_true hi, Bool.true_and]
theorem Bt_bm0 (f : Int → Bool) (i : Nat) (hi : 25 ≤ i) : Bt (bmN 25 f).toNat i = 0 := by
  rw [Bt_t]
  show ((bmN 25 f).getLsbD i).toNat = _
  rw [bmN_get f i 25 (by omega), decide_eq_false (by omega), Bool.false_and]
  rfl
theorem b1_n (c : Bool) : b1 c = (c.toNat : Int) := by cases c <;> rfl
theorem c_cnt (f : Int → Bool) (s : ST) : f_J6_bitCount_0f7a4 (bmk f) s = some (Int32.ofInt (cnF f), s) := by
  rw [c_bitCount]
  have h : ((pcB (bmk f).toBitVec).toNat : Int) = cnF f := by
    show ((pcB (bmN 25 f)).toNat : Int) = cnF f
    rw [pcB_n]
    unfold cnt32 cnF
    rw [len_sum, Bt_bm0 f 25 (by omega), Bt_bm0 f 26 (by omega), Bt_bm0 f 27 (by omega), Bt_bm0 f 28 (by omega), Bt_bm0 f 29 (by omega), Bt_bm0 f 30 (by omega), Bt_bm0 f 31 (by omega)]
    rw [Bt_bm f 0 0 (by omega) rfl, Bt_bm f 1 1 (by omega) rfl, Bt_bm f 2 2 (by omega) rfl, Bt_bm f 3 3 (by omega) rfl, Bt_bm f 4 4 (by omega) rfl, Bt_bm f 5 5 (by omega) rfl, Bt_bm f 6 6 (by omega) rfl, Bt_bm f 7 7 (by omega) rfl, Bt_bm f 8 8 (by omega) rfl, Bt_bm f 9 9 (by omega) rfl, Bt_bm f 10 10 (by omega) rfl, Bt_bm f 11 11 (by omega) rfl, Bt_bm f 12 12 (by omega) rfl, Bt_bm f 13 13 (by omega) rfl, Bt_bm f 14 14 (by omega) rfl, Bt_bm f 15 15 (by omega) rfl, Bt_bm f 16 16 (by omega) rfl, Bt_bm f 17 17 (by omega) rfl, Bt_bm f 18 18 (by omega) rfl, Bt_bm f 19 19 (by omega) rfl, Bt_bm f 20 20 (by omega) rfl, Bt_bm f 21 21 (by omega) rfl, Bt_bm f 22 22 (by omega) rfl, Bt_bm f 23 23 (by omega) rfl, Bt_bm f 24 24 (by omega) rfl]
    simp only [pls, upto, smL, b1_n, Int.reduceAdd]
    omega
  have h2 : Int32.ofBitVec (pcB (bmk f).toBitVec) = Int32.ofInt (cnF f) := by
    rw [← h]
    apply Int32.toBitVec.inj
    show pcB (bmk f).toBitVec = BitVec.ofInt 32 _
    apply BitVec.eq_of_toNat_eq
    rw [BitVec.ofInt_natCast, BitVec.toNat_ofNat]
    exact (Nat.mod_eq_of_lt (pcB (bmk f).toBitVec).isLt).symm
  rw [h2]
theorem cnF_b (f : Int → Bool) : 0 ≤ cnF f ∧ cnF f ≤ 25 := by
  have h1 : (pls.filter f).length ≤ pls.length := List.length_filter_le _ _
  have h2 : pls.length = 25 := upto_len
  unfold cnF
  omega
