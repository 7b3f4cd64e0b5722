/-! L3: the class reads a board: names, kinds -/
variable {T : Int → Int} {n : Int} {B : Brd} {G : Gam} {N : Int → Int → List Int} {p : Nat}
def CG (T : Int → Int) (n : Int) (r : EX Cur) (s : ST) : Prop := RQ r (fun c => CC T n c s) (fun k q => CD k q s)
theorem CG_fr {r : EX Cur} {s s' : ST} (h : CG T n r s) (hf : ∀ o k : Nat, o ≤ 3 → s'.1 o k = s.1 o k) : CG T n r s' := RQ.mp h (fun _ _ x => CC_fr x hf) (fun _ _ x => CD_fr x (fun k => hf 3 k (by omega)))
theorem k_tW {r : EX Cur} {s : ST} (h : CG T n r s) {k : Nat} (hk : k < 39) : ∃ s', f_X5_takeWord (Int32.ofInt (k : Int)) s = some s' ∧ CFr s s' ∧ CG T n (eb r (tkW T n k)) s' := by
  cases r with
  | error e => exact ⟨s, c_tWD (h : CD e.1 e.2 s) _, CFr.rf s, h⟩
  | ok c =>
    obtain ⟨s', q1, q2, q3, q4⟩ := c_tW (h : CC T n c s) hk
    refine ⟨s', q1, q4, ?_⟩
    rw [eb_ok]
    unfold tkW
    cases e : isWL T n c (WDl k) with
    | true => exact q2 e
    | false => exact q3 e
theorem k_tS {r : EX Cur} {s : ST} (h : CG T n r s) {ch : Int} (c0 : 0 ≤ ch) (c1 : ch ≤ 255) (hs : sv ch = 3) : ∃ s', f_X5_takeSign (Int32.ofInt ch) s = some s' ∧ CFr s s' ∧ CG T n (eb r (tkS T n ch)) s' := by
  cases r with
  | error e => exact ⟨s, c_tSD (h : CD e.1 e.2 s) _, CFr.rf s, h⟩
  | ok c =>
    obtain ⟨s', q1, q2, q3, q4⟩ := c_tS (h : CC T n c s) c0 c1 hs
    refine ⟨s', q1, q4, ?_⟩
    rw [eb_ok]
    unfold tkS
    cases e : isSg T n c ch with
    | true => exact q2 e
    | false => exact q3 e
theorem k_tN {r : EX Cur} {s : ST} (h : CG T n r s) {lo hi : Int} (l0 : -1000000 ≤ lo) (l1 : lo ≤ 1000000) (h0 : -1000000 ≤ hi) (h1 : hi ≤ 1000000) : ∃ v s', f_X5_takeNumber (Int32.ofInt lo) (Int32.ofInt hi) s = some (v, s') ∧ CFr s s' ∧ RQ (eb r (fun c => numS T n c lo hi)) (fun a => v = Int32.ofInt a.1 ∧ CC T n a.2 s') (fun k q => v = Int32.ofInt lo ∧ CD k q s') := by
  cases r with
  | error e => exact ⟨_, s, c_tND (h : CD e.1 e.2 s) _ _, CFr.rf s, rfl, h⟩
  | ok c => exact c_tN (h : CC T n c s) l0 l1 h0 h1
theorem CG_cu {r : EX (Int × Cur)} {s : ST} {v w : Int32} (h : RQ r (fun a => v = Int32.ofInt a.1 ∧ CC T n a.2 s) (fun k q => v = w ∧ CD k q s)) : CG T n (cu r) s := by
  cases r with
  | error e => exact h.2
  | ok a => exact h.2
/-! the draft as the class has it -/
def nsl (B : Brd) (N : Int → Int → List Int) (j : Int) : Int := if j < 5 then (if j < bK B then b32 (N 0 j) else 0) else if j < 13 then (if j - 5 < bM B then b32 (N 1 (j - 5)) else 0) else (if j - 13 < bF B then b32 (N 2 (j - 13)) else 0)
def CDn (B : Brd) (N : Int → Int → List Int) (p : Nat) (s : ST) : Prop := ∀ j : Int, 0 ≤ j → j < 19 → s.1 (p + 11) j.toNat = Int32.ofInt (nsl B N j)
def CDf (B : Brd) (G : Gam) (N : Int → Int → List Int) (p : Nat) (s : ST) : Prop := PB B p s ∧ (s.1 (p + 1) 0 = Int32.ofInt (bD B 0) ∧ s.1 (p + 1) 1 = Int32.ofInt (bD B 1)) ∧ (∀ m : Int, 0 ≤ m → m < bM B → s.1 (p + 8) m.toNat = Int32.ofInt (5 * gy G m + gx G m)) ∧ (∀ f : Int, 0 ≤ f → f < bF B → s.1 (p + 10) f.toNat = Int32.ofInt (gb G f)) ∧ CDn B N p s
theorem CDf_fr {s s' : ST} (h : CDf B G N p s) (hf : ∀ o k : Nat, p ≤ o → o ≤ p + 13 → s'.1 o k = s.1 o k) : CDf B G N p s' := by
  obtain ⟨⟨⟨a1, a2, a3, a4, a5, a6, a7⟩, b1, b2, b3, b4⟩, ⟨c1, c2⟩, d, e, f⟩ := h
  refine ⟨⟨⟨(hf _ _ (by omega) (by omega)).trans a1, (hf _ _ (by omega) (by omega)).trans a2, (hf _ _ (by omega) (by omega)).trans a3, (hf _ _ (by omega) (by omega)).trans a4, (hf _ _ (by omega) (by omega)).trans a5, (hf _ _ (by omega) (by omega)).trans a6, (hf _ _ (by omega) (by omega)).trans a7⟩, fun k k0 k1 => ?_, fun k k0 k1 => ?_, fun k k0 k1 => (hf _ _ (by omega) (by omega)).trans (b3 k k0 k1), ?_⟩, ⟨(hf _ _ (by omega) (by omega)).trans c1, (hf _ _ (by omega) (by omega)).trans c2⟩, fun m m0 m1 => (hf _ _ (by omega) (by omega)).trans (d m m0 m1), fun m m0 m1 => (hf _ _ (by omega) (by omega)).trans (e m m0 m1), fun j j0 j1 => (hf _ _ (by omega) (by omega)).trans (f j j0 j1)⟩
  · obtain ⟨x1, x2, x3, x4⟩ := b1 k k0 k1
    exact ⟨(hf _ _ (by omega) (by omega)).trans x1, (hf _ _ (by omega) (by omega)).trans x2, (hf _ _ (by omega) (by omega)).trans x3, (hf _ _ (by omega) (by omega)).trans x4⟩
  · obtain ⟨x1, x2⟩ := b2 k k0 k1
    exact ⟨(hf _ _ (by omega) (by omega)).trans x1, (hf _ _ (by omega) (by omega)).trans x2⟩
  · rcases b4 with ⟨x1, x2⟩ | ⟨x1, x2, x3, x4, x5⟩
    · exact Or.inl ⟨x1, (hf _ _ (by omega) (by omega)).trans x2⟩
    · exact Or.inr ⟨x1, x2, (hf _ _ (by omega) (by omega)).trans x3, (hf _ _ (by omega) (by omega)).trans x4, fun i i0 i1 => (hf _ _ (by omega) (by omega)).trans (x5 i i0 i1)⟩
def sdx (g : Int → Int) (v : Int) : Nat → Int → Int
  | 0, _ => -1
  | m + 1, i => if g i = v then i else sdx g v m (i + 1)
theorem sdx_x {g : Int → Int} {v : Int} : ∀ (m : Nat) (i : Int), 0 ≤ i → (sdx g v m i = -1 ∧ ∀ j, i ≤ j → j < i + m → ¬ g j = v) ∨ (i ≤ sdx g v m i ∧ sdx g v m i < i + m ∧ g (sdx g v m i) = v)
  | 0, i, _ => Or.inl ⟨rfl, fun j j0 j1 => by omega⟩
  | m + 1, i, i0 => by
    show ((if g i = v then i else sdx g v m (i + 1)) = -1 ∧ ∀ j, i ≤ j → j < i + ((m + 1 : Nat) : Int) → ¬ g j = v) ∨ (i ≤ (if g i = v then i else sdx g v m (i + 1)) ∧ (if g i = v then i else sdx g v m (i + 1)) < i + ((m + 1 : Nat) : Int) ∧ g (if g i = v then i else sdx g v m (i + 1)) = v)
    by_cases e : g i = v
    · rw [if_pos e]
      exact Or.inr ⟨by omega, by omega, e⟩
    · rw [if_neg e]
      rcases sdx_x (g := g) (v := v) m (i + 1) (by omega) with ⟨h1, h2⟩ | ⟨h1, h2, h3⟩
      · refine Or.inl ⟨h1, fun j j0 j1 => ?_⟩
        by_cases x : j = i
        · rw [x]; exact e
        · exact h2 j (by omega) (by omega)
      · exact Or.inr ⟨by omega, by omega, h3⟩
theorem fdx_x {f : Int → List Int} {nm : List Int} : ∀ (m : Nat) (i : Int), 0 ≤ i → fdx f nm m i = -1 → ∀ j, i ≤ j → j < i + m → ¬ f j = nm
  | 0, i, _, _, j, j0, j1 => by omega
  | m + 1, i, i0, h, j, j0, j1 => by
    have h : (if f i = nm then i else fdx f nm m (i + 1)) = -1 := h
    by_cases e : f i = nm
    · rw [if_pos e] at h; omega
    · rw [if_neg e] at h
      by_cases x : j = i
      · rw [x]; exact e
      · exact fdx_x m (i + 1) (by omega) h j (by omega) (by omega)
theorem nsl_b (hV : DV B G N) (j : Int) (j0 : 0 ≤ j) (j1 : j < 19) : 0 ≤ nsl B N j ∧ nsl B N j < 1073741824 := by
  have hd := hV.2.2.2
  unfold nsl
  have z : (0 : Int) ≤ 0 ∧ (0 : Int) < 1073741824 := by omega
  split
  · split
    · have := b32_r (hd 0 j (by omega) (by omega) j0 (by assumption)); omega
    · exact z
  · split
    · split
      · have := b32_r (hd 1 (j - 5) (by omega) (by omega) (by omega) (by assumption)); omega
      · exact z
    · split
      · have := b32_r (hd 2 (j - 13) (by omega) (by omega) (by omega) (by assumption)); omega
      · exact z
theorem c_slot_L (hp : p = 6 ∨ p = 20) (hV : DV B G N) {s : ST} (h : CDn B N p s) {v many : Int} (v0 : -1 ≤ v) (v1 : v < 1073741824) (m0 : 0 ≤ many) (m19 : many ≤ 19) : ∀ (m F : Nat) (i : Int), 0 ≤ i → (many - i).toNat = m → m < F → i ≤ 19 → f_X4_slotOf_L2 F p (Int32.ofInt v) (Int32.ofInt many) (Int32.ofInt i) s = some (Int32.ofInt (sdx (nsl B N) v m i), s) := by
  intro m
  induction m with
  | zero =>
    intro F i i0 hm hF i19
    obtain ⟨F, rfl⟩ : ∃ F', F = F' + 1 := ⟨F - 1, by omega⟩
    show _ = some (Int32.ofInt (-1), s)
    simp (disch := omega) only [f_X4_slotOf_L2, n_i8, n_i16, n_0, n_31, n_add, n_sub, n_mul, n_neg, n_div, n_rem, n_le_t, n_le_f, n_lt_t, n_lt_f, n_eq_t, n_eq_f, n_cl, n_gd, n_gdt, n_nz, Int.reduceToNat, Int.reduceAdd, Int.reduceSub, Int.reduceMul, Int.reduceNeg, Int.reduceLT, Int.reduceLE, Int.reduceEq, Int.reduceDiv, Int.reduceMod, Nat.reduceAdd, Nat.reduceMul, ↓reduceIte]
  | succ m ih =>
    intro F i i0 hm hF i19
    obtain ⟨F, rfl⟩ : ∃ F', F = F' + 1 := ⟨F - 1, by omega⟩
    have hc := h i i0 (by omega)
    have hb := nsl_b hV i i0 (by omega)
    show _ = some (Int32.ofInt (if nsl B N i = v then i else sdx (nsl B N) v m (i + 1)), s)
    by_cases e : nsl B N i = v
    · rw [if_pos e]
      simp (disch := omega) only [f_X4_slotOf_L2, hc, g_kk, g_k1, g_n1, g_k2, g_n2, g_k3, g_n3, g_k4, g_n4, g_k5, g_n5, g_k7, g_n7, g_k8, g_n8, g_k9, g_n9, g_k6, g_r3, g_r4, g_r5, g_r6, g_r7, g_r10, g_q0, g_q1, g_q2, p_kk, p_k1, p_n1, p_k2, p_n2, p_k3, p_n3, p_k4, p_n4, p_k5, p_n5, p_k6, p_n6, p_k7, p_n7, p_k8, p_n8, p_k9, p_n9, p_k10, p_n10, p_k11, p_n11, p_k13, p_n13, p_k12, p_r2, p_r4, p_r5, p_r6, p_r7, p_r9, p_r10, p_r11, p_r13, p_r14, p_r15, p_r16, p_h0, n_i8, n_i16, n_0, n_31, n_add, n_sub, n_mul, n_neg, n_div, n_rem, n_le_t, n_le_f, n_lt_t, n_lt_f, n_eq_t, n_eq_f, n_cl, n_gd, n_gdt, n_nz, Int.reduceToNat, Int.reduceAdd, Int.reduceSub, Int.reduceMul, Int.reduceNeg, Int.reduceLT, Int.reduceLE, Int.reduceEq, Int.reduceDiv, Int.reduceMod, Nat.reduceAdd, Nat.reduceMul, ↓reduceIte, u_eq, u_no, u_nk, u_ek, u_2, u_3, j_1, j_3, j_eq, j_no, j_nk, ltd, bnd]
    · rw [if_neg e, ← ih F (i + 1) (by omega) (by omega) (by omega) (by omega), f_X4_slotOf_L2]
      simp (disch := omega) only [hc, g_kk, g_k1, g_n1, g_k2, g_n2, g_k3, g_n3, g_k4, g_n4, g_k5, g_n5, g_k7, g_n7, g_k8, g_n8, g_k9, g_n9, g_k6, g_r3, g_r4, g_r5, g_r6, g_r7, g_r10, g_q0, g_q1, g_q2, p_kk, p_k1, p_n1, p_k2, p_n2, p_k3, p_n3, p_k4, p_n4, p_k5, p_n5, p_k6, p_n6, p_k7, p_n7, p_k8, p_n8, p_k9, p_n9, p_k10, p_n10, p_k11, p_n11, p_k13, p_n13, p_k12, p_r2, p_r4, p_r5, p_r6, p_r7, p_r9, p_r10, p_r11, p_r13, p_r14, p_r15, p_r16, p_h0, n_i8, n_i16, n_0, n_31, n_add, n_sub, n_mul, n_neg, n_div, n_rem, n_le_t, n_le_f, n_lt_t, n_lt_f, n_eq_t, n_eq_f, n_cl, n_gd, n_gdt, n_nz, Int.reduceToNat, Int.reduceAdd, Int.reduceSub, Int.reduceMul, Int.reduceNeg, Int.reduceLT, Int.reduceLE, Int.reduceEq, Int.reduceDiv, Int.reduceMod, Nat.reduceAdd, Nat.reduceMul, ↓reduceIte, u_eq, u_no, u_nk, u_ek, u_2, u_3, j_1, j_3, j_eq, j_no, j_nk, ltd, bnd]
theorem c_slot (hp : p = 6 ∨ p = 20) (hV : DV B G N) {s : ST} (h : CDn B N p s) {v many : Int} (v0 : -1 ≤ v) (v1 : v < 1073741824) (m0 : 0 ≤ many) (m19 : many ≤ 19) : f_X4_slotOf p (Int32.ofInt v) (Int32.ofInt many) s = some (Int32.ofInt (sdx (nsl B N) v many.toNat 0), s) := by
  have e : f_X4_slotOf p (Int32.ofInt v) (Int32.ofInt many) s = f_X4_slotOf_L2 fuel p (Int32.ofInt v) (Int32.ofInt many) (Int32.ofInt 0) s := rfl
  rw [e, c_slot_L hp hV h v0 v1 m0 m19 many.toNat fuel 0 (by omega) (by omega) (by unfold fuel; omega) (by omega)]
theorem nsl_dup (hV : DV B G N) {nm : List Int} (hn : NV nm) : (sdx (nsl B N) (b32 nm) 19 0 = -1) ↔ dupD B N nm = false := by
  have hd := hV.2.2.2
  have hb := hV.1.2.1
  have hr := b32_r hn
  have key : ∀ k w : Int, 0 ≤ k → k ≤ 2 → 0 ≤ w → w < cnt B k → b32 (N k w) = b32 nm → N k w = nm := fun k w k0 k1 w0 w1 e => b32_inj _ _ (hd k w k0 k1 w0 w1).2.2 hn.2.2 e
  have c0 : cnt B 0 = bK B := rfl
  have c1 : cnt B 1 = bM B := rfl
  have c2 : cnt B 2 = bF B := rfl
  constructor
  · intro h
    have hx : ∀ j, 0 ≤ j → j < 19 → ¬ nsl B N j = b32 nm := by
      rcases sdx_x (g := nsl B N) (v := b32 nm) 19 0 (by omega) with ⟨-, h2⟩ | ⟨h1, -, -⟩
      · exact fun j j0 j1 => h2 j j0 (by omega)
      · omega
    have f : ∀ k : Int, 0 ≤ k → k ≤ 2 → dupk B N nm k = false := by
      intro k k0 k1
      have hcb := cnt_b hV k
      refine decide_eq_false (fun x => x ?_)
      rcases fdx_b (f := N k) (nm := nm) (cnt B k).toNat 0 (by omega) with h1 | ⟨h1, h2, h3⟩
      · exact h1
      · exfalso
        have hk : k = 0 ∨ k = 1 ∨ k = 2 := by omega
        generalize fdx (N k) nm (cnt B k).toNat 0 = w at *
        rcases hk with rfl | rfl | rfl
        · refine hx w (by omega) (by omega) ?_
          unfold nsl
          rw [if_pos (by omega), if_pos (by omega), h3]
        · refine hx (5 + w) (by omega) (by omega) ?_
          unfold nsl
          rw [if_neg (by omega), if_pos (by omega), if_pos (by omega), show 5 + w - 5 = w by omega, h3]
        · refine hx (13 + w) (by omega) (by omega) ?_
          unfold nsl
          rw [if_neg (by omega), if_neg (by omega), if_pos (by omega), show 13 + w - 13 = w by omega, h3]
    unfold dupD
    rw [f 0 (by omega) (by omega), f 1 (by omega) (by omega), f 2 (by omega) (by omega)]
    rfl
  · intro h
    unfold dupD dupk at h
    rw [Bool.or_eq_false_iff, Bool.or_eq_false_iff] at h
    obtain ⟨h0, h1, h2⟩ := h
    have g : ∀ k : Int, decide (¬ fdx (N k) nm (cnt B k).toNat 0 = -1) = false → fdx (N k) nm (cnt B k).toNat 0 = -1 := fun k hk => by
      have := of_decide_eq_false hk
      omega
    rcases sdx_x (g := nsl B N) (v := b32 nm) 19 0 (by omega) with ⟨x1, -⟩ | ⟨x1, x2, x3⟩
    · exact x1
    · exfalso
      generalize sdx (nsl B N) (b32 nm) 19 0 = j at *
      have x2 : j < 19 := by omega
      unfold nsl at x3
      split at x3
      · split at x3
        · have := key 0 j (by omega) (by omega) x1 (by assumption) x3
          exact fdx_x _ 0 (by omega) (g 0 h0) j x1 (by omega) this
        · omega
      · split at x3
        · split at x3
          · have := key 1 (j - 5) (by omega) (by omega) (by omega) (by assumption) x3
            exact fdx_x _ 0 (by omega) (g 1 h1) (j - 5) (by omega) (by omega) this
          · omega
        · split at x3
          · have := key 2 (j - 13) (by omega) (by omega) (by omega) (by assumption) x3
            exact fdx_x _ 0 (by omega) (g 2 h2) (j - 13) (by omega) (by omega) this
          · omega
theorem nsl_kind (hV : DV B G N) {nm : List Int} (hn : NV nm) : ∀ (m : Nat) (i : Int), 0 ≤ i → i + m = 5 → sdx (nsl B N) (b32 nm) m i = fdx (N 0) nm (bK B - i).toNat i := by
  have hd := hV.2.2.2
  have hb := hV.1.2.1
  have hr := b32_r hn
  intro m
  induction m with
  | zero =>
    intro i i0 hi
    rw [show (bK B - i).toNat = 0 by omega]
    rfl
  | succ m ih =>
    intro i i0 hi
    have ih := ih (i + 1) (by omega) (by omega)
    show (if nsl B N i = b32 nm then i else sdx (nsl B N) (b32 nm) m (i + 1)) = _
    by_cases e : i < bK B
    · have en : nsl B N i = b32 (N 0 i) := by unfold nsl; rw [if_pos (by omega), if_pos e]
      rw [en, ih, show (bK B - i).toNat = (bK B - (i + 1)).toNat + 1 by omega]
      show _ = if N 0 i = nm then i else fdx (N 0) nm (bK B - (i + 1)).toNat (i + 1)
      by_cases x : N 0 i = nm
      · rw [if_pos x, if_pos (by rw [x])]
      · rw [if_neg x, if_neg (fun y => x (b32_inj _ _ (hd 0 i (by omega) (by omega) i0 e).2.2 hn.2.2 y))]
    · have en : nsl B N i = 0 := by unfold nsl; rw [if_pos (by omega), if_neg e]
      rw [en, if_neg (by omega), ih, show (bK B - i).toNat = 0 by omega, show (bK B - (i + 1)).toNat = 0 by omega]
      rfl
/-- a new name, into a slot -/
theorem c_newN (hp : p = 6 ∨ p = 20) (hV : DV B G N) {c : Cur} {s : ST} (h : CC T n c s) (hD : CDn B N p s) {sl : Int} (s0 : 0 ≤ sl) (s19 : sl < 19) : ∃ s', f_X8_newName p (Int32.ofInt sl) s = some s' ∧ (∀ o k : Nat, ¬ o = 3 → ¬ (o = p + 11 ∧ k = sl.toNat) → s'.1 o k = s.1 o k) ∧ s'.2 = s.2 ∧ RQ (nmS T n (dupD B N) c) (fun a => CC T n a.2 s' ∧ s'.1 (p + 11) sl.toNat = Int32.ofInt (b32 a.1)) (fun k q => CD k q s') := by
  obtain ⟨v, s1, q1, q2, q3⟩ := c_nm h
  have hn := h.nb
  have hD1 : CDn B N p s1 := fun j j0 j1 => (q2.1 _ _ (by omega)).trans (hD j j0 j1)
  have hcl : (Int32.ofInt sl).toNatClampNeg = sl.toNat := n_cl (by omega) (by omega)
  have end1 : ∀ (w : Int) (s2 : ST), ∃ s3, s3 = uI s2 (p + 11) sl.toNat (Int32.ofInt w) ∧ f_X8_newName_j33 p (Int32.ofInt sl) (Int32.ofInt w) s2 = (f_X5_step s3).bind (fun q11 => some q11) := by
    intro w s2
    refine ⟨_, rfl, ?_⟩
    simp (disch := omega) only [f_X8_newName_j33, hcl, g_kk, g_k1, g_n1, g_k2, g_n2, g_k3, g_n3, g_k4, g_n4, g_k5, g_n5, g_k7, g_n7, g_k8, g_n8, g_k9, g_n9, g_k6, g_r3, g_r4, g_r5, g_r6, g_r7, g_r10, g_q0, g_q1, g_q2, p_kk, p_k1, p_n1, p_k2, p_n2, p_k3, p_n3, p_k4, p_n4, p_k5, p_n5, p_k6, p_n6, p_k7, p_n7, p_k8, p_n8, p_k9, p_n9, p_k10, p_n10, p_k11, p_n11, p_k13, p_n13, p_k12, p_r2, p_r4, p_r5, p_r6, p_r7, p_r9, p_r10, p_r11, p_r13, p_r14, p_r15, p_r16, p_h0, n_i8, n_i16, n_0, n_31, n_add, n_sub, n_mul, n_neg, n_div, n_rem, n_le_t, n_le_f, n_lt_t, n_lt_f, n_eq_t, n_eq_f, n_cl, n_gd, n_gdt, n_nz, Int.reduceToNat, Int.reduceAdd, Int.reduceSub, Int.reduceMul, Int.reduceNeg, Int.reduceLT, Int.reduceLE, Int.reduceEq, Int.reduceDiv, Int.reduceMod, Nat.reduceAdd, Nat.reduceMul, ↓reduceIte, u_eq, u_no, u_nk, u_ek, u_2, u_3, j_1, j_3, j_eq, j_no, j_nk, ltd, bnd]
  unfold nmS
  cases eN : namS T n c with
  | error x =>
    rw [eN] at q3
    obtain ⟨u1, u2⟩ := (q3 : v = Int32.ofInt (-1) ∧ CD x.1 x.2 s1)
    have hs := c_slot hp hV hD1 (v := -1) (many := 19) (by omega) (by omega) (by omega) (by omega)
    obtain ⟨s3, e3, e4⟩ := end1 (-1) s1
    have hCD3 : CD x.1 x.2 s3 := by rw [e3]; exact CD_fr u2 (fun k => u_no (by omega))
    refine ⟨s3, ?_, fun o k x y => ?_, by rw [e3]; exact q2.2, hCD3⟩
    · have ef := c_failD u2 (Int32.ofInt 3) (s1.1 3 1)
      have e5 : f_X8_newName p (Int32.ofInt sl) s = f_X8_newName_j33 p (Int32.ofInt sl) (Int32.ofInt (-1)) s1 := by
        subst u1
        rcases sdx_x (g := nsl B N) (v := -1) 19 0 (by omega) with ⟨x1, -⟩ | ⟨x1, x2, x3⟩
        · rw [show Int.toNat 19 = 19 from rfl, x1] at hs
          simp (disch := omega) only [f_X8_newName, ↓bb q1, ↓bb hs, g_kk, g_k1, g_n1, g_k2, g_n2, g_k3, g_n3, g_k4, g_n4, g_k5, g_n5, g_k7, g_n7, g_k8, g_n8, g_k9, g_n9, g_k6, g_r3, g_r4, g_r5, g_r6, g_r7, g_r10, g_q0, g_q1, g_q2, p_kk, p_k1, p_n1, p_k2, p_n2, p_k3, p_n3, p_k4, p_n4, p_k5, p_n5, p_k6, p_n6, p_k7, p_n7, p_k8, p_n8, p_k9, p_n9, p_k10, p_n10, p_k11, p_n11, p_k13, p_n13, p_k12, p_r2, p_r4, p_r5, p_r6, p_r7, p_r9, p_r10, p_r11, p_r13, p_r14, p_r15, p_r16, p_h0, n_i8, n_i16, n_0, n_31, n_add, n_sub, n_mul, n_neg, n_div, n_rem, n_le_t, n_le_f, n_lt_t, n_lt_f, n_eq_t, n_eq_f, n_cl, n_gd, n_gdt, n_nz, Int.reduceToNat, Int.reduceAdd, Int.reduceSub, Int.reduceMul, Int.reduceNeg, Int.reduceLT, Int.reduceLE, Int.reduceEq, Int.reduceDiv, Int.reduceMod, Nat.reduceAdd, Nat.reduceMul, ↓reduceIte]
        · have hs : f_X4_slotOf p (Int32.ofInt (-1)) (Int32.ofInt 19) s1 = some (Int32.ofInt (sdx (nsl B N) (-1) 19 0), s1) := hs
          have x2 : sdx (nsl B N) (-1) 19 0 < 19 := by omega
          simp (disch := omega) only [f_X8_newName, ↓bb q1, ↓bb hs, ↓bb ef, g_kk, g_k1, g_n1, g_k2, g_n2, g_k3, g_n3, g_k4, g_n4, g_k5, g_n5, g_k7, g_n7, g_k8, g_n8, g_k9, g_n9, g_k6, g_r3, g_r4, g_r5, g_r6, g_r7, g_r10, g_q0, g_q1, g_q2, p_kk, p_k1, p_n1, p_k2, p_n2, p_k3, p_n3, p_k4, p_n4, p_k5, p_n5, p_k6, p_n6, p_k7, p_n7, p_k8, p_n8, p_k9, p_n9, p_k10, p_n10, p_k11, p_n11, p_k13, p_n13, p_k12, p_r2, p_r4, p_r5, p_r6, p_r7, p_r9, p_r10, p_r11, p_r13, p_r14, p_r15, p_r16, p_h0, n_i8, n_i16, n_0, n_31, n_add, n_sub, n_mul, n_neg, n_div, n_rem, n_le_t, n_le_f, n_lt_t, n_lt_f, n_eq_t, n_eq_f, n_cl, n_gd, n_gdt, n_nz, Int.reduceToNat, Int.reduceAdd, Int.reduceSub, Int.reduceMul, Int.reduceNeg, Int.reduceLT, Int.reduceLE, Int.reduceEq, Int.reduceDiv, Int.reduceMod, Nat.reduceAdd, Nat.reduceMul, ↓reduceIte]
      rw [e5, e4, c_stepD hCD3, bnd]
    · rw [e3]
      by_cases z : o = p + 11
      · rw [u_nk (by omega)]; exact q2.1 o k x
      · rw [u_no z]; exact q2.1 o k x
  | ok a =>
    rw [eN] at q3
    obtain ⟨u1, u2, u3, u4, u5⟩ := (q3 : v = Int32.ofInt (b32 a.1) ∧ s1 = s ∧ NV a.1 ∧ a.2 = nx T n c ∧ isW T n c = true)
    subst u2
    have hr := b32_r u3
    have hs := c_slot hp hV hD (v := b32 a.1) (many := 19) (by omega) (by omega) (by omega) (by omega)
    have hs : f_X4_slotOf p (Int32.ofInt (b32 a.1)) (Int32.ofInt 19) s1 = some (Int32.ofInt (sdx (nsl B N) (b32 a.1) 19 0), s1) := hs
    have hdu := nsl_dup hV u3
    rw [eb_ok]
    cases ed : dupD B N a.1 with
    | false =>
      have x1 := hdu.mpr ed
      rw [x1] at hs
      obtain ⟨s3, e3, e4⟩ := end1 (b32 a.1) s1
      have hC3 : CC T n c s3 := by rw [e3]; exact CC_fr h (fun o k ho => u_no (by omega))
      obtain ⟨s4, t1, t2, t3⟩ := c_step hC3
      rw [← u4] at t2
      refine ⟨s4, ?_, fun o k x y => (t3.1 o k x).trans ?_, by rw [t3.2, e3]; rfl, t2, ?_⟩
      · have e5 : f_X8_newName p (Int32.ofInt sl) s1 = f_X8_newName_j33 p (Int32.ofInt sl) (Int32.ofInt (b32 a.1)) s1 := by
          subst u1
          simp (disch := omega) only [f_X8_newName, ↓bb q1, ↓bb hs, g_kk, g_k1, g_n1, g_k2, g_n2, g_k3, g_n3, g_k4, g_n4, g_k5, g_n5, g_k7, g_n7, g_k8, g_n8, g_k9, g_n9, g_k6, g_r3, g_r4, g_r5, g_r6, g_r7, g_r10, g_q0, g_q1, g_q2, p_kk, p_k1, p_n1, p_k2, p_n2, p_k3, p_n3, p_k4, p_n4, p_k5, p_n5, p_k6, p_n6, p_k7, p_n7, p_k8, p_n8, p_k9, p_n9, p_k10, p_n10, p_k11, p_n11, p_k13, p_n13, p_k12, p_r2, p_r4, p_r5, p_r6, p_r7, p_r9, p_r10, p_r11, p_r13, p_r14, p_r15, p_r16, p_h0, n_i8, n_i16, n_0, n_31, n_add, n_sub, n_mul, n_neg, n_div, n_rem, n_le_t, n_le_f, n_lt_t, n_lt_f, n_eq_t, n_eq_f, n_cl, n_gd, n_gdt, n_nz, Int.reduceToNat, Int.reduceAdd, Int.reduceSub, Int.reduceMul, Int.reduceNeg, Int.reduceLT, Int.reduceLE, Int.reduceEq, Int.reduceDiv, Int.reduceMod, Nat.reduceAdd, Nat.reduceMul, ↓reduceIte]
        rw [e5, e4, t1, bnd]
      · rw [e3]
        by_cases z : o = p + 11
        · exact u_nk (by omega)
        · exact u_no z
      · rw [t3.1 _ _ (by omega), e3, u_eq]
    | true =>
      have x1 : ¬ sdx (nsl B N) (b32 a.1) 19 0 = -1 := fun y => by rw [hdu.mp y] at ed; cases ed
      rcases sdx_x (g := nsl B N) (v := b32 a.1) 19 0 (by omega) with ⟨y1, -⟩ | ⟨y1, y2, -⟩
      · exact absurd y1 x1
      · have y2 : sdx (nsl B N) (b32 a.1) 19 0 < 19 := by omega
        obtain ⟨s2, f1, f2, f3⟩ := c_fail (k := 3) (p := frm T n c) h.2.2.2.2.2.2.1 (by omega) (by omega)
        obtain ⟨s3, e3, e4⟩ := end1 (b32 a.1) s2
        have hCD3 : CD 3 (frm T n c) s3 := by rw [e3]; exact CD_fr f2 (fun k => u_no (by omega))
        refine ⟨s3, ?_, fun o k x y => ?_, by rw [e3]; exact f3.2, hCD3⟩
        · have h31 := h.2.2.1
          have e5 : f_X8_newName p (Int32.ofInt sl) s1 = f_X8_newName_j33 p (Int32.ofInt sl) (Int32.ofInt (b32 a.1)) s2 := by
            subst u1
            simp (disch := omega) only [f_X8_newName, ↓bb q1, ↓bb hs, h31, ↓bb f1, g_kk, g_k1, g_n1, g_k2, g_n2, g_k3, g_n3, g_k4, g_n4, g_k5, g_n5, g_k7, g_n7, g_k8, g_n8, g_k9, g_n9, g_k6, g_r3, g_r4, g_r5, g_r6, g_r7, g_r10, g_q0, g_q1, g_q2, p_kk, p_k1, p_n1, p_k2, p_n2, p_k3, p_n3, p_k4, p_n4, p_k5, p_n5, p_k6, p_n6, p_k7, p_n7, p_k8, p_n8, p_k9, p_n9, p_k10, p_n10, p_k11, p_n11, p_k13, p_n13, p_k12, p_r2, p_r4, p_r5, p_r6, p_r7, p_r9, p_r10, p_r11, p_r13, p_r14, p_r15, p_r16, p_h0, n_i8, n_i16, n_0, n_31, n_add, n_sub, n_mul, n_neg, n_div, n_rem, n_le_t, n_le_f, n_lt_t, n_lt_f, n_eq_t, n_eq_f, n_cl, n_gd, n_gdt, n_nz, Int.reduceToNat, Int.reduceAdd, Int.reduceSub, Int.reduceMul, Int.reduceNeg, Int.reduceLT, Int.reduceLE, Int.reduceEq, Int.reduceDiv, Int.reduceMod, Nat.reduceAdd, Nat.reduceMul, ↓reduceIte]
          rw [e5, e4, c_stepD hCD3, bnd]
        · rw [e3]
          by_cases z : o = p + 11
          · rw [u_nk (by omega)]; exact f3.1 o k x
          · rw [u_no z]; exact f3.1 o k x
