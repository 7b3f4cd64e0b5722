/-! L3: STATEMENTS: the grammar, and how the reference reads them -/
abbrev EX (α : Type) : Type := Except (Int × Int) α
def eb {α β : Type} (r : EX α) (k : α → EX β) : EX β :=
  match r with
  | .ok a => k a
  | .error e => .error e
theorem eb_ok {α β : Type} (a : α) (k : α → EX β) : eb (.ok a) k = k a := rfl
theorem eb_er {α β : Type} (e : Int × Int) (k : α → EX β) : eb (.error e : EX α) k = .error e := rfl
section GR
variable (T : Int → Int) (n : Int)
def tkW (k : Nat) (c : Cur) : EX Cur := if isWL T n c (WDl k) = true then .ok (nxW T n c) else .error (1, frm T n c)
def tkS (ch : Int) (c : Cur) : EX Cur := if isSg T n c ch = true then .ok (nxS T n c) else .error (1, frm T n c)
def nmS (dup : List Int → Bool) (c : Cur) : EX (List Int × Cur) := eb (namS T n c) (fun a => if dup a.1 = true then .error (3, frm T n c) else .ok a)
def kndS (dup : List Int → Bool) (c : Cur) : EX ((List Int × Int × Int × Int × Int) × Cur) :=
  eb (nmS T n dup c) (fun a => eb (tkW T n 5 a.2) (fun c2 => eb (numS T n c2 1 4) (fun w => eb (tkW T n 6 w.2) (fun c4 => eb (numS T n c4 1 4) (fun r => eb (tkW T n 7 r.2) (fun c6 => eb (numS T n c6 0 99) (fun o => .ok (if isWL T n o.2 (WDl 8) = true then ((a.1, w.1, r.1, o.1, 1), nxW T n o.2) else ((a.1, w.1, r.1, o.1, 0), o.2)))))))))
end GR
/-- the reference stands at c, or has found a fault -/
def RG (T : Int → Int) (n : Int) (r : EX Cur) (s : ST) : Prop := RQ r (fun c => RC T n c s ∧ WDS s) (fun k p => RB k p s)
variable {T : Int → Int} {n : Int}
theorem RG_fr {r : EX Cur} {s s' : ST} (h : RG T n r s) (hf : ∀ o k : Nat, (o = 65 ∧ 2 ≤ k ∧ k ≤ 6) ∨ (66 ≤ o ∧ o ≤ 100) ∨ (123 ≤ o ∧ o ≤ 145) → s'.1 o k = s.1 o k) : RG T n r s' := RQ.mp h (fun c _ x => ⟨RC_fr x.1 (hf 65 2 (by omega)) (hf 65 3 (by omega)) (hf 65 4 (by omega)) (hf 65 5 (by omega)) (hf 65 6 (by omega)) (fun k => hf 66 k (by omega)), WDS_fr x.2 (fun o k ho => hf o k (by omega))⟩) (fun k p x => RB_fr x (hf 65 5 (by omega)) (hf 65 6 (by omega)))
theorem WDS_p {s s' : ST} (h : WDS s) (hf : RPf s s') : WDS s' := WDS_fr h (fun o k ho => hf.1 o k (by omega))
theorem g_asks {r : EX Cur} {s : ST} (h : RG T n r s) {o : Nat} (ho : wce o) : ∃ s', f_X10_asks o s = some s' ∧ RPf s s' ∧ RG T n (eb r (tkW T n (wno o))) s' := by
  cases r with
  | error e => exact ⟨s, m_asksB (h : RB e.1 e.2 s) o, RPf.rf s, h⟩
  | ok c =>
    obtain ⟨h1, h2⟩ := (h : RC T n c s ∧ WDS s)
    obtain ⟨s', q1, q2, q3, q4⟩ := m_asks h1 h2 ho
    refine ⟨s', q1, q4, ?_⟩
    rw [eb_ok]
    unfold tkW
    cases e : isWL T n c (WDl (wno o)) with
    | true => exact ⟨q2 e, WDS_p h2 q4⟩
    | false => exact q3 e
theorem g_asign {r : EX Cur} {s : ST} (h : RG T n r s) {ch : Int} (c0 : 0 ≤ ch) (c1 : ch ≤ 255) : ∃ s', f_X10_asksSign (Int32.ofInt ch) s = some s' ∧ RPf s s' ∧ RG T n (eb r (tkS T n ch)) s' := by
  cases r with
  | error e => exact ⟨s, m_asignB (h : RB e.1 e.2 s) _, RPf.rf s, h⟩
  | ok c =>
    obtain ⟨h1, h2⟩ := (h : RC T n c s ∧ WDS s)
    obtain ⟨s', q1, q2, q3, q4⟩ := m_asign h1 c0 c1
    refine ⟨s', q1, q4, ?_⟩
    rw [eb_ok]
    unfold tkS
    cases e : isSg T n c ch with
    | true => exact ⟨q2 e, WDS_p h2 q4⟩
    | false => exact q3 e
theorem g_num {r : EX Cur} {s : ST} (h : RG T n r s) {lo hi : Int} (l0 : -1000000 ≤ lo) (l1 : lo ≤ 1000000) (h0 : -1000000 ≤ hi) (h1 : hi ≤ 1000000) : ∃ v s', f_X10_number (Int32.ofInt lo) (Int32.ofInt hi) s = some (v, s') ∧ RPf s s' ∧ RQ (eb r (fun c => numS T n c lo hi)) (fun a => v = Int32.ofInt a.1 ∧ (RC T n a.2 s' ∧ WDS s') ∧ ∀ c, r = .ok c → s'.1 65 10 = Int32.ofInt (frm T n c)) (fun k p => RB k p s') := by
  cases r with
  | error e => exact ⟨_, s, m_numberB (h : RB e.1 e.2 s) _ _, RPf.rf s, h⟩
  | ok c =>
    obtain ⟨g1, g2⟩ := (h : RC T n c s ∧ WDS s)
    obtain ⟨v, s', q1, q2, q3⟩ := m_number g1 l0 l1 h0 h1
    refine ⟨v, s', q1, q2, ?_⟩
    rw [eb_ok]
    exact RQ.mp q3 (fun a _ x => ⟨x.1, ⟨x.2.1, WDS_p g2 q2⟩, fun c' hc => by cases hc; exact x.2.2⟩) (fun k p x => x)
/-- only where it stands -/
def cu {α : Type} (r : EX (α × Cur)) : EX Cur := eb r (fun a => .ok a.2)
theorem namS_v {c : Cur} {a : List Int × Cur} (h : namS T n c = .ok a) (c0 : 0 ≤ c.1) (cn : c.1 ≤ n) : NV a.1 ∧ a.2 = nxW T n c ∧ isW T n c = true := by
  unfold namS at h
  by_cases e1 : (isW T n c && !ownw T n c) = true
  · rw [if_pos e1] at h
    by_cases e2 : sk isL T n (frm T n c) - frm T n c ≤ 6
    · rw [if_pos e2] at h
      cases h
      rw [Bool.and_eq_true] at e1
      exact ⟨nm_NV e1.1 cn e2, rfl, e1.1⟩
    · rw [if_neg e2] at h
      cases h
  · rw [if_neg e1] at h
    cases h
/-! names told -/
theorem b27_inj : ∀ (r q : List Int), (∀ v ∈ r, 1 ≤ v ∧ v ≤ 26) → (∀ v ∈ q, 1 ≤ v ∧ v ≤ 26) → b27 r.reverse = b27 q.reverse → r = q
  | [], [], _, _, _ => rfl
  | [], v :: q, _, hq, h => by
    have h0 : b27 ([] : List Int).reverse = 0 := rfl
    have h1 := b27_cons q v
    have hb := (b27_b q q.length (Nat.le_refl _) (fun u hu => hq u (List.mem_cons_of_mem _ hu))).1
    have hv := hq v List.mem_cons_self
    omega
  | v :: r, [], hr, _, h => by
    have h0 : b27 ([] : List Int).reverse = 0 := rfl
    have h1 := b27_cons r v
    have hb := (b27_b r r.length (Nat.le_refl _) (fun u hu => hr u (List.mem_cons_of_mem _ hu))).1
    have hv := hr v List.mem_cons_self
    omega
  | v :: r, u :: q, hr, hq, h => by
    rw [b27_cons, b27_cons] at h
    have hv := hr v List.mem_cons_self
    have hu := hq u List.mem_cons_self
    have e1 : v = u := by omega
    have e2 : b27 r.reverse = b27 q.reverse := by omega
    rw [e1, b27_inj r q (fun x hx => hr x (List.mem_cons_of_mem _ hx)) (fun x hx => hq x (List.mem_cons_of_mem _ hx)) e2]
theorem b27_eq {a b : List Int} (ha : NV a) (hb : NV b) : (b27 a = b27 b) ↔ a = b := by
  constructor
  · intro h
    have := b27_inj a.reverse b.reverse (fun v hv => ha.2.2 v (List.mem_reverse.mp hv)) (fun v hv => hb.2.2 v (List.mem_reverse.mp hv)) (by rw [List.reverse_reverse, List.reverse_reverse]; exact h)
    rw [← List.reverse_reverse a, this, List.reverse_reverse]
  · intro h; rw [h]
theorem b27_r {a : List Int} (ha : NV a) : 0 ≤ b27 a ∧ b27 a < 387420489 := by
  have h := b27_b a.reverse 6 (by rw [List.length_reverse]; exact ha.2.1) (fun v hv => ha.2.2 v (List.mem_reverse.mp hv))
  rw [List.reverse_reverse] at h
  have e : (27 : Int) ^ 6 = 387420489 := by decide
  exact ⟨h.1, by rw [← e]; exact h.2.1⟩
theorem b32_inj : ∀ (r q : List Int), (∀ v ∈ r, 1 ≤ v ∧ v ≤ 26) → (∀ v ∈ q, 1 ≤ v ∧ v ≤ 26) → b32 r = b32 q → r = q
  | [], [], _, _, _ => rfl
  | [], v :: q, _, hq, h => by
    have h0 : b32 ([] : List Int) = 0 := rfl
    have h1 : b32 (v :: q) = 32 * b32 q + v := rfl
    have hb := (b32_b q q.length (Nat.le_refl _) (fun u hu => hq u (List.mem_cons_of_mem _ hu))).1
    have hv := hq v List.mem_cons_self
    omega
  | v :: r, [], hr, _, h => by
    have h0 : b32 ([] : List Int) = 0 := rfl
    have h1 : b32 (v :: r) = 32 * b32 r + v := rfl
    have hb := (b32_b r r.length (Nat.le_refl _) (fun u hu => hr u (List.mem_cons_of_mem _ hu))).1
    have hv := hr v List.mem_cons_self
    omega
  | v :: r, u :: q, hr, hq, h => by
    have h1 : b32 (v :: r) = 32 * b32 r + v := rfl
    have h2 : b32 (u :: q) = 32 * b32 q + u := rfl
    have hv := hr v List.mem_cons_self
    have hu := hq u List.mem_cons_self
    have e1 : v = u := by omega
    have e2 : b32 r = b32 q := by omega
    rw [e1, b32_inj r q (fun x hx => hr x (List.mem_cons_of_mem _ hx)) (fun x hx => hq x (List.mem_cons_of_mem _ hx)) e2]
theorem b32_r {a : List Int} (ha : NV a) : 1 ≤ b32 a ∧ b32 a < 1073741824 := by
  have h := b32_b a 6 ha.2.1 ha.2.2
  have e : (32 : Int) ^ 6 = 1073741824 := by decide
  rw [e] at h
  refine ⟨?_, h.2⟩
  cases a with
  | nil => have := ha.1; simp at this
  | cons v r =>
    have h1 : b32 (v :: r) = 32 * b32 r + v := rfl
    have hb := (b32_b r r.length (Nat.le_refl _) (fun u hu => ha.2.2 u (List.mem_cons_of_mem _ hu))).1
    have hv := ha.2.2 v List.mem_cons_self
    omega
def fdx (f : Int → List Int) (nm : List Int) : Nat → Int → Int
  | 0, _ => -1
  | m + 1, i => if f i = nm then i else fdx f nm m (i + 1)
theorem fdx_b {f : Int → List Int} {nm : List Int} : ∀ (m : Nat) (i : Int), 0 ≤ i → fdx f nm m i = -1 ∨ (i ≤ fdx f nm m i ∧ fdx f nm m i < i + m ∧ f (fdx f nm m i) = nm)
  | 0, i, _ => Or.inl rfl
  | m + 1, i, i0 => by
    show (if f i = nm then i else fdx f nm m (i + 1)) = -1 ∨ (i ≤ (if f i = nm then i else fdx f nm m (i + 1)) ∧ (if f i = nm then i else fdx f nm m (i + 1)) < i + ((m + 1 : Nat) : Int) ∧ f (if f i = nm then i else fdx f nm m (i + 1)) = nm)
    by_cases e : f i = nm
    · rw [if_pos e]
      exact Or.inr ⟨by omega, by omega, e⟩
    · rw [if_neg e]
      rcases fdx_b (f := f) (nm := nm) m (i + 1) (by omega) with h | ⟨h1, h2, h3⟩
      · exact Or.inl h
      · exact Or.inr ⟨by omega, by omega, h3⟩
def RDn (B : Brd) (N : Int → Int → List Int) (s : ST) : Prop := ∀ k w : Int, 0 ≤ k → k ≤ 2 → 0 ≤ w → w < cnt B k → s.2.1 102 (8 * k + w).toNat = Int64.ofInt (b27 (N k w)) ∧ NV (N k w)
theorem m_nameOf_L {B : Brd} {N : Int → Int → List Int} {s : ST} (h : RDn B N s) {k : Int} (k0 : 0 ≤ k) (k1 : k ≤ 2) (hc : s.1 101 k.toNat = Int32.ofInt (cnt B k)) (c0 : 0 ≤ cnt B k) (c8 : cnt B k ≤ 8) {nm : List Int} (hn : NV nm) : ∀ (m F : Nat) (i : Int), 0 ≤ i → (cnt B k - i).toNat = m → m < F → i ≤ 8 → f_X10_nameOf_L3 F (Int32.ofInt k) (Int64.ofInt (b27 nm)) (Int32.ofInt i) s = some (Int32.ofInt (fdx (N k) nm m i), s) := by
  have hnb := b27_r hn
  intro m
  induction m with
  | zero =>
    intro F i i0 hm hF i8
    obtain ⟨F, rfl⟩ : ∃ F', F = F' + 1 := ⟨F - 1, by omega⟩
    have hcl : (Int32.ofInt k).toNatClampNeg = k.toNat := n_cl (by omega) (by omega)
    show _ = some (Int32.ofInt (-1), s)
    simp (disch := omega) only [f_X10_nameOf_L3, hcl, hc, n_i8, n_i16, n_0, n_31, n_add, n_sub, n_mul, n_neg, n_div, n_rem, n_le_t, n_le_f, n_lt_t, n_lt_f, n_eq_t, n_eq_f, n_cl, n_gd, n_gdt, n_nz, Int.reduceToNat, Int.reduceAdd, Int.reduceSub, Int.reduceMul, Int.reduceNeg, Int.reduceLT, Int.reduceLE, Int.reduceEq, Int.reduceDiv, Int.reduceMod, Nat.reduceAdd, Nat.reduceMul, ↓reduceIte]
  | succ m ih =>
    intro F i i0 hm hF i8
    obtain ⟨F, rfl⟩ : ∃ F', F = F' + 1 := ⟨F - 1, by omega⟩
    have hcl : (Int32.ofInt k).toNatClampNeg = k.toNat := n_cl (by omega) (by omega)
    obtain ⟨h1, h2⟩ := h k i k0 k1 i0 (by omega)
    have hib := b27_r h2
    show _ = some (Int32.ofInt (if N k i = nm then i else fdx (N k) nm m (i + 1)), s)
    by_cases e : N k i = nm
    · rw [if_pos e]
      have e2 : b27 (N k i) = b27 nm := by rw [e]
      simp (disch := omega) only [f_X10_nameOf_L3, hcl, hc, h1, l_ceq, n_i8, n_i16, n_0, n_31, n_add, n_sub, n_mul, n_neg, n_div, n_rem, n_le_t, n_le_f, n_lt_t, n_lt_f, n_eq_t, n_eq_f, n_cl, n_gd, n_gdt, n_nz, Int.reduceToNat, Int.reduceAdd, Int.reduceSub, Int.reduceMul, Int.reduceNeg, Int.reduceLT, Int.reduceLE, Int.reduceEq, Int.reduceDiv, Int.reduceMod, Nat.reduceAdd, Nat.reduceMul, ↓reduceIte, ltd]
    · rw [if_neg e]
      have e2 : ¬ b27 (N k i) = b27 nm := fun x => e ((b27_eq h2 hn).mp x)
      rw [← ih F (i + 1) (by omega) (by omega) (by omega) (by omega), f_X10_nameOf_L3]
      by_cases e3 : b27 (N k i) < b27 nm
      · simp (disch := omega) only [hcl, hc, h1, l_clt, n_i8, n_i16, n_0, n_31, n_add, n_sub, n_mul, n_neg, n_div, n_rem, n_le_t, n_le_f, n_lt_t, n_lt_f, n_eq_t, n_eq_f, n_cl, n_gd, n_gdt, n_nz, Int.reduceToNat, Int.reduceAdd, Int.reduceSub, Int.reduceMul, Int.reduceNeg, Int.reduceLT, Int.reduceLE, Int.reduceEq, Int.reduceDiv, Int.reduceMod, Nat.reduceAdd, Nat.reduceMul, ↓reduceIte, ltd]
      · simp (disch := omega) only [hcl, hc, h1, l_gt, n_i8, n_i16, n_0, n_31, n_add, n_sub, n_mul, n_neg, n_div, n_rem, n_le_t, n_le_f, n_lt_t, n_lt_f, n_eq_t, n_eq_f, n_cl, n_gd, n_gdt, n_nz, Int.reduceToNat, Int.reduceAdd, Int.reduceSub, Int.reduceMul, Int.reduceNeg, Int.reduceLT, Int.reduceLE, Int.reduceEq, Int.reduceDiv, Int.reduceMod, Nat.reduceAdd, Nat.reduceMul, ↓reduceIte, ltd]
theorem m_nameOf {B : Brd} {N : Int → Int → List Int} {s : ST} (h : RDn B N s) {k : Int} (k0 : 0 ≤ k) (k1 : k ≤ 2) (hc : s.1 101 k.toNat = Int32.ofInt (cnt B k)) (c0 : 0 ≤ cnt B k) (c8 : cnt B k ≤ 8) {nm : List Int} (hn : NV nm) : f_X10_nameOf (Int32.ofInt k) (Int64.ofInt (b27 nm)) s = some (Int32.ofInt (fdx (N k) nm (cnt B k).toNat 0), s) := by
  have e : f_X10_nameOf (Int32.ofInt k) (Int64.ofInt (b27 nm)) s = f_X10_nameOf_L3 fuel (Int32.ofInt k) (Int64.ofInt (b27 nm)) (Int32.ofInt 0) s := rfl
  rw [e, m_nameOf_L h k0 k1 hc c0 c8 hn (cnt B k).toNat fuel 0 (by omega) (by omega) (by unfold fuel; omega) (by omega)]
def dupk (B : Brd) (N : Int → Int → List Int) (nm : List Int) (k : Int) : Bool := decide (¬ fdx (N k) nm (cnt B k).toNat 0 = -1)
def dupD (B : Brd) (N : Int → Int → List Int) (nm : List Int) : Bool := dupk B N nm 0 || (dupk B N nm 1 || dupk B N nm 2)
/-! what has been told so far: a board, where men and what fields begin with, names -/
def DV (B : Brd) (G : Gam) (N : Int → Int → List Int) : Prop := ((2 ≤ bW B ∧ bW B ≤ 5 ∧ 2 ≤ bH B ∧ bH B ≤ 5) ∧ (0 ≤ bK B ∧ bK B ≤ 5 ∧ 0 ≤ bM B ∧ bM B ≤ 8 ∧ 0 ≤ bF B ∧ bF B ≤ 6) ∧ (1 ≤ bD B 0 ∧ bD B 0 ≤ 2 ∧ 1 ≤ bD B 1 ∧ bD B 1 ≤ 2) ∧ (0 ≤ bGr B ∧ bGr B ≤ 99 ∧ 0 ≤ bSl B ∧ bSl B ≤ 100)) ∧ (Bk B ∧ Bm B ∧ Bf B ∧ Hv B) ∧ ((∀ m : Int, 0 ≤ m → m < bM B → 0 ≤ gx G m ∧ gx G m < bW B ∧ 0 ≤ gy G m ∧ gy G m < bH B) ∧ Gdis B G ∧ Gb B G ∧ gd_ G = 0 ∧ gs G = 0) ∧ ∀ k w : Int, 0 ≤ k → k ≤ 2 → 0 ≤ w → w < cnt B k → NV (N k w)
def RDh (B : Brd) (s : ST) : Prop := (bHm B = -1 ∧ s.1 109 0 = Int32.ofInt (-1) ∧ s.1 65 56 = Int32.ofInt 0) ∨ (0 ≤ bHm B ∧ bHm B ≤ 1600 ∧ s.1 109 0 = Int32.ofInt 0 ∧ s.1 110 0 = Int32.ofInt (bHm B) ∧ s.1 65 56 = Int32.ofInt (bHm B) ∧ ∀ i : Int, 0 ≤ i → i < bHm B → s.1 111 i.toNat = Int32.ofInt (hcd B i))
def RD (B : Brd) (G : Gam) (N : Int → Int → List Int) (s : ST) : Prop := ((s.1 101 0 = Int32.ofInt (bK B) ∧ s.1 101 1 = Int32.ofInt (bM B) ∧ s.1 101 2 = Int32.ofInt (bF B)) ∧ (s.1 103 0 = Int32.ofInt (bW B) ∧ s.1 103 1 = Int32.ofInt (bH B) ∧ s.1 103 2 = Int32.ofInt (bD B 0) ∧ s.1 103 3 = Int32.ofInt (bD B 1)) ∧ s.1 108 0 = Int32.ofInt (bGr B) ∧ s.1 108 1 = Int32.ofInt (bSl B)) ∧ (∀ k : Int, 0 ≤ k → k < bK B → s.1 104 (4 * k).toNat = Int32.ofInt (wy B k) ∧ s.1 104 (4 * k + 1).toNat = Int32.ofInt (rch B k) ∧ s.1 104 (4 * k + 2).toNat = Int32.ofInt (wo B k) ∧ s.1 104 (4 * k + 3).toNat = Int32.ofInt (cr B k)) ∧ (∀ m : Int, 0 ≤ m → m < bM B → s.1 105 (2 * m).toNat = Int32.ofInt (kd B m) ∧ s.1 105 (2 * m + 1).toNat = Int32.ofInt (sd B m) ∧ s.1 106 (2 * m).toNat = Int32.ofInt (gx G m) ∧ s.1 106 (2 * m + 1).toNat = Int32.ofInt (gy G m)) ∧ (∀ f : Int, 0 ≤ f → f < bF B → s.1 107 (3 * f).toNat = Int32.ofInt (fx B f) ∧ s.1 107 (3 * f + 1).toNat = Int32.ofInt (fy B f) ∧ s.1 107 (3 * f + 2).toNat = Int32.ofInt (gb G f)) ∧ RDh B s ∧ RDn B N s
theorem RD_fr {B : Brd} {G : Gam} {N : Int → Int → List Int} {s s' : ST} (h : RD B G N s) (hf : ∀ o k : Nat, (101 ≤ o ∧ o ≤ 111) ∨ (o = 65 ∧ k = 56) → s'.1 o k = s.1 o k) (h2 : s'.2.1 = s.2.1) : RD B G N s' := by
  obtain ⟨⟨⟨a1, a2, a3⟩, ⟨a4, a5, a6, a7⟩, a8, a9⟩, b1, b2, b3, b4, b5⟩ := h
  refine ⟨⟨⟨(hf _ _ (by omega)).trans a1, (hf _ _ (by omega)).trans a2, (hf _ _ (by omega)).trans a3⟩, ⟨(hf _ _ (by omega)).trans a4, (hf _ _ (by omega)).trans a5, (hf _ _ (by omega)).trans a6, (hf _ _ (by omega)).trans a7⟩, (hf _ _ (by omega)).trans a8, (hf _ _ (by omega)).trans a9⟩, fun k k0 k1 => ?_, fun k k0 k1 => ?_, fun k k0 k1 => ?_, ?_, fun k w x1 x2 x3 x4 => ?_⟩
  · obtain ⟨c1, c2, c3, c4⟩ := b1 k k0 k1
    exact ⟨(hf _ _ (by omega)).trans c1, (hf _ _ (by omega)).trans c2, (hf _ _ (by omega)).trans c3, (hf _ _ (by omega)).trans c4⟩
  · obtain ⟨c1, c2, c3, c4⟩ := b2 k k0 k1
    exact ⟨(hf _ _ (by omega)).trans c1, (hf _ _ (by omega)).trans c2, (hf _ _ (by omega)).trans c3, (hf _ _ (by omega)).trans c4⟩
  · obtain ⟨c1, c2, c3⟩ := b3 k k0 k1
    exact ⟨(hf _ _ (by omega)).trans c1, (hf _ _ (by omega)).trans c2, (hf _ _ (by omega)).trans c3⟩
  · rcases b4 with ⟨c1, c2, c3⟩ | ⟨c1, c2, c3, c4, c5, c6⟩
    · exact Or.inl ⟨c1, (hf _ _ (by omega)).trans c2, (hf _ _ (by omega)).trans c3⟩
    · exact Or.inr ⟨c1, c2, (hf _ _ (by omega)).trans c3, (hf _ _ (by omega)).trans c4, (hf _ _ (by omega)).trans c5, fun i i0 i1 => (hf _ _ (by omega)).trans (c6 i i0 i1)⟩
  · rw [h2]; exact b5 k w x1 x2 x3 x4
theorem RD_p {B : Brd} {G : Gam} {N : Int → Int → List Int} {s s' : ST} (h : RD B G N s) (hf : RPf s s') : RD B G N s' := RD_fr h (fun o k x => hf.1 o k (by omega)) (by rw [hf.2])
theorem cnt_b {B : Brd} {G : Gam} {N : Int → Int → List Int} (h : DV B G N) (k : Int) : 0 ≤ cnt B k ∧ cnt B k ≤ 8 := by
  obtain ⟨⟨-, ⟨a1, a2, a3, a4, a5, a6⟩, -, -⟩, -⟩ := h
  unfold cnt
  (repeat' split) <;> omega
theorem m_newName {B : Brd} {G : Gam} {N : Int → Int → List Int} {c : Cur} {s : ST} (hV : DV B G N) (hD : RD B G N s) (h : RC T n c s) (hw : WDS s) : ∃ v s', f_X10_newName s = some (v, s') ∧ RPf s s' ∧ RQ (nmS T n (dupD B N) c) (fun a => v = Int64.ofInt (b27 a.1) ∧ NV a.1 ∧ RC T n a.2 s' ∧ WDS s') (fun k p => RB k p s') := by
  have hcb := h.b.2.1
  obtain ⟨v, s1, q1, q2, q3⟩ := m_name h hw
  have e0 : f_X10_newName s = f_X10_newName_L7 fuel v (Int32.ofInt 0) s1 := by
    unfold f_X10_newName
    rw [q1, bnd]
  obtain ⟨F, hF⟩ : ∃ F, fuel = F + 1 + 1 + 1 + 1 := ⟨99996, rfl⟩
  have dead : ∀ (F : Nat) (i : Int) (s2 : ST) (k p : Int), RB k p s2 → 0 ≤ i → i ≤ 3 → (3 - i).toNat < F → f_X10_newName_L7 F v (Int32.ofInt i) s2 = some (v, s2) := by
    intro F
    induction F with
    | zero => intro i s2 k p hB i0 i3 hi; omega
    | succ F ih =>
      intro i s2 k p hB i0 i3 hi
      have e5 : (s2.1 65 5 = Int32.ofInt 0) = False := eq_false hB.ne
      by_cases e : i = 3
      · subst e
        simp (disch := omega) only [f_X10_newName_L7, n_i8, n_i16, n_0, n_31, n_add, n_sub, n_mul, n_neg, n_div, n_rem, n_le_t, n_le_f, n_lt_t, n_lt_f, n_eq_t, n_eq_f, n_cl, n_gd, n_gdt, n_nz, Int.reduceToNat, Int.reduceAdd, Int.reduceSub, Int.reduceMul, Int.reduceNeg, Int.reduceLT, Int.reduceLE, Int.reduceEq, Int.reduceDiv, Int.reduceMod, Nat.reduceAdd, Nat.reduceMul, ↓reduceIte]
      · rw [← ih (i + 1) s2 k p hB (by omega) (by omega) (by omega), f_X10_newName_L7]
        simp (disch := omega) only [e5, n_i8, n_i16, n_0, n_31, n_add, n_sub, n_mul, n_neg, n_div, n_rem, n_le_t, n_le_f, n_lt_t, n_lt_f, n_eq_t, n_eq_f, n_cl, n_gd, n_gdt, n_nz, Int.reduceToNat, Int.reduceAdd, Int.reduceSub, Int.reduceMul, Int.reduceNeg, Int.reduceLT, Int.reduceLE, Int.reduceEq, Int.reduceDiv, Int.reduceMod, Nat.reduceAdd, Nat.reduceMul, ↓reduceIte]
  rw [e0, hF]
  unfold nmS
  cases eN : namS T n c with
  | error x =>
    rw [eN] at q3
    exact ⟨v, s1, dead _ 0 s1 x.1 x.2 q3 (by omega) (by omega) (by omega), q2, q3⟩
  | ok a =>
    rw [eN] at q3
    obtain ⟨u1, u2, u3⟩ := (q3 : v = Int64.ofInt (b27 a.1) ∧ RC T n a.2 s1 ∧ s1.1 65 44 = Int32.ofInt (frm T n c))
    obtain ⟨hNV, -, -⟩ := namS_v eN (by omega) (by omega)
    have hD1 := RD_p hD q2
    have hw1 := WDS_p hw q2
    have h5 := u2.b.1
    obtain ⟨⟨⟨a1, a2, a3⟩, -⟩, -, -, -, -, hRn⟩ := hD1
    have n0 := m_nameOf hRn (k := 0) (by omega) (by omega) a1 (cnt_b hV 0).1 (cnt_b hV 0).2 hNV
    have n1 := m_nameOf hRn (k := 1) (by omega) (by omega) a2 (cnt_b hV 1).1 (cnt_b hV 1).2 hNV
    have n2 := m_nameOf hRn (k := 2) (by omega) (by omega) a3 (cnt_b hV 2).1 (cnt_b hV 2).2 hNV
    have x0 := fdx_b (f := N 0) (nm := a.1) (cnt B 0).toNat 0 (by omega)
    have x1 := fdx_b (f := N 1) (nm := a.1) (cnt B 1).toNat 0 (by omega)
    have x2 := fdx_b (f := N 2) (nm := a.1) (cnt B 2).toNat 0 (by omega)
    have b0 := cnt_b hV 0
    have b1 := cnt_b hV 1
    have b2 := cnt_b hV 2
    obtain ⟨sf, f1, f2, f3⟩ := m_fail (k := 3) (p := frm T n c) h5 (by omega) (by omega)
    rw [eb_ok]
    subst u1
    unfold dupD dupk
    by_cases e0 : fdx (N 0) a.1 (cnt B 0).toNat 0 = -1
    · rw [e0] at n0
      have s1e : f_X10_newName_L7 (F + 1 + 1 + 1 + 1) (Int64.ofInt (b27 a.1)) (Int32.ofInt 0) s1 = f_X10_newName_L7 (F + 1 + 1 + 1) (Int64.ofInt (b27 a.1)) (Int32.ofInt 1) s1 := by
        rw [f_X10_newName_L7]
        simp (disch := omega) only [h5, ↓bb n0, n_i8, n_i16, n_0, n_31, n_add, n_sub, n_mul, n_neg, n_div, n_rem, n_le_t, n_le_f, n_lt_t, n_lt_f, n_eq_t, n_eq_f, n_cl, n_gd, n_gdt, n_nz, Int.reduceToNat, Int.reduceAdd, Int.reduceSub, Int.reduceMul, Int.reduceNeg, Int.reduceLT, Int.reduceLE, Int.reduceEq, Int.reduceDiv, Int.reduceMod, Nat.reduceAdd, Nat.reduceMul, ↓reduceIte]
      rw [s1e]
      by_cases e1 : fdx (N 1) a.1 (cnt B 1).toNat 0 = -1
      · rw [e1] at n1
        have s2e : f_X10_newName_L7 (F + 1 + 1 + 1) (Int64.ofInt (b27 a.1)) (Int32.ofInt 1) s1 = f_X10_newName_L7 (F + 1 + 1) (Int64.ofInt (b27 a.1)) (Int32.ofInt 2) s1 := by
          rw [f_X10_newName_L7]
          simp (disch := omega) only [h5, ↓bb n1, n_i8, n_i16, n_0, n_31, n_add, n_sub, n_mul, n_neg, n_div, n_rem, n_le_t, n_le_f, n_lt_t, n_lt_f, n_eq_t, n_eq_f, n_cl, n_gd, n_gdt, n_nz, Int.reduceToNat, Int.reduceAdd, Int.reduceSub, Int.reduceMul, Int.reduceNeg, Int.reduceLT, Int.reduceLE, Int.reduceEq, Int.reduceDiv, Int.reduceMod, Nat.reduceAdd, Nat.reduceMul, ↓reduceIte]
        rw [s2e]
        by_cases e2 : fdx (N 2) a.1 (cnt B 2).toNat 0 = -1
        · rw [e2] at n2
          have s3e : f_X10_newName_L7 (F + 1 + 1) (Int64.ofInt (b27 a.1)) (Int32.ofInt 2) s1 = some (Int64.ofInt (b27 a.1), s1) := by
            have s4e : f_X10_newName_L7 (F + 1) (Int64.ofInt (b27 a.1)) (Int32.ofInt 3) s1 = some (Int64.ofInt (b27 a.1), s1) := by
              simp (disch := omega) only [f_X10_newName_L7, n_i8, n_i16, n_0, n_31, n_add, n_sub, n_mul, n_neg, n_div, n_rem, n_le_t, n_le_f, n_lt_t, n_lt_f, n_eq_t, n_eq_f, n_cl, n_gd, n_gdt, n_nz, Int.reduceToNat, Int.reduceAdd, Int.reduceSub, Int.reduceMul, Int.reduceNeg, Int.reduceLT, Int.reduceLE, Int.reduceEq, Int.reduceDiv, Int.reduceMod, Nat.reduceAdd, Nat.reduceMul, ↓reduceIte]
            rw [← s4e, f_X10_newName_L7]
            simp (disch := omega) only [h5, ↓bb n2, n_i8, n_i16, n_0, n_31, n_add, n_sub, n_mul, n_neg, n_div, n_rem, n_le_t, n_le_f, n_lt_t, n_lt_f, n_eq_t, n_eq_f, n_cl, n_gd, n_gdt, n_nz, Int.reduceToNat, Int.reduceAdd, Int.reduceSub, Int.reduceMul, Int.reduceNeg, Int.reduceLT, Int.reduceLE, Int.reduceEq, Int.reduceDiv, Int.reduceMod, Nat.reduceAdd, Nat.reduceMul, ↓reduceIte]
          refine ⟨_, s1, s3e, q2, ?_⟩
          rw [e0, e1, e2]
          exact ⟨rfl, hNV, u2, hw1⟩
        · refine ⟨Int64.ofInt (b27 a.1), sf, ?_, q2.tr f3, ?_⟩
          · rw [← dead (F + 1) 3 sf 3 (frm T n c) f2 (by omega) (by omega) (by omega), f_X10_newName_L7]
            simp (disch := omega) only [h5, u3, ↓bb n2, ↓bb f1, n_i8, n_i16, n_0, n_31, n_add, n_sub, n_mul, n_neg, n_div, n_rem, n_le_t, n_le_f, n_lt_t, n_lt_f, n_eq_t, n_eq_f, n_cl, n_gd, n_gdt, n_nz, Int.reduceToNat, Int.reduceAdd, Int.reduceSub, Int.reduceMul, Int.reduceNeg, Int.reduceLT, Int.reduceLE, Int.reduceEq, Int.reduceDiv, Int.reduceMod, Nat.reduceAdd, Nat.reduceMul, ↓reduceIte]
          · rw [e0, e1, decide_eq_true e2]
            exact f2
      · refine ⟨Int64.ofInt (b27 a.1), sf, ?_, q2.tr f3, ?_⟩
        · rw [← dead (F + 1 + 1) 2 sf 3 (frm T n c) f2 (by omega) (by omega) (by omega), f_X10_newName_L7]
          simp (disch := omega) only [h5, u3, ↓bb n1, ↓bb f1, n_i8, n_i16, n_0, n_31, n_add, n_sub, n_mul, n_neg, n_div, n_rem, n_le_t, n_le_f, n_lt_t, n_lt_f, n_eq_t, n_eq_f, n_cl, n_gd, n_gdt, n_nz, Int.reduceToNat, Int.reduceAdd, Int.reduceSub, Int.reduceMul, Int.reduceNeg, Int.reduceLT, Int.reduceLE, Int.reduceEq, Int.reduceDiv, Int.reduceMod, Nat.reduceAdd, Nat.reduceMul, ↓reduceIte]
        · rw [e0, decide_eq_true e1]
          exact f2
    · refine ⟨Int64.ofInt (b27 a.1), sf, ?_, q2.tr f3, ?_⟩
      · rw [← dead (F + 1 + 1 + 1) 1 sf 3 (frm T n c) f2 (by omega) (by omega) (by omega), f_X10_newName_L7]
        simp (disch := omega) only [h5, u3, ↓bb n0, ↓bb f1, n_i8, n_i16, n_0, n_31, n_add, n_sub, n_mul, n_neg, n_div, n_rem, n_le_t, n_le_f, n_lt_t, n_lt_f, n_eq_t, n_eq_f, n_cl, n_gd, n_gdt, n_nz, Int.reduceToNat, Int.reduceAdd, Int.reduceSub, Int.reduceMul, Int.reduceNeg, Int.reduceLT, Int.reduceLE, Int.reduceEq, Int.reduceDiv, Int.reduceMod, Nat.reduceAdd, Nat.reduceMul, ↓reduceIte]
      · rw [decide_eq_true e0]
        exact f2
