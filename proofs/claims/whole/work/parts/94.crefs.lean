/-! L3: the class's cells: games at 36 and 46, plans at 6 and 20 -/
theorem g_kk {α : Type} {o : Nat} (h : o = 36 ∨ o = 46) {x : Option α} : gd (kk o 3) x = x := by rcases h with rfl | rfl <;> rfl
theorem g_k1 {α : Type} {o : Nat} (h : o = 36 ∨ o = 46) {x : Option α} : gd (kk (o + 1) 13) x = x := by rcases h with rfl | rfl <;> rfl
theorem g_n1 {o : Nat} (h : o = 36 ∨ o = 46) : (K0 (o + 1)).2 = 2 := by rcases h with rfl | rfl <;> rfl
theorem g_k2 {α : Type} {o : Nat} (h : o = 36 ∨ o = 46) {x : Option α} : gd (kk (o + 2) 13) x = x := by rcases h with rfl | rfl <;> rfl
theorem g_n2 {o : Nat} (h : o = 36 ∨ o = 46) : (K0 (o + 2)).2 = 8 := by rcases h with rfl | rfl <;> rfl
theorem g_k3 {α : Type} {o : Nat} (h : o = 36 ∨ o = 46) {x : Option α} : gd (kk (o + 3) 13) x = x := by rcases h with rfl | rfl <;> rfl
theorem g_n3 {o : Nat} (h : o = 36 ∨ o = 46) : (K0 (o + 3)).2 = 6 := by rcases h with rfl | rfl <;> rfl
theorem g_k4 {α : Type} {o : Nat} (h : o = 36 ∨ o = 46) {x : Option α} : gd (kk (o + 4) 13) x = x := by rcases h with rfl | rfl <;> rfl
theorem g_n4 {o : Nat} (h : o = 36 ∨ o = 46) : (K0 (o + 4)).2 = 25 := by rcases h with rfl | rfl <;> rfl
theorem g_k5 {α : Type} {o : Nat} (h : o = 36 ∨ o = 46) {x : Option α} : gd (kk (o + 5) 13) x = x := by rcases h with rfl | rfl <;> rfl
theorem g_n5 {o : Nat} (h : o = 36 ∨ o = 46) : (K0 (o + 5)).2 = 2 := by rcases h with rfl | rfl <;> rfl
theorem g_k7 {α : Type} {o : Nat} (h : o = 36 ∨ o = 46) {x : Option α} : gd (kk (o + 7) 13) x = x := by rcases h with rfl | rfl <;> rfl
theorem g_n7 {o : Nat} (h : o = 36 ∨ o = 46) : (K0 (o + 7)).2 = 33 := by rcases h with rfl | rfl <;> rfl
theorem g_k8 {α : Type} {o : Nat} (h : o = 36 ∨ o = 46) {x : Option α} : gd (kk (o + 8) 13) x = x := by rcases h with rfl | rfl <;> rfl
theorem g_n8 {o : Nat} (h : o = 36 ∨ o = 46) : (K0 (o + 8)).2 = 6 := by rcases h with rfl | rfl <;> rfl
theorem g_k9 {α : Type} {o : Nat} (h : o = 36 ∨ o = 46) {x : Option α} : gd (kk (o + 9) 13) x = x := by rcases h with rfl | rfl <;> rfl
theorem g_n9 {o : Nat} (h : o = 36 ∨ o = 46) : (K0 (o + 9)).2 = 64 := by rcases h with rfl | rfl <;> rfl
theorem g_k6 {α : Type} {o : Nat} (h : o = 36 ∨ o = 46) {x : Option α} : gd (kk (o + 6) 6) x = x := by rcases h with rfl | rfl <;> rfl
theorem g_r3 {ρ : Nat → Option Nat} {o : Nat} (h : o = 36 ∨ o = 46) : RR ρ o 3 = some (o + 1) := by rcases h with rfl | rfl <;> rfl
theorem g_r4 {ρ : Nat → Option Nat} {o : Nat} (h : o = 36 ∨ o = 46) : RR ρ o 4 = some (o + 2) := by rcases h with rfl | rfl <;> rfl
theorem g_r5 {ρ : Nat → Option Nat} {o : Nat} (h : o = 36 ∨ o = 46) : RR ρ o 5 = some (o + 3) := by rcases h with rfl | rfl <;> rfl
theorem g_r6 {ρ : Nat → Option Nat} {o : Nat} (h : o = 36 ∨ o = 46) : RR ρ o 6 = some (o + 4) := by rcases h with rfl | rfl <;> rfl
theorem g_r7 {ρ : Nat → Option Nat} {o : Nat} (h : o = 36 ∨ o = 46) : RR ρ o 7 = some (o + 5) := by rcases h with rfl | rfl <;> rfl
theorem g_r10 {ρ : Nat → Option Nat} {o : Nat} (h : o = 36 ∨ o = 46) : RR ρ o 10 = some (o + 6) := by rcases h with rfl | rfl <;> rfl
theorem g_q0 {ρ : Nat → Option Nat} {o : Nat} (h : o = 36 ∨ o = 46) : RR ρ (o + 6) 0 = some (o + 7) := by rcases h with rfl | rfl <;> rfl
theorem g_q1 {ρ : Nat → Option Nat} {o : Nat} (h : o = 36 ∨ o = 46) : RR ρ (o + 6) 1 = some (o + 8) := by rcases h with rfl | rfl <;> rfl
theorem g_q2 {ρ : Nat → Option Nat} {o : Nat} (h : o = 36 ∨ o = 46) : RR ρ (o + 6) 2 = some (o + 9) := by rcases h with rfl | rfl <;> rfl
theorem p_kk {α : Type} {p : Nat} (h : p = 6 ∨ p = 20) {x : Option α} : gd (kk p 4) x = x := by rcases h with rfl | rfl <;> rfl
theorem p_k1 {α : Type} {p : Nat} (h : p = 6 ∨ p = 20) {x : Option α} : gd (kk (p + 1) 13) x = x := by rcases h with rfl | rfl <;> rfl
theorem p_n1 {p : Nat} (h : p = 6 ∨ p = 20) : (K0 (p + 1)).2 = 2 := by rcases h with rfl | rfl <;> rfl
theorem p_k2 {α : Type} {p : Nat} (h : p = 6 ∨ p = 20) {x : Option α} : gd (kk (p + 2) 13) x = x := by rcases h with rfl | rfl <;> rfl
theorem p_n2 {p : Nat} (h : p = 6 ∨ p = 20) : (K0 (p + 2)).2 = 5 := by rcases h with rfl | rfl <;> rfl
theorem p_k3 {α : Type} {p : Nat} (h : p = 6 ∨ p = 20) {x : Option α} : gd (kk (p + 3) 13) x = x := by rcases h with rfl | rfl <;> rfl
theorem p_n3 {p : Nat} (h : p = 6 ∨ p = 20) : (K0 (p + 3)).2 = 5 := by rcases h with rfl | rfl <;> rfl
theorem p_k4 {α : Type} {p : Nat} (h : p = 6 ∨ p = 20) {x : Option α} : gd (kk (p + 4) 13) x = x := by rcases h with rfl | rfl <;> rfl
theorem p_n4 {p : Nat} (h : p = 6 ∨ p = 20) : (K0 (p + 4)).2 = 5 := by rcases h with rfl | rfl <;> rfl
theorem p_k5 {α : Type} {p : Nat} (h : p = 6 ∨ p = 20) {x : Option α} : gd (kk (p + 5) 13) x = x := by rcases h with rfl | rfl <;> rfl
theorem p_n5 {p : Nat} (h : p = 6 ∨ p = 20) : (K0 (p + 5)).2 = 5 := by rcases h with rfl | rfl <;> rfl
theorem p_k6 {α : Type} {p : Nat} (h : p = 6 ∨ p = 20) {x : Option α} : gd (kk (p + 6) 13) x = x := by rcases h with rfl | rfl <;> rfl
theorem p_n6 {p : Nat} (h : p = 6 ∨ p = 20) : (K0 (p + 6)).2 = 8 := by rcases h with rfl | rfl <;> rfl
theorem p_k7 {α : Type} {p : Nat} (h : p = 6 ∨ p = 20) {x : Option α} : gd (kk (p + 7) 13) x = x := by rcases h with rfl | rfl <;> rfl
theorem p_n7 {p : Nat} (h : p = 6 ∨ p = 20) : (K0 (p + 7)).2 = 8 := by rcases h with rfl | rfl <;> rfl
theorem p_k8 {α : Type} {p : Nat} (h : p = 6 ∨ p = 20) {x : Option α} : gd (kk (p + 8) 13) x = x := by rcases h with rfl | rfl <;> rfl
theorem p_n8 {p : Nat} (h : p = 6 ∨ p = 20) : (K0 (p + 8)).2 = 8 := by rcases h with rfl | rfl <;> rfl
theorem p_k9 {α : Type} {p : Nat} (h : p = 6 ∨ p = 20) {x : Option α} : gd (kk (p + 9) 13) x = x := by rcases h with rfl | rfl <;> rfl
theorem p_n9 {p : Nat} (h : p = 6 ∨ p = 20) : (K0 (p + 9)).2 = 6 := by rcases h with rfl | rfl <;> rfl
theorem p_k10 {α : Type} {p : Nat} (h : p = 6 ∨ p = 20) {x : Option α} : gd (kk (p + 10) 13) x = x := by rcases h with rfl | rfl <;> rfl
theorem p_n10 {p : Nat} (h : p = 6 ∨ p = 20) : (K0 (p + 10)).2 = 6 := by rcases h with rfl | rfl <;> rfl
theorem p_k11 {α : Type} {p : Nat} (h : p = 6 ∨ p = 20) {x : Option α} : gd (kk (p + 11) 13) x = x := by rcases h with rfl | rfl <;> rfl
theorem p_n11 {p : Nat} (h : p = 6 ∨ p = 20) : (K0 (p + 11)).2 = 19 := by rcases h with rfl | rfl <;> rfl
theorem p_k13 {α : Type} {p : Nat} (h : p = 6 ∨ p = 20) {x : Option α} : gd (kk (p + 13) 13) x = x := by rcases h with rfl | rfl <;> rfl
theorem p_n13 {p : Nat} (h : p = 6 ∨ p = 20) : (K0 (p + 13)).2 = 1600 := by rcases h with rfl | rfl <;> rfl
theorem p_k12 {α : Type} {p : Nat} (h : p = 6 ∨ p = 20) {x : Option α} : gd (kk (p + 12) 2) x = x := by rcases h with rfl | rfl <;> rfl
theorem p_r2 {ρ : Nat → Option Nat} {p : Nat} (h : p = 6 ∨ p = 20) : RR ρ p 2 = some (p + 1) := by rcases h with rfl | rfl <;> rfl
theorem p_r4 {ρ : Nat → Option Nat} {p : Nat} (h : p = 6 ∨ p = 20) : RR ρ p 4 = some (p + 2) := by rcases h with rfl | rfl <;> rfl
theorem p_r5 {ρ : Nat → Option Nat} {p : Nat} (h : p = 6 ∨ p = 20) : RR ρ p 5 = some (p + 3) := by rcases h with rfl | rfl <;> rfl
theorem p_r6 {ρ : Nat → Option Nat} {p : Nat} (h : p = 6 ∨ p = 20) : RR ρ p 6 = some (p + 4) := by rcases h with rfl | rfl <;> rfl
theorem p_r7 {ρ : Nat → Option Nat} {p : Nat} (h : p = 6 ∨ p = 20) : RR ρ p 7 = some (p + 5) := by rcases h with rfl | rfl <;> rfl
theorem p_r9 {ρ : Nat → Option Nat} {p : Nat} (h : p = 6 ∨ p = 20) : RR ρ p 9 = some (p + 6) := by rcases h with rfl | rfl <;> rfl
theorem p_r10 {ρ : Nat → Option Nat} {p : Nat} (h : p = 6 ∨ p = 20) : RR ρ p 10 = some (p + 7) := by rcases h with rfl | rfl <;> rfl
theorem p_r11 {ρ : Nat → Option Nat} {p : Nat} (h : p = 6 ∨ p = 20) : RR ρ p 11 = some (p + 8) := by rcases h with rfl | rfl <;> rfl
theorem p_r13 {ρ : Nat → Option Nat} {p : Nat} (h : p = 6 ∨ p = 20) : RR ρ p 13 = some (p + 9) := by rcases h with rfl | rfl <;> rfl
theorem p_r14 {ρ : Nat → Option Nat} {p : Nat} (h : p = 6 ∨ p = 20) : RR ρ p 14 = some (p + 10) := by rcases h with rfl | rfl <;> rfl
theorem p_r15 {ρ : Nat → Option Nat} {p : Nat} (h : p = 6 ∨ p = 20) : RR ρ p 15 = some (p + 11) := by rcases h with rfl | rfl <;> rfl
theorem p_r16 {ρ : Nat → Option Nat} {p : Nat} (h : p = 6 ∨ p = 20) : RR ρ p 16 = some (p + 12) := by rcases h with rfl | rfl <;> rfl
theorem p_h0 {ρ : Nat → Option Nat} {p : Nat} (h : p = 6 ∨ p = 20) : RR ρ (p + 12) 0 = some (p + 13) := by rcases h with rfl | rfl <;> rfl
/-- a code as the class has it: a number from 0 on is itself, others below 0 -/
def wdP (i : Int) : Int := if i = 0 then 18 else if i = 1 then 19 else if i = 2 then 20 else if i = 3 then 21 else if i = 4 then 22 else if i = 5 then 23 else if i = 6 then 24 else if i = 7 then 25 else if i = 8 then 7 else if i = 9 then 6 else 26
def toC (c : Int) : Int := if 1000 ≤ c then c - 1000 else if c = 60 then -13 else if 40 ≤ c then -100 - wdP (c - 40) else if c = 13 then 1 else -c
def PBn (B : Brd) (p : Nat) (s : ST) : Prop := s.1 p 0 = Int32.ofInt (bW B) ∧ s.1 p 1 = Int32.ofInt (bH B) ∧ s.1 p 3 = Int32.ofInt (bK B) ∧ s.1 p 8 = Int32.ofInt (bM B) ∧ s.1 p 12 = Int32.ofInt (bF B) ∧ s.1 p 18 = Int32.ofInt (bGr B) ∧ s.1 p 19 = Int32.ofInt (bSl B)
def PBk (B : Brd) (p : Nat) (s : ST) : Prop := ∀ k : Int, 0 ≤ k → k < bK B → s.1 (p + 2) k.toNat = Int32.ofInt (wy B k) ∧ s.1 (p + 3) k.toNat = Int32.ofInt (rch B k) ∧ s.1 (p + 4) k.toNat = Int32.ofInt (wo B k) ∧ s.1 (p + 5) k.toNat = Int32.ofInt (cr B k)
def PBm (B : Brd) (p : Nat) (s : ST) : Prop := ∀ m : Int, 0 ≤ m → m < bM B → s.1 (p + 6) m.toNat = Int32.ofInt (kd B m) ∧ s.1 (p + 7) m.toNat = Int32.ofInt (sd B m)
def PBf (B : Brd) (p : Nat) (s : ST) : Prop := ∀ f : Int, 0 ≤ f → f < bF B → s.1 (p + 9) f.toNat = Int32.ofInt (5 * fy B f + fx B f)
def PBh (B : Brd) (p : Nat) (s : ST) : Prop := (bHm B = -1 ∧ s.1 p 17 = Int32.ofInt 0) ∨ (0 ≤ bHm B ∧ bHm B ≤ 1600 ∧ s.1 p 17 = Int32.ofInt 1 ∧ s.1 (p + 12) 1 = Int32.ofInt (bHm B) ∧ ∀ i : Int, 0 ≤ i → i < bHm B → s.1 (p + 13) i.toNat = Int32.ofInt (toC (hcd B i)))
def PB (B : Brd) (p : Nat) (s : ST) : Prop := PBn B p s ∧ PBk B p s ∧ PBm B p s ∧ PBf B p s ∧ PBh B p s
theorem PB_fr {B : Brd} {p : Nat} {s s' : ST} (h : PB B p s) (hf : ∀ o k : Nat, p ≤ o → o ≤ p + 13 → s'.1 o k = s.1 o k) : PB B p s' := by
  obtain ⟨h1, h2, h3, h4, h5⟩ := h
  refine ⟨?_, fun k a b => ?_, fun k a b => ?_, fun k a b => ?_, ?_⟩
  · unfold PBn at *
    rw [hf p 0 (by omega) (by omega), hf p 1 (by omega) (by omega), hf p 3 (by omega) (by omega), hf p 8 (by omega) (by omega), hf p 12 (by omega) (by omega), hf p 18 (by omega) (by omega), hf p 19 (by omega) (by omega)]
    exact h1
  · rw [hf (p + 2) _ (by omega) (by omega), hf (p + 3) _ (by omega) (by omega), hf (p + 4) _ (by omega) (by omega), hf (p + 5) _ (by omega) (by omega)]
    exact h2 k a b
  · rw [hf (p + 6) _ (by omega) (by omega), hf (p + 7) _ (by omega) (by omega)]
    exact h3 k a b
  · rw [hf (p + 9) _ (by omega) (by omega)]
    exact h4 k a b
  · rcases h5 with ⟨a, b⟩ | ⟨a, b, c, d, e⟩
    · exact Or.inl ⟨a, (hf p 17 (by omega) (by omega)).trans b⟩
    · exact Or.inr ⟨a, b, (hf p 17 (by omega) (by omega)).trans c, (hf (p + 12) 1 (by omega) (by omega)).trans d, fun i i1 i2 => (hf (p + 13) _ (by omega) (by omega)).trans (e i i1 i2)⟩
/-- where a man stands, as the class numbers places -/
def pl (G : Gam) (m : Int) : Int := if gx G m = -1 then -1 else 5 * gy G m + gx G m
def occ (B : Brd) (G : Gam) (t q : Int) : Bool := decide (¬ mAt B G (q % 5) (q / 5) = -1) && decide (sd B (mAt B G (q % 5) (q / 5)) = t)
/-- a game's cells: places of men, men at places, what both sides hold, lead, crowns taken -/
def RP (B : Brd) (o : Nat) (P S : Int → Int) (H : Int → Int → Bool) (l c : Int) (s : ST) : Prop := (∀ m : Int, 0 ≤ m → m < bM B → s.1 (o + 2) m.toNat = Int32.ofInt (P m)) ∧ (∀ q : Int, 0 ≤ q → q < 25 → s.1 (o + 4) q.toNat = Int32.ofInt (S q)) ∧ (s.1 (o + 5) 0 = bmk (H 0) ∧ s.1 (o + 5) 1 = bmk (H 1)) ∧ s.1 o 8 = Int32.ofInt l ∧ s.1 o 9 = Int32.ofInt c
def ctn (B : Brd) (G : Gam) : Int := smL (fun m => b1 (isCr B m && tk G m)) (mens B)
def CGp (B : Brd) (G : Gam) (o : Nat) (s : ST) : Prop := RP B o (pl G) (fun q => mAt B G (q % 5) (q / 5)) (occ B G) (bal B G 0) (ctn B G) s
/-- the class's game o on plan p: board and men -/
def GA (B : Brd) (G : Gam) (o p : Nat) (s : ST) : Prop := (Bv B ∧ Gv B G) ∧ ((o = 36 ∨ o = 46) ∧ (p = 6 ∨ p = 20)) ∧ RR s.2.2 o 0 = some p ∧ PB B p s ∧ CGp B G o s
theorem GA_fr {B : Brd} {G : Gam} {o p : Nat} {s s' : ST} (h : GA B G o p s) (hr : s'.2.2 = s.2.2) (hp : ∀ a k : Nat, p ≤ a → a ≤ p + 13 → s'.1 a k = s.1 a k) (hg : ∀ k : Nat, s'.1 (o + 2) k = s.1 (o + 2) k ∧ s'.1 (o + 4) k = s.1 (o + 4) k ∧ s'.1 (o + 5) k = s.1 (o + 5) k) (h8 : s'.1 o 8 = s.1 o 8) (h9 : s'.1 o 9 = s.1 o 9) : GA B G o p s' := by
  obtain ⟨h1, h2, h3, h4, h5, h6, ⟨h7, h7b⟩, h8', h9'⟩ := h
  exact ⟨h1, h2, by rw [hr]; exact h3, PB_fr h4 hp, fun m a b => (hg _).1.trans (h5 m a b), fun q a b => (hg _).2.1.trans (h6 q a b), ⟨(hg _).2.2.trans h7, (hg _).2.2.trans h7b⟩, h8.trans h8', h9.trans h9'⟩
theorem pl_b {B : Brd} {G : Gam} (hB : Bv B) (hG : Gv B G) {m : Int} (m0 : 0 ≤ m) (m1 : m < bM B) : (gx G m = -1 ∧ pl G m = -1) ∨ (0 ≤ gx G m ∧ gx G m < bW B ∧ 0 ≤ gy G m ∧ gy G m < bH B ∧ pl G m = 5 * gy G m + gx G m ∧ 0 ≤ pl G m ∧ pl G m < 25 ∧ pl G m % 5 = gx G m ∧ pl G m / 5 = gy G m) := by
  have hW : bW B ≤ 5 := hB.1.1.2.1
  have hH : bH B ≤ 5 := hB.1.1.2.2.2.1
  have := hG.2.1 m m0 m1
  unfold pl
  rcases this with ⟨a, b⟩ | ⟨a, b, c, d⟩
  · left; rw [if_pos a]; exact ⟨a, rfl⟩
  · right; rw [if_neg (by omega)]; omega
