/-! L3: the abstract board and game, and how the reference's cells hold them -/
abbrev Brd : Type := Nat → Int → Int
def bW (B : Brd) : Int := B 0 0
def bH (B : Brd) : Int := B 0 1
def bK (B : Brd) : Int := B 0 2
def bM (B : Brd) : Int := B 0 3
def bF (B : Brd) : Int := B 0 4
def bGr (B : Brd) : Int := B 0 5
def bSl (B : Brd) : Int := B 0 6
def bHm (B : Brd) : Int := B 0 7
def bD (B : Brd) (t : Int) : Int := B 1 t
def wy (B : Brd) (k : Int) : Int := B 2 k
def rch (B : Brd) (k : Int) : Int := B 3 k
def wo (B : Brd) (k : Int) : Int := B 4 k
def cr (B : Brd) (k : Int) : Int := B 5 k
def kd (B : Brd) (m : Int) : Int := B 6 m
def sd (B : Brd) (m : Int) : Int := B 7 m
def fx (B : Brd) (f : Int) : Int := B 8 f
def fy (B : Brd) (f : Int) : Int := B 9 f
def hcd (B : Brd) (i : Int) : Int := B 11 i
/-- a game: day, side, columns, rows, what fields bear -/
abbrev Gam : Type := Nat → Int → Int
def gd_ (G : Gam) : Int := G 0 0
def gs (G : Gam) : Int := G 0 1
def gx (G : Gam) (m : Int) : Int := G 1 m
def gy (G : Gam) (m : Int) : Int := G 2 m
def gb (G : Gam) (f : Int) : Int := G 3 f
def Bok (B : Brd) : Prop := (0 ≤ bW B ∧ bW B ≤ 5 ∧ 0 ≤ bH B ∧ bH B ≤ 5 ∧ 0 ≤ bK B ∧ bK B ≤ 5 ∧ 0 ≤ bM B ∧ bM B ≤ 8 ∧ 0 ≤ bF B ∧ bF B ≤ 6) ∧ (0 < bW B → 2 ≤ bW B ∧ 2 ≤ bH B) ∧ (bW B = 0 → bH B = 0 ∧ bK B = 0 ∧ bM B = 0 ∧ bF B = 0)
def Bk (B : Brd) : Prop := ∀ k : Int, 0 ≤ k → k < bK B → 1 ≤ wy B k ∧ wy B k ≤ 4 ∧ 1 ≤ rch B k ∧ rch B k ≤ 4 ∧ 0 ≤ wo B k ∧ wo B k ≤ 99 ∧ 0 ≤ cr B k ∧ cr B k ≤ 1
def Bm (B : Brd) : Prop := ∀ m : Int, 0 ≤ m → m < bM B → 0 ≤ kd B m ∧ kd B m < bK B ∧ 0 ≤ sd B m ∧ sd B m ≤ 1
def Bf (B : Brd) : Prop := ∀ f : Int, 0 ≤ f → f < bF B → 0 ≤ fx B f ∧ fx B f < bW B ∧ 0 ≤ fy B f ∧ fy B f < bH B
def Bv (B : Brd) : Prop := Bok B ∧ Bk B ∧ Bm B ∧ Bf B ∧ (1 ≤ bD B 0 ∧ bD B 0 ≤ 2 ∧ 1 ≤ bD B 1 ∧ bD B 1 ≤ 2 ∨ bW B = 0) ∧ (0 ≤ bGr B ∧ bGr B ≤ 99 ∧ 0 ≤ bSl B ∧ bSl B ≤ 100)
/-- where a man may be -/
def Gp (B : Brd) (G : Gam) : Prop := ∀ m : Int, 0 ≤ m → m < bM B → (gx G m = -1 ∧ gy G m = -1) ∨ (0 ≤ gx G m ∧ gx G m < bW B ∧ 0 ≤ gy G m ∧ gy G m < bH B)
def Gdis (B : Brd) (G : Gam) : Prop := ∀ m n : Int, 0 ≤ m → m < bM B → 0 ≤ n → n < bM B → 0 ≤ gx G m → gx G m = gx G n → gy G m = gy G n → m = n
def Gb (B : Brd) (G : Gam) : Prop := ∀ f : Int, 0 ≤ f → f < bF B → 0 ≤ gb G f ∧ gb G f ≤ 999
def Gv (B : Brd) (G : Gam) : Prop := (0 ≤ gd_ G ∧ gd_ G ≤ 1000 ∧ 0 ≤ gs G ∧ gs G ≤ 1) ∧ Gp B G ∧ Gdis B G ∧ Gb B G
/-- the reference's board -/
def MBn (B : Brd) (s : ST) : Prop := s.1 101 3 = Int32.ofInt (bK B) ∧ s.1 101 4 = Int32.ofInt (bM B) ∧ s.1 101 5 = Int32.ofInt (bF B) ∧ s.1 103 4 = Int32.ofInt (bW B) ∧ s.1 103 5 = Int32.ofInt (bH B) ∧ s.1 103 6 = Int32.ofInt (bD B 0) ∧ s.1 103 7 = Int32.ofInt (bD B 1) ∧ s.1 108 2 = Int32.ofInt (bGr B) ∧ s.1 108 3 = Int32.ofInt (bSl B)
def MBk (B : Brd) (s : ST) : Prop := ∀ k : Int, 0 ≤ k → k < bK B → s.1 104 (20 + 4 * k).toNat = Int32.ofInt (wy B k) ∧ s.1 104 (21 + 4 * k).toNat = Int32.ofInt (rch B k) ∧ s.1 104 (22 + 4 * k).toNat = Int32.ofInt (wo B k) ∧ s.1 104 (23 + 4 * k).toNat = Int32.ofInt (cr B k)
def MBm (B : Brd) (s : ST) : Prop := ∀ m : Int, 0 ≤ m → m < bM B → s.1 105 (16 + 2 * m).toNat = Int32.ofInt (kd B m) ∧ s.1 105 (17 + 2 * m).toNat = Int32.ofInt (sd B m)
def MBf (B : Brd) (s : ST) : Prop := ∀ f : Int, 0 ≤ f → f < bF B → s.1 107 (18 + 3 * f).toNat = Int32.ofInt (fx B f) ∧ s.1 107 (19 + 3 * f).toNat = Int32.ofInt (fy B f)
def MB (B : Brd) (s : ST) : Prop := MBn B s ∧ MBk B s ∧ MBm B s ∧ MBf B s
/-- the reference's game -/
def MGn (G : Gam) (s : ST) : Prop := s.1 112 0 = Int32.ofInt (gd_ G) ∧ s.1 112 1 = Int32.ofInt (gs G)
def MGm (B : Brd) (G : Gam) (s : ST) : Prop := ∀ m : Int, 0 ≤ m → m < bM B → s.1 112 (2 + 2 * m).toNat = Int32.ofInt (gx G m) ∧ s.1 112 (2 + 2 * m + 1).toNat = Int32.ofInt (gy G m)
def MGf (B : Brd) (G : Gam) (s : ST) : Prop := ∀ f : Int, 0 ≤ f → f < bF B → s.1 112 (18 + f).toNat = Int32.ofInt (gb G f)
def MG (B : Brd) (G : Gam) (s : ST) : Prop := MGn G s ∧ MGm B G s ∧ MGf B G s
/-- all that the reference's game functions need -/
def MA (B : Brd) (G : Gam) (s : ST) : Prop := Bv B ∧ Gv B G ∧ MB B s ∧ MG B G s
def bI (c : Bool) : Int32 := if c = true then Int32.ofInt 1 else Int32.ofInt 0
theorem bI_t : bI true = Int32.ofInt 1 := rfl
theorem bI_f : bI false = Int32.ofInt 0 := rfl
theorem bI_0 (c : Bool) : (bI c = Int32.ofInt 0) = (c = false) := by cases c <;> decide
theorem bI_1 (c : Bool) : (bI c = Int32.ofInt 1) = (c = true) := by cases c <;> decide
