/-! L3: what holds between any two calls -/
def cnt (B : Brd) (k : Int) : Int := if k = 0 then bK B else if k = 1 then bM B else bF B
def slt (k : Int) : Int := if k = 0 then 0 else if k = 1 then 5 else 13
def NV (l : List Int) : Prop := 1 ≤ l.length ∧ l.length ≤ 6 ∧ ∀ v ∈ l, 1 ≤ v ∧ v ≤ 26
def b27 (l : List Int) : Int := l.foldl (fun a v => 27 * a + v) 0
def b32 (l : List Int) : Int := l.foldr (fun v a => 32 * a + v) 0
/-- names as the reference holds them, as the class does -/
def NR (B : Brd) (N : Int → Int → List Int) (s : ST) : Prop := ∀ k w : Int, 0 ≤ k → k ≤ 2 → 0 ≤ w → w < cnt B k → s.2.1 102 (24 + 8 * k + w).toNat = Int64.ofInt (b27 (N k w)) ∧ NV (N k w)
def NC (B : Brd) (N : Int → Int → List Int) (p : Nat) (s : ST) : Prop := ∀ k w : Int, 0 ≤ k → k ≤ 2 → 0 ≤ w → w < cnt B k → s.1 (p + 11) (slt k + w).toNat = Int32.ofInt (b32 (N k w))
/-- the own words, then those with which a question begins -/
def WD : List (List Int) := [[98, 111, 97, 114, 100], [98, 121], [119, 104, 105, 116, 101], [98, 108, 97, 99, 107], [107, 105, 110, 100], [119, 97, 121, 115], [114, 101, 97, 99, 104], [119, 111, 114, 116, 104], [99, 114, 111, 119, 110], [109, 97, 110], [105, 115], [111, 102], [97, 116], [102, 105, 101, 108, 100], [98, 101, 97, 114, 115], [104, 97, 114, 109], [103, 114, 111, 119, 115], [115, 108, 101, 101, 112, 121], [116, 97, 107, 101, 110], [99, 104, 101, 99, 107], [111, 102, 102], [100, 97, 121], [110, 117, 109, 98, 101, 114], [99, 111, 108, 117, 109, 110], [114, 111, 119], [115, 105, 100, 101], [109, 111, 118, 101, 115], [111, 114], [97, 110, 100], [110, 111, 116], [97, 108, 108], [109, 105, 110], [109, 97, 120], [102, 105, 114, 115, 116], [108, 97, 115, 116], [111, 102, 116, 101, 110], [116, 111, 116, 97, 108], [109, 111, 115, 116], [108, 101, 97, 115, 116]]
def WDl (k : Nat) : List Int := WD.getD k []
/-- which word a cell of the reference holds -/
def wno (o : Nat) : Nat := if o ≤ 100 then o - 68 else if o ≤ 128 then o - 90 else [29, 28, 27, 30, 31, 32, 18, 19, 20, 21, 22, 23, 24, 25, 7, 6, 26].getD (o - 129) 0
def wce (o : Nat) : Prop := (68 ≤ o ∧ o ≤ 100) ∨ (123 ≤ o ∧ o ≤ 145)
def WDS (s : ST) : Prop := ∀ o j : Nat, wce o → j < (WDl (wno o)).length → s.1 o j = Int32.ofInt ((WDl (wno o)).getD j 0)
theorem WDS_fr {s s' : ST} (h : WDS s) (hf : ∀ o k : Nat, (68 ≤ o ∧ o ≤ 100) ∨ (123 ≤ o ∧ o ≤ 145) → s'.1 o k = s.1 o k) : WDS s' := fun o j ho hj => (hf o j ho).trans (h o j ho hj)
def IR (B : Brd) (G : Gam) (brd : Bool) (K : List Ent) (U : USn) (rn : Int) (rf rv : Int → Int) (x : Int) (T : Int → Int) (n : Int) (L : List Int) (N : Int → Int → List Int) (s : ST) : Prop := RS B G brd s ∧ RK K s ∧ (∃ nw, RU B U nw s) ∧ RW B rn rf rv s ∧ SE x s ∧ TP T n s ∧ WR L s ∧ NR B N s ∧ WDS s
def IC (B : Brd) (G : Gam) (brd : Bool) (K : List Ent) (U : USn) (rn : Int) (rf rv : Int → Int) (x : Int) (T : Int → Int) (n : Int) (L : List Int) (N : Int → Int → List Int) (p : Nat) (s : ST) : Prop := CQ B G brd p s ∧ CK K s ∧ CU B U s ∧ CW B rn rf rv s ∧ s.1 0 12 = Int32.ofInt x ∧ CT T n s ∧ WC L s ∧ NC B N p s ∧ RR s.2.2 0 4 = some (26 - p)
def IB (s : ST) : Prop := s.1 0 13 = s.1 65 7 ∧ s.1 0 14 = s.1 65 8 ∧ ∀ j : Nat, j < 6 → s.1 61 j = s.1 67 j
def UPv (B : Brd) : List Ent → USn → Prop
  | _, [] => True
  | K, (G, K') :: U => K' <+: K ∧ (K'.length : Int) ≤ gd_ G ∧ Gv B G ∧ gd_ G ≤ 999 ∧ UPv B K' U
theorem UPv_take {B : Brd} : ∀ (m : Nat) (K : List Ent) (U : USn), UPv B K U → UPv B K (U.take m)
  | 0, _, _, _ => trivial
  | _ + 1, _, [], _ => trivial
  | m + 1, K, (G, K') :: U, h => ⟨h.1, h.2.1, h.2.2.1, h.2.2.2.1, UPv_take m K' U h.2.2.2.2⟩
def IP (B : Brd) (G : Gam) (K : List Ent) (U : USn) (L : List Int) : Prop := (K.length : Int) ≤ gd_ G ∧ UPv B K U ∧ L.length ≤ 32
def Inv (_ : Nat) (s : ST) : Prop := ∃ (B : Brd) (G : Gam) (brd : Bool) (K : List Ent) (U : USn) (rn : Int) (rf rv : Int → Int) (x : Int) (T : Int → Int) (n : Int) (L : List Int) (N : Int → Int → List Int) (p : Nat), IR B G brd K U rn rf rv x T n L N s ∧ IC B G brd K U rn rf rv x T n L N p s ∧ IB s ∧ IP B G K U L
theorem RS_g {B : Brd} {G : Gam} {brd : Bool} {s s' : ST} (h : RS B G brd s) (hf : ∀ o k : Nat, (101 ≤ o ∧ o ≤ 112) ∨ (o = 65 ∧ (k = 58 ∨ k = 75 ∨ k = 78)) → s'.1 o k = s.1 o k) : RS B G brd s' := by
  obtain ⟨⟨h1, h2, h3⟩, h4, h5, h6, h7⟩ := h
  exact ⟨⟨MA_fr h1 (fun o k hk => hf o k (by omega)), MH_fr h2 (fun o k o1 o2 => hf o k (by omega)), h3⟩, (hf 65 58 (by omega)).trans h4, (hf 65 75 (by omega)).trans h5, (hf 65 78 (by omega)).trans h6, h7⟩
theorem RW_fr2 {B : Brd} {rn : Int} {rf rv : Int → Int} {s s' : ST} (h : RW B rn rf rv s) (h1 : s'.1 65 80 = s.1 65 80) (h2 : ∀ k : Nat, s'.1 120 k = s.1 120 k) : RW B rn rf rv s' := by
  refine ⟨h1.trans h.1, h.2.1, fun i i0 i1 => ?_⟩
  obtain ⟨a, b, c, d, e1, e2, e3, e4, e5⟩ := h.2.2 i i0 i1
  exact ⟨a, (h2 _).trans b, c, d, e1, e2, e3, (h2 _).trans e4, (h2 _).trans e5⟩
theorem WR_fr2 {L : List Int} {s s' : ST} (h : WR L s) (h1 : s'.1 65 121 = s.1 65 121) (h2 : ∀ k : Nat, s'.1 149 k = s.1 149 k) : WR L s' := ⟨h1.trans h.1, fun j hj => (h2 j).trans (h.2 j hj)⟩
theorem NR_fr {B : Brd} {N : Int → Int → List Int} {s s' : ST} (h : NR B N s) (hf : ∀ k : Nat, s'.2.1 102 k = s.2.1 102 k) : NR B N s' := fun k w k0 k1 w0 w1 => ⟨(hf _).trans (h k w k0 k1 w0 w1).1, (h k w k0 k1 w0 w1).2⟩
theorem NC_fr {B : Brd} {N : Int → Int → List Int} {p : Nat} {s s' : ST} (h : NC B N p s) (hf : ∀ k : Nat, s'.1 (p + 11) k = s.1 (p + 11) k) : NC B N p s' := fun k w k0 k1 w0 w1 => (hf _).trans (h k w k0 k1 w0 w1)
/-- the class has worked: the reference's cells stay -/
theorem IR_c {B : Brd} {G : Gam} {brd : Bool} {K : List Ent} {U : USn} {rn : Int} {rf rv : Int → Int} {x : Int} {T : Int → Int} {n : Int} {L : List Int} {N : Int → Int → List Int} {s s' : ST} (h : IR B G brd K U rn rf rv x T n L N s) (hf : ∀ o k : Nat, 65 ≤ o → s'.1 o k = s.1 o k) (h2 : s'.2.1 = s.2.1) : IR B G brd K U rn rf rv x T n L N s' := by
  obtain ⟨a, b, ⟨nw, c⟩, d, e, f, g, i⟩ := h
  exact ⟨RS_fr a (fun o k ho _ => hf o k ho), RK_fr b (fun k _ => hf 112 k (by omega)), ⟨nw, RU_fr c (hf 65 84 (by omega)) (hf 65 85 (by omega)) (fun k => hf 122 k (by omega))⟩, RW_fr2 d (hf 65 80 (by omega)) (fun k => hf 120 k (by omega)), SE_2 e (by rw [h2]), TP_fr f (hf 65 1 (by omega)) (fun k => hf 66 k (by omega)), WR_fr2 g (hf 65 121 (by omega)) (fun k => hf 149 k (by omega)), NR_fr i.1 (fun k => by rw [h2]), WDS_fr i.2 (fun o k ho => hf o k (by omega))⟩
/-- a question of the reference's -/
theorem IR_q {B : Brd} {G : Gam} {brd : Bool} {K : List Ent} {U : USn} {rn : Int} {rf rv : Int → Int} {x : Int} {T : Int → Int} {n : Int} {L : List Int} {N : Int → Int → List Int} {s s' : ST} (h : IR B G brd K U rn rf rv x T n L N s) (hf : QF s s') : IR B G brd K U rn rf rv x T n L N s' := by
  obtain ⟨a, b, ⟨nw, c⟩, d, e, f, g, i⟩ := h
  have q : ∀ o k : Nat, QP o k → s'.1 o k = s.1 o k := hf.1
  exact ⟨RS_QF a hf, RK_fr b (fun k _ => q 112 k (by unfold QP; omega)), ⟨nw, RU_fr c (q 65 84 (by unfold QP; omega)) (q 65 85 (by unfold QP; omega)) (fun k => q 122 k (by unfold QP; omega))⟩, RW_fr2 d (q 65 80 (by unfold QP; omega)) (fun k => q 120 k (by unfold QP; omega)), SE_2 e (hf.2.1 65 86 (Or.inr ⟨rfl, rfl⟩)), TP_fr f (q 65 1 (by unfold QP; omega)) (fun k => q 66 k (by unfold QP; omega)), WR_fr2 g (q 65 121 (by unfold QP; omega)) (fun k => q 149 k (by unfold QP; omega)), NR_fr i.1 (fun k => hf.2.1 102 k (Or.inl rfl)), WDS_fr i.2 (fun o k ho => q o k (by unfold QP; omega))⟩
theorem CQ_r {B : Brd} {G : Gam} {brd : Bool} {p : Nat} {s s' : ST} (h : CQ B G brd p s) (hf : ∀ a k : Nat, (6 ≤ a ∧ a ≤ 45) → s'.1 a k = s.1 a k) (h2 : s'.2.2 = s.2.2) : CQ B G brd p s' := by
  obtain ⟨⟨h1, h3, h4, h5⟩, ⟨h6, h7⟩, h8⟩ := h
  have hpa := h1.1.2.1.2
  have h1' : GT B G 36 p s' := by
    obtain ⟨a, b, c⟩ := h1
    exact ⟨GA_fr a h2 (fun x k x0 x1 => hf x k (by omega)) (fun k => ⟨hf _ k (by omega), hf _ k (by omega), hf _ k (by omega)⟩) (hf 36 8 (by omega)) (hf 36 9 (by omega)), (hf 36 2 (by omega)).trans b, fun f f0 f1 => (hf _ _ (by omega)).trans (c f f0 f1)⟩
  exact ⟨⟨h1', (hf 36 1 (by omega)).trans h3, ⟨(hf _ 0 (by omega)).trans h4.1, (hf _ 1 (by omega)).trans h4.2⟩, h5⟩, ⟨by rw [h2]; exact h6, by rw [h2]; exact h7⟩, h8⟩
/-- the reference has worked: the class's cells stay -/
theorem IC_r {B : Brd} {G : Gam} {brd : Bool} {K : List Ent} {U : USn} {rn : Int} {rf rv : Int → Int} {x : Int} {T : Int → Int} {n : Int} {L : List Int} {N : Int → Int → List Int} {p : Nat} {s s' : ST} (h : IC B G brd K U rn rf rv x T n L N p s) (hf : ∀ o k : Nat, o < 65 → s'.1 o k = s.1 o k) (h2 : s'.2.2 = s.2.2) : IC B G brd K U rn rf rv x T n L N p s' := by
  obtain ⟨a, b, c, d, e, f, g, i, j⟩ := h
  have hp := a.1.1.1.2.1.2
  have hB := a.1.1.1.1.1
  exact ⟨CQ_r a (fun o k ho => hf o k (by omega)) h2, CK_fr b (hf 56 1 (by omega)) (fun k => hf 57 k (by omega)), ⟨(hf 56 3 (by omega)).trans c.1, c.2.1, CUl_fr hB c.2.2 (fun k _ => hf 58 k (by omega))⟩, CW_fr d (hf 0 11 (by omega)) (fun k => ⟨hf 59 k (by omega), hf 60 k (by omega)⟩), (hf 0 12 (by omega)).trans e, CT_fr f (hf 1 1 (by omega)) (fun k => hf 2 k (by omega)), WC_fr g (hf 0 17 (by omega)) (fun k => hf 62 k (by omega)), NC_fr i (fun k => hf (p + 11) k (by omega)), by rw [h2]; exact j⟩
/-- a question of the class's -/
theorem IC_q {B : Brd} {G : Gam} {brd : Bool} {K : List Ent} {U : USn} {rn : Int} {rf rv : Int → Int} {x : Int} {T : Int → Int} {n : Int} {L : List Int} {N : Int → Int → List Int} {p : Nat} {s s' : ST} (h : IC B G brd K U rn rf rv x T n L N p s) (hq : CQ B G brd p s') (hf : XF s s') : IC B G brd K U rn rf rv x T n L N p s' := by
  obtain ⟨a, b, c, d, e, f, g, i, j⟩ := h
  have hp := a.1.1.1.2.1.2
  have hB := a.1.1.1.1.1
  have q : ∀ o k : Nat, ¬ (36 ≤ o ∧ o ≤ 55) → ¬ o = 64 → s'.1 o k = s.1 o k := hf.1
  exact ⟨hq, CK_fr b (q 56 1 (by omega) (by omega)) (fun k => q 57 k (by omega) (by omega)), ⟨(q 56 3 (by omega) (by omega)).trans c.1, c.2.1, CUl_fr hB c.2.2 (fun k _ => q 58 k (by omega) (by omega))⟩, CW_fr d (q 0 11 (by omega) (by omega)) (fun k => ⟨q 59 k (by omega) (by omega), q 60 k (by omega) (by omega)⟩), (q 0 12 (by omega) (by omega)).trans e, CT_fr f (q 1 1 (by omega) (by omega)) (fun k => q 2 k (by omega) (by omega)), WC_fr g (q 0 17 (by omega) (by omega)) (fun k => q 62 k (by omega) (by omega)), NC_fr i (fun k => q (p + 11) k (by omega) (by omega)), by rw [hf.2]; exact j⟩
theorem IB_fr {s s' : ST} (h : IB s) (h1 : s'.1 0 13 = s.1 0 13) (h2 : s'.1 0 14 = s.1 0 14) (h3 : s'.1 65 7 = s.1 65 7) (h4 : s'.1 65 8 = s.1 65 8) (h5 : ∀ k : Nat, s'.1 61 k = s.1 61 k) (h6 : ∀ k : Nat, s'.1 67 k = s.1 67 k) : IB s' := ⟨by rw [h1, h3]; exact h.1, by rw [h2, h4]; exact h.2.1, fun j hj => by rw [h5, h6]; exact h.2.2 j hj⟩
theorem IB_q {s s1 s2 : ST} (h : IB s) (hx : XF s s1) (hq : QF s1 s2) : IB s2 := by
  have q : ∀ o k : Nat, QP o k → s2.1 o k = s1.1 o k := hq.1
  have y : ∀ o k : Nat, ¬ (36 ≤ o ∧ o ≤ 55) → ¬ o = 64 → s1.1 o k = s.1 o k := hx.1
  exact IB_fr h ((q 0 13 (by unfold QP; omega)).trans (y 0 13 (by omega) (by omega))) ((q 0 14 (by unfold QP; omega)).trans (y 0 14 (by omega) (by omega))) ((q 65 7 (by unfold QP; omega)).trans (y 65 7 (by omega) (by omega))) ((q 65 8 (by unfold QP; omega)).trans (y 65 8 (by omega) (by omega))) (fun k => (q 61 k (by unfold QP; omega)).trans (y 61 k (by omega) (by omega))) (fun k => (q 67 k (by unfold QP; omega)).trans (y 67 k (by omega) (by omega)))
/-- a question of both -/
theorem inv_q {i : Nat} {B : Brd} {G : Gam} {brd : Bool} {K : List Ent} {U : USn} {rn : Int} {rf rv : Int → Int} {x : Int} {T : Int → Int} {n : Int} {L : List Int} {N : Int → Int → List Int} {p : Nat} {s s1 s2 : ST} (hR : IR B G brd K U rn rf rv x T n L N s) (hC : IC B G brd K U rn rf rv x T n L N p s) (hb : IB s) (hp : IP B G K U L) (hq : CQ B G brd p s1) (hx : XF s s1) (hf : QF s1 s2) : Inv i s2 := by
  have hR1 := IR_c hR (fun o k ho => hx.1 o k (by omega) (by omega)) (by rw [hx.2])
  exact ⟨B, G, brd, K, U, rn, rf, rv, x, T, n, L, N, p, IR_q hR1 hf, IC_r (IC_q hC hq hx) (fun o k ho => hf.1 o k (Or.inl ho)) hf.2.2, IB_q hb hx hf, hp⟩
theorem RS_c {B : Brd} {G : Gam} {brd : Bool} {s s' : ST} (h : RS B G brd s) (hx : XF s s') : RS B G brd s' := RS_fr h (fun o k ho _ => hx.1 o k (by omega) (by omega))
/-- both refuse -/
theorem inv_rf {i : Nat} {B : Brd} {G : Gam} {brd : Bool} {K : List Ent} {U : USn} {rn : Int} {rf rv : Int → Int} {x : Int} {T : Int → Int} {n : Int} {L : List Int} {N : Int → Int → List Int} {p : Nat} {s : ST} (hR : IR B G brd K U rn rf rv x T n L N s) (hC : IC B G brd K U rn rf rv x T n L N p s) (hb : IB s) (hp : IP B G K U L) {j : Nat} (hj : j < 6) : Inv i (rfS (crf s j) j) := by
  have hpp := hC.1.1.1.1.2.1.2
  have f1 : ∀ o k : Nat, ¬ o = 61 → (crf s j).1 o k = s.1 o k := fun o k ho => u_no ho
  have f2 : ∀ o k : Nat, ¬ o = 67 → (rfS (crf s j) j).1 o k = (crf s j).1 o k := fun o k ho => u_no ho
  have hR1 := IR_c (s' := crf s j) hR (fun o k ho => f1 o k (by omega)) rfl
  have hC1 : IC B G brd K U rn rf rv x T n L N p (crf s j) := by
    obtain ⟨a, b, c, d, e, f, g, i, l⟩ := hC
    have hB := a.1.1.1.1.1
    exact ⟨CQ_x a (fun o k ho => f1 o k (by omega)) rfl, CK_fr b (f1 56 1 (by omega)) (fun k => f1 57 k (by omega)), ⟨(f1 56 3 (by omega)).trans c.1, c.2.1, CUl_fr hB c.2.2 (fun k _ => f1 58 k (by omega))⟩, CW_fr d (f1 0 11 (by omega)) (fun k => ⟨f1 59 k (by omega), f1 60 k (by omega)⟩), (f1 0 12 (by omega)).trans e, CT_fr f (f1 1 1 (by omega)) (fun k => f1 2 k (by omega)), WC_fr g (f1 0 17 (by omega)) (fun k => f1 62 k (by omega)), NC_fr i (fun k => f1 (p + 11) k (by omega)), l⟩
  have hR2 : IR B G brd K U rn rf rv x T n L N (rfS (crf s j) j) := by
    obtain ⟨a, b, ⟨nw, c⟩, d, e, f, g, i⟩ := hR1
    exact ⟨RS_g a (fun o k ho => f2 o k (by omega)), RK_fr b (fun k _ => f2 112 k (by omega)), ⟨nw, RU_fr c (f2 65 84 (by omega)) (f2 65 85 (by omega)) (fun k => f2 122 k (by omega))⟩, RW_fr2 d (f2 65 80 (by omega)) (fun k => f2 120 k (by omega)), SE_2 e rfl, TP_fr f (f2 65 1 (by omega)) (fun k => f2 66 k (by omega)), WR_fr2 g (f2 65 121 (by omega)) (fun k => f2 149 k (by omega)), NR_fr i.1 (fun k => rfl), WDS_fr i.2 (fun o k ho => f2 o k (by omega))⟩
  refine ⟨B, G, brd, K, U, rn, rf, rv, x, T, n, L, N, p, hR2, IC_r hC1 (fun o k ho => f2 o k (by omega)) rfl, ⟨?_, ?_, fun k hk => ?_⟩, hp⟩
  · rw [f2 0 13 (by omega), f2 65 7 (by omega), f1 0 13 (by omega), f1 65 7 (by omega)]; exact hb.1
  · rw [f2 0 14 (by omega), f2 65 8 (by omega), f1 0 14 (by omega), f1 65 8 (by omega)]; exact hb.2.1
  · rw [f2 61 k (by omega)]
    show (uI s 61 j (s.1 61 j + Int32.ofInt 1)).1 61 k = (uI (crf s j) 67 j ((crf s j).1 67 j + Int32.ofInt 1)).1 67 k
    by_cases e : k = j
    · rw [u_ek e, u_ek e, f1 67 j (by omega), hb.2.2 j hj]
    · rw [u_nk e, u_nk e, f1 67 k (by omega)]; exact hb.2.2 k hk
