/-! L3: goals of the class are moves of the reference -/
theorem w_leap : ∀ n : Nat, n < 16 → 8 ≤ n → ((dxW (n : Int) = 1 ∨ dxW (n : Int) = -1) ∧ (dyW (n : Int) = 2 ∨ dyW (n : Int) = -2)) ∨ ((dxW (n : Int) = 2 ∨ dxW (n : Int) = -2) ∧ (dyW (n : Int) = 1 ∨ dyW (n : Int) = -1)) := by decide +kernel
theorem w_line : ∀ n : Nat, n < 8 → (dxW (n : Int) = -1 ∨ dxW (n : Int) = 0 ∨ dxW (n : Int) = 1) ∧ (dyW (n : Int) = -1 ∨ dyW (n : Int) = 0 ∨ dyW (n : Int) = 1) ∧ ¬ (dxW (n : Int) = 0 ∧ dyW (n : Int) = 0) ∧ (n < 4 ↔ (dxW (n : Int) = 0 ∨ dyW (n : Int) = 0)) := by decide +kernel
theorem w_findL {dx dy : Int} (h : ((dx = 1 ∨ dx = -1) ∧ (dy = 2 ∨ dy = -2)) ∨ ((dx = 2 ∨ dx = -2) ∧ (dy = 1 ∨ dy = -1))) : ∃ w : Int, 8 ≤ w ∧ w < 16 ∧ dxW w = dx ∧ dyW w = dy := by
  rcases h with ⟨rfl | rfl, rfl | rfl⟩ | ⟨rfl | rfl, rfl | rfl⟩
  · exact ⟨8, by decide, by decide, rfl, rfl⟩
  · exact ⟨9, by decide, by decide, rfl, rfl⟩
  · exact ⟨10, by decide, by decide, rfl, rfl⟩
  · exact ⟨11, by decide, by decide, rfl, rfl⟩
  · exact ⟨12, by decide, by decide, rfl, rfl⟩
  · exact ⟨13, by decide, by decide, rfl, rfl⟩
  · exact ⟨14, by decide, by decide, rfl, rfl⟩
  · exact ⟨15, by decide, by decide, rfl, rfl⟩
theorem w_find {dx dy : Int} (hdx : dx = -1 ∨ dx = 0 ∨ dx = 1) (hdy : dy = -1 ∨ dy = 0 ∨ dy = 1) (hd : ¬ (dx = 0 ∧ dy = 0)) : ∃ w : Int, 0 ≤ w ∧ w < 8 ∧ dxW w = dx ∧ dyW w = dy ∧ (w < 4 ↔ (dx = 0 ∨ dy = 0)) := by
  rcases hdx with rfl | rfl | rfl <;> rcases hdy with rfl | rfl | rfl
  · exact ⟨7, by decide, by decide, rfl, rfl, by decide⟩
  · exact ⟨1, by decide, by decide, rfl, rfl, by decide⟩
  · exact ⟨6, by decide, by decide, rfl, rfl, by decide⟩
  · exact ⟨3, by decide, by decide, rfl, rfl, by decide⟩
  · exact absurd ⟨rfl, rfl⟩ hd
  · exact ⟨2, by decide, by decide, rfl, rfl, by decide⟩
  · exact ⟨5, by decide, by decide, rfl, rfl, by decide⟩
  · exact ⟨0, by decide, by decide, rfl, rfl, by decide⟩
  · exact ⟨4, by decide, by decide, rfl, rfl, by decide⟩
theorem mul2 {a b : Int} (a0 : 0 ≤ a) (a1 : a ≤ 4) (b0 : 0 ≤ b) (h : a * b = 2) : (a = 1 ∧ b = 2) ∨ (a = 2 ∧ b = 1) := by
  have : a = 0 ∨ a = 1 ∨ a = 2 ∨ a = 3 ∨ a = 4 := by omega
  rcases this with rfl | rfl | rfl | rfl | rfl <;> omega
theorem gWs_go {B : Brd} {G : Gam} (hB : Bv B) (hG : Gv B G) {m : Int} (m0 : 0 ≤ m) (m1 : m < bM B) (hx : ¬ gx G m = -1) {q : Int} (q0 : 0 ≤ q) (q1 : q < 25) : gWs B G m (wysL (wy B (kd B m))) q = gQ B G m q := by
  have hW : bW B ≤ 5 := hB.1.1.2.1
  have hH : bH B ≤ 5 := hB.1.1.2.2.2.1
  have hsd := hB.2.2.1 m m0 m1
  have hk := hB.2.1 (kd B m) hsd.1 hsd.2.1
  have hpl := pl_b hB hG m0 m1
  have hpx : pl G m % 5 = gx G m := by omega
  have hpy : pl G m / 5 = gy G m := by omega
  have hon0 : onBd B (gx G m) (gy G m) = true := onBd_i.mpr (by omega)
  have hno := notOwn_o (B := B) (G := G) (m := m) (x := q % 5) (y := q / 5) (by omega) (by omega) (by omega)
  rw [show 5 * (q / 5) + q % 5 = q by omega] at hno
  have hgo : go B G m (q % 5) (q / 5) = (wayTo B G m (q % 5) (q / 5) && notOwn B G m (q % 5) (q / 5)) := by unfold go; rw [if_neg hx]
  unfold gQ gWs
  rw [hgo, hno, hpx, hpy]
  rw [Bool.eq_iff_iff]
  constructor
  · intro h
    obtain ⟨w, hw, hal⟩ := List.any_eq_true.mp h
    unfold wysL at hw
    rw [mem_upto] at hw
    by_cases e4 : wy B (kd B m) = 4
    · have hr : rchC B (kd B m) = 1 := by unfold rchC; rw [if_pos e4]
      rw [e4] at hw
      have hw : 8 ≤ w ∧ w < 8 + ((16 - 8 : Int).toNat : Int) := hw
      rw [hr] at hal
      obtain ⟨a1, a2, a3⟩ := al1_iff.mp hal
      have hl := w_leap w.toNat (by omega) (by omega)
      rw [show ((w.toNat : Nat) : Int) = w by omega] at hl
      generalize dxW w = dx at *
      generalize dyW w = dy at *
      have a1' := onBd_i.mp a1
      have ex : q % 5 = gx G m + dx := by omega
      have ey : q / 5 = gy G m + dy := by omega
      rw [ex, ey, a1, a3]
      have hwt : wayTo B G m (gx G m + dx) (gy G m + dy) = true := by
        unfold wayTo
        rw [show gx G m + dx - gx G m = dx by omega, show gy G m + dy - gy G m = dy by omega]
        rcases hl with ⟨rfl | rfl, rfl | rfl⟩ | ⟨rfl | rfl, rfl | rfl⟩ <;> (rw [if_neg (by decide), if_pos e4]; decide)
      rw [hwt]; rfl
    · have hr : rchC B (kd B m) = rch B (kd B m) := by unfold rchC; rw [if_neg e4]
      have hw8 : 0 ≤ w ∧ w < 8 ∧ (wy B (kd B m) = 1 → w < 4) ∧ (wy B (kd B m) = 2 → 4 ≤ w) := by
        have hc : wy B (kd B m) = 1 ∨ wy B (kd B m) = 2 ∨ wy B (kd B m) = 3 := by omega
        rcases hc with e | e | e
        · rw [e] at hw; have hw : 0 ≤ w ∧ w < 0 + ((4 - 0 : Int).toNat : Int) := hw; omega
        · rw [e] at hw; have hw : 4 ≤ w ∧ w < 4 + ((8 - 4 : Int).toNat : Int) := hw; omega
        · rw [e] at hw; have hw : 0 ≤ w ∧ w < 0 + ((8 - 0 : Int).toNat : Int) := hw; omega
      have hl := w_line w.toNat (by omega)
      rw [show ((w.toNat : Nat) : Int) = w by omega] at hl
      generalize dxW w = dx at *
      generalize dyW w = dy at *
      rw [hr] at hal
      obtain ⟨k, k1, k2, k3, k4, k5, k6⟩ := (al_iff hB (by omega) (by omega) hl.1 hl.2.1 (rch B (kd B m)).toNat (gx G m) (gy G m) q hon0).mp hal
      have k4' := onBd_i.mp k4
      generalize hkx : k * dx = u at *
      generalize hky : k * dy = v at *
      have ex : q % 5 = gx G m + u := by omega
      have ey : q / 5 = gy G m + v := by omega
      rw [ex, ey, k4, k6]
      have hwt := sl_way (G := G) hB (m := m) (X := gx G m + u) (Y := gy G m + v) (k := k) (dx := dx) (dy := dy) e4 k1 (by omega) hl.1 hl.2.1 hl.2.2.1 (by rw [hkx]) (by rw [hky]) (by
        by_cases c : dx = 0 ∨ dy = 0
        · left
          refine ⟨c, fun c2 => ?_⟩
          have := hw8.2.2.2 c2
          have := hl.2.2.2.mpr c
          omega
        · right
          refine ⟨by omega, by omega, fun c2 => ?_⟩
          have := hw8.2.2.1 c2
          exact c (hl.2.2.2.mp (by omega))) k5
      rw [hwt]; rfl
  · intro h
    rw [Bool.and_eq_true, Bool.and_eq_true] at h
    obtain ⟨h1, h2, h3⟩ := h
    have h1' := onBd_i.mp h1
    have h3' : occ B G (sd B m) q = false := by cases e : occ B G (sd B m) q with
      | true => rw [e] at h3; cases h3
      | false => rfl
    rw [List.any_eq_true]
    by_cases e4 : wy B (kd B m) = 4
    · have hr : rchC B (kd B m) = 1 := by unfold rchC; rw [if_pos e4]
      unfold wayTo at h2
      split at h2
      · cases h2
      try rw [if_pos e4] at h2
      have h2 := of_decide_eq_true h2
      have hax : ab (q % 5 - gx G m) = q % 5 - gx G m ∧ 0 ≤ q % 5 - gx G m ∨ ab (q % 5 - gx G m) = -(q % 5 - gx G m) ∧ q % 5 - gx G m < 0 := by unfold ab; split <;> omega
      have hay : ab (q / 5 - gy G m) = q / 5 - gy G m ∧ 0 ≤ q / 5 - gy G m ∨ ab (q / 5 - gy G m) = -(q / 5 - gy G m) ∧ q / 5 - gy G m < 0 := by unfold ab; split <;> omega
      have h2 := mul2 (by omega) (by omega) (by omega) h2
      obtain ⟨w, w0, w1, wx, wv⟩ := w_findL (dx := q % 5 - gx G m) (dy := q / 5 - gy G m) (by omega)
      refine ⟨w, ?_, ?_⟩
      · unfold wysL
        rw [mem_upto, e4]
        show 8 ≤ w ∧ w < 8 + ((16 - 8 : Int).toNat : Int)
        omega
      · rw [hr]
        refine al1_iff.mpr ⟨?_, ?_, h3'⟩
        · rw [wx, wv, show gx G m + (q % 5 - gx G m) = q % 5 by omega, show gy G m + (q / 5 - gy G m) = q / 5 by omega]; exact h1
        · rw [wx, wv]; omega
    · have hr : rchC B (kd B m) = rch B (kd B m) := by unfold rchC; rw [if_neg e4]
      obtain ⟨k, dx, dy, k1, k2, d1, d2, d3, eX, eY, hw, hf⟩ := way_sl e4 h2
      obtain ⟨w, w0, w1, wx, wv, w4⟩ := w_find d1 d2 d3
      refine ⟨w, ?_, ?_⟩
      · unfold wysL
        rw [mem_upto]
        have hc : wy B (kd B m) = 1 ∨ wy B (kd B m) = 2 ∨ wy B (kd B m) = 3 := by omega
        rcases hc with e | e | e
        · rw [e]
          show 0 ≤ w ∧ w < 0 + ((4 - 0 : Int).toNat : Int)
          have : w < 4 := w4.mpr (by omega)
          omega
        · rw [e]
          show 4 ≤ w ∧ w < 4 + ((8 - 4 : Int).toNat : Int)
          have : ¬ w < 4 := fun c => by have := w4.mp c; omega
          omega
        · rw [e]
          show 0 ≤ w ∧ w < 0 + ((8 - 0 : Int).toNat : Int)
          omega
      · rw [hr, wx, wv]
        refine (al_iff hB (by omega) (by omega) d1 d2 (rch B (kd B m)).toNat (gx G m) (gy G m) q hon0).mpr ⟨k, k1, by omega, by omega, ?_, hf, h3'⟩
        rw [← eX, ← eY]; exact h1
theorem c_goals {B : Brd} {G : Gam} {o p : Nat} {s : ST} (h : GA B G o p s) {m : Int} (m0 : 0 ≤ m) (m1 : m < bM B) : f_X3_goals o (Int32.ofInt m) s = some (bmk (gQ B G m), s) := by
  rw [c_goals0 h m0 m1]
  have : bmk (fun q => !tk G m && gWs B G m (wysL (wy B (kd B m))) q) = bmk (gQ B G m) := bmk_congr (fun q q0 q1 => by
    by_cases e : gx G m = -1
    · have e1 : tk G m = true := decide_eq_true e
      rw [e1, Bool.not_true, Bool.false_and]
      unfold gQ go
      rw [if_pos e, Bool.and_false]
    · have e1 : tk G m = false := decide_eq_false e
      rw [e1, Bool.not_false, Bool.true_and, gWs_go h.1.1 h.1.2 m0 m1 e q0 q1])
  rw [this]
/-! places and squares in their order -/
def p5 (B : Brd) (k : Int) : Int := 5 * (k / bW B) + k % bW B
theorem pls_sq : ∀ a : Nat, a < 6 → ∀ b : Nat, b < 6 → pls.filter (fun q => decide ((0 ≤ q % 5 ∧ q % 5 < (a : Int)) ∧ (0 ≤ q / 5 ∧ q / 5 < (b : Int)))) = (upto ((a : Int) * (b : Int)).toNat 0).map (fun k => 5 * (k / (a : Int)) + k % (a : Int)) := by decide +kernel
theorem pls_on {B : Brd} (hB : Bv B) : pls.filter (fun q => onBd B (q % 5) (q / 5)) = (sqs B).map (p5 B) := by
  have hW : bW B ≤ 5 := hB.1.1.2.1
  have hH : bH B ≤ 5 := hB.1.1.2.2.2.1
  have hW0 : 0 ≤ bW B := hB.1.1.1
  have hH0 : 0 ≤ bH B := hB.1.1.2.2.1
  have := pls_sq (bW B).toNat (by omega) (bH B).toNat (by omega)
  rw [show (((bW B).toNat : Nat) : Int) = bW B by omega, show (((bH B).toNat : Nat) : Int) = bH B by omega] at this
  exact this
theorem p5_x {B : Brd} (hB : Bv B) {k : Int} (k0 : 0 ≤ k) (k1 : k < bW B * bH B) : p5 B k % 5 = k % bW B ∧ p5 B k / 5 = k / bW B ∧ 0 ≤ p5 B k ∧ p5 B k < 25 := by
  have hW : bW B ≤ 5 := hB.1.1.2.1
  have hH : bH B ≤ 5 := hB.1.1.2.2.2.1
  have := sq_xy hB k0 k1
  unfold p5
  generalize k % bW B = x at *
  generalize k / bW B = y at *
  omega
theorem gQ_ks {B : Brd} (hB : Bv B) (G : Gam) (m : Int) : pls.filter (gQ B G m) = (ks B G m).map (p5 B) := by
  have h1 : pls.filter (gQ B G m) = (pls.filter (fun q => onBd B (q % 5) (q / 5))).filter (fun q => go B G m (q % 5) (q / 5)) := by
    rw [List.filter_filter]
    refine List.filter_congr (fun q _ => ?_)
    unfold gQ
    rw [Bool.and_comm]
  rw [h1, pls_on hB, List.filter_map]
  unfold ks
  congr 1
  refine List.filter_congr (fun k hk => ?_)
  unfold sqs at hk
  rw [mem_upto] at hk
  have := p5_x hB (k := k) hk.1 (by omega)
  show go B G m (p5 B k % 5) (p5 B k / 5) = goK B G m k
  rw [this.1, this.2.1]
  rfl
theorem gQ_cnt {B : Brd} (hB : Bv B) (G : Gam) (m : Int) : cnF (gQ B G m) = nMov B G m := by
  unfold cnF nMov
  rw [gQ_ks hB, List.length_map]
