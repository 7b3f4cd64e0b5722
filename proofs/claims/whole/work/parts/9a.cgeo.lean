/-! L3: the class's ways and the reference's are the same -/
theorem occ_no {B : Brd} {G : Gam} (hB : Bv B) {t x y : Int} (t0 : 0 ≤ t) (t1 : t ≤ 1) (x0 : 0 ≤ x) (x1 : x < 5) (y0 : 0 ≤ y) : (mAt B G x y = -1) ↔ (occ B G t (5 * y + x) = false ∧ occ B G (1 - t) (5 * y + x) = false) := by
  have hM0 : 0 ≤ bM B := hB.1.1.2.2.2.2.2.2.1
  unfold occ
  rw [show (5 * y + x) % 5 = x by omega, show (5 * y + x) / 5 = y by omega]
  rcases mAt_spec (B := B) hM0 G x y with ⟨a, -⟩ | ⟨a, b, -, -⟩
  · rw [a]; simp
  · have hs := hB.2.2.1 _ a b
    constructor
    · intro h; omega
    · intro ⟨h1, h2⟩
      exfalso
      have hne : decide (¬ mAt B G x y = -1) = true := decide_eq_true (by omega)
      rw [hne, Bool.true_and] at h1 h2
      have e1 := of_decide_eq_false h1
      have e2 := of_decide_eq_false h2
      omega
theorem notOwn_o {B : Brd} {G : Gam} {m x y : Int} (x0 : 0 ≤ x) (x1 : x < 5) (y0 : 0 ≤ y) : notOwn B G m x y = !occ B G (sd B m) (5 * y + x) := by
  unfold notOwn occ
  rw [show (5 * y + x) % 5 = x by omega, show (5 * y + x) / 5 = y by omega]
  by_cases e : mAt B G x y = -1
  · have h1 : decide (¬ mAt B G x y = -1) = false := decide_eq_false (fun c => c e)
    rw [decide_eq_true e, h1]; rfl
  · rw [decide_eq_false e, decide_eq_true e, Bool.true_and, Bool.false_or]
    by_cases e2 : sd B (mAt B G x y) = sd B m
    · rw [decide_eq_false (fun c => c e2), decide_eq_true e2]; rfl
    · rw [decide_eq_true e2, decide_eq_false e2]; rfl
theorem onBd_i {B : Brd} {x y : Int} : onBd B x y = true ↔ (0 ≤ x ∧ x < bW B) ∧ (0 ≤ y ∧ y < bH B) := ⟨fun h => of_decide_eq_true h, fun h => decide_eq_true h⟩
theorem al_iff {B : Brd} {G : Gam} (hB : Bv B) {t dx dy : Int} (t0 : 0 ≤ t) (t1 : t ≤ 1) (hdx : dx = -1 ∨ dx = 0 ∨ dx = 1) (hdy : dy = -1 ∨ dy = 0 ∨ dy = 1) : ∀ (n : Nat) (x y q : Int), onBd B x y = true → (alS B G t dx dy n x y q = true ↔ ∃ k : Int, 1 ≤ k ∧ k ≤ n ∧ q = 5 * (y + k * dy) + (x + k * dx) ∧ onBd B (x + k * dx) (y + k * dy) = true ∧ fr B G dx dy (k - 1).toNat (x + dx) (y + dy) = true ∧ occ B G t q = false) := by
  have hW : bW B ≤ 5 := hB.1.1.2.1
  have hH : bH B ≤ 5 := hB.1.1.2.2.2.1
  intro n
  induction n with
  | zero =>
    intro x y q _
    constructor
    · intro h; cases h
    · intro ⟨k, h1, h2, h3⟩; omega
  | succ n ih =>
    intro x y q hon
    rw [onBd_i] at hon
    have hal : alS B G t dx dy (n + 1) x y q = (onBd B (x + dx) (y + dy) && (!occ B G t (5 * (y + dy) + (x + dx)) && (decide (q = 5 * (y + dy) + (x + dx)) || (!occ B G (1 - t) (5 * (y + dy) + (x + dx)) && alS B G t dx dy n (x + dx) (y + dy) q)))) := rfl
    rw [hal]
    constructor
    · intro h
      rw [Bool.and_eq_true, Bool.and_eq_true, Bool.or_eq_true, Bool.and_eq_true] at h
      obtain ⟨h1, h2, h3⟩ := h
      have h2' : occ B G t (5 * (y + dy) + (x + dx)) = false := by cases e : occ B G t (5 * (y + dy) + (x + dx)) with
        | true => rw [e] at h2; cases h2
        | false => rfl
      have hon1 := onBd_i.mp h1
      rcases h3 with h3 | ⟨h3, h4⟩
      · have e := of_decide_eq_true h3
        refine ⟨1, by omega, by omega, by rw [Int.one_mul, Int.one_mul]; exact e, by rw [Int.one_mul, Int.one_mul]; exact h1, rfl, by rw [e]; exact h2'⟩
      · have h3' : occ B G (1 - t) (5 * (y + dy) + (x + dx)) = false := by cases e : occ B G (1 - t) (5 * (y + dy) + (x + dx)) with
          | true => rw [e] at h3; cases h3
          | false => rfl
        obtain ⟨k, k1, k2, k3, k4, k5, k6⟩ := (ih (x + dx) (y + dy) q h1).mp h4
        have em : mAt B G (x + dx) (y + dy) = -1 := (occ_no hB t0 t1 (by omega) (by omega) (by omega)).mpr ⟨h2', h3'⟩
        have ex : (k + 1) * dx = k * dx + dx := by rw [Int.add_mul, Int.one_mul]
        have ey : (k + 1) * dy = k * dy + dy := by rw [Int.add_mul, Int.one_mul]
        refine ⟨k + 1, by omega, by omega, ?_, ?_, ?_, k6⟩
        · rw [ex, ey, k3]; omega
        · rw [ex, ey, show x + (k * dx + dx) = x + dx + k * dx by omega, show y + (k * dy + dy) = y + dy + k * dy by omega]; exact k4
        · rw [show (k + 1 - 1).toNat = (k - 1).toNat + 1 by omega]
          show (decide (mAt B G (x + dx) (y + dy) = -1) && fr B G dx dy (k - 1).toNat (x + dx + dx) (y + dy + dy)) = true
          rw [decide_eq_true em, Bool.true_and]
          exact k5
    · intro ⟨k, k1, k2, k3, k4, k5, k6⟩
      have k4' := onBd_i.mp k4
      have hon1 : onBd B (x + dx) (y + dy) = true := by
        rw [onBd_i]
        rcases hdx with rfl | rfl | rfl <;> rcases hdy with rfl | rfl | rfl <;> omega
      have hon1' := onBd_i.mp hon1
      by_cases e : k = 1
      · subst e
        rw [Int.one_mul, Int.one_mul] at k3
        rw [k3] at k6
        rw [hon1, k6, decide_eq_true k3]
        rfl
      · have hk : (k - 1).toNat = (k - 1 - 1).toNat + 1 := by omega
        rw [hk] at k5
        have k5 : (decide (mAt B G (x + dx) (y + dy) = -1) && fr B G dx dy (k - 1 - 1).toNat (x + dx + dx) (y + dy + dy)) = true := k5
        rw [Bool.and_eq_true] at k5
        have em := of_decide_eq_true k5.1
        obtain ⟨o1, o2⟩ := (occ_no hB t0 t1 (by omega) (by omega) (by omega)).mp em
        have ex : (k - 1) * dx = k * dx - dx := by rw [Int.sub_mul, Int.one_mul]
        have ey : (k - 1) * dy = k * dy - dy := by rw [Int.sub_mul, Int.one_mul]
        have hr := (ih (x + dx) (y + dy) q hon1).mpr ⟨k - 1, by omega, by omega, by rw [ex, ey]; omega, by rw [ex, ey, show x + dx + (k * dx - dx) = x + k * dx by omega, show y + dy + (k * dy - dy) = y + k * dy by omega]; exact k4, k5.2, k6⟩
        rw [hon1, o1, o2, hr]
        simp
theorem al1_iff {B : Brd} {G : Gam} {t dx dy x y q : Int} : alS B G t dx dy 1 x y q = true ↔ onBd B (x + dx) (y + dy) = true ∧ q = 5 * (y + dy) + (x + dx) ∧ occ B G t q = false := by
  have hal : alS B G t dx dy 1 x y q = (onBd B (x + dx) (y + dy) && (!occ B G t (5 * (y + dy) + (x + dx)) && (decide (q = 5 * (y + dy) + (x + dx)) || (!occ B G (1 - t) (5 * (y + dy) + (x + dx)) && false)))) := rfl
  rw [hal, Bool.and_false, Bool.or_false, Bool.and_eq_true, Bool.and_eq_true]
  constructor
  · intro ⟨h1, h2, h3⟩
    have e := of_decide_eq_true h3
    refine ⟨h1, e, ?_⟩
    rw [e]
    cases k : occ B G t (5 * (y + dy) + (x + dx)) with
    | true => rw [k] at h2; cases h2
    | false => rfl
  · intro ⟨h1, h2, h3⟩
    rw [h2] at h3
    exact ⟨h1, by rw [h3]; rfl, decide_eq_true h2⟩
def gQ (B : Brd) (G : Gam) (m q : Int) : Bool := onBd B (q % 5) (q / 5) && go B G m (q % 5) (q / 5)
theorem sl_way {B : Brd} {G : Gam} (hB : Bv B) {m X Y k dx dy : Int} (h4 : ¬ wy B (kd B m) = 4) (k1 : 1 ≤ k) (k2 : k ≤ rch B (kd B m)) (hdx : dx = -1 ∨ dx = 0 ∨ dx = 1) (hdy : dy = -1 ∨ dy = 0 ∨ dy = 1) (hd : ¬ (dx = 0 ∧ dy = 0)) (eX : X = gx G m + k * dx) (eY : Y = gy G m + k * dy) (hw : ((dx = 0 ∨ dy = 0) ∧ ¬ wy B (kd B m) = 2) ∨ (¬ dx = 0 ∧ ¬ dy = 0 ∧ ¬ wy B (kd B m) = 1)) (hf : fr B G dx dy (k - 1).toNat (gx G m + dx) (gy G m + dy) = true) : wayTo B G m X Y = true := by
  have e1 : X - gx G m = k * dx := by omega
  have e2 : Y - gy G m = k * dy := by omega
  have hfar : farO X Y (gx G m) (gy G m) = k := by
    unfold farO ab
    rw [e1, e2]
    rcases hdx with rfl | rfl | rfl <;> rcases hdy with rfl | rfl | rfl <;> (repeat' split) <;> omega
  have hsx : sg (X - gx G m) = dx := by
    unfold sg
    rw [e1]
    rcases hdx with rfl | rfl | rfl <;> (repeat' split) <;> omega
  have hsy : sg (Y - gy G m) = dy := by
    unfold sg
    rw [e2]
    rcases hdy with rfl | rfl | rfl <;> (repeat' split) <;> omega
  unfold wayTo
  have hab : ¬ (ab (X - gx G m) = 0 ∧ ab (Y - gy G m) = 0) := by
    unfold ab
    rw [e1, e2]
    rcases hdx with rfl | rfl | rfl <;> rcases hdy with rfl | rfl | rfl <;> (repeat' split) <;> omega
  rw [if_neg hab, if_neg h4, hfar, hsx, hsy, hf, Bool.and_true, decide_eq_true k2, Bool.true_and]
  apply decide_eq_true
  rcases hw with ⟨a, b⟩ | ⟨a, b, c⟩
  · left
    refine ⟨?_, b⟩
    unfold ab
    rw [e1, e2]
    rcases a with rfl | rfl
    · left; rw [Int.mul_zero]; rfl
    · right; rw [Int.mul_zero]; rfl
  · right
    refine ⟨?_, c⟩
    unfold ab
    rw [e1, e2]
    rcases hdx with rfl | rfl | rfl <;> rcases hdy with rfl | rfl | rfl <;> (repeat' split) <;> omega
theorem way_sl {B : Brd} {G : Gam} {m X Y : Int} (h4 : ¬ wy B (kd B m) = 4) (h : wayTo B G m X Y = true) : ∃ k dx dy : Int, 1 ≤ k ∧ k ≤ rch B (kd B m) ∧ (dx = -1 ∨ dx = 0 ∨ dx = 1) ∧ (dy = -1 ∨ dy = 0 ∨ dy = 1) ∧ ¬ (dx = 0 ∧ dy = 0) ∧ X = gx G m + k * dx ∧ Y = gy G m + k * dy ∧ (((dx = 0 ∨ dy = 0) ∧ ¬ wy B (kd B m) = 2) ∨ (¬ dx = 0 ∧ ¬ dy = 0 ∧ ¬ wy B (kd B m) = 1)) ∧ fr B G dx dy (k - 1).toNat (gx G m + dx) (gy G m + dy) = true := by
  unfold wayTo at h
  split at h
  · cases h
  rename_i hab
  try rw [if_neg h4] at h
  rw [Bool.and_eq_true, Bool.and_eq_true] at h
  obtain ⟨⟨h1, h2⟩, h3⟩ := h
  have h1 := of_decide_eq_true h1
  have h2 := of_decide_eq_true h2
  have hsx : sg (X - gx G m) = -1 ∧ X - gx G m < 0 ∨ sg (X - gx G m) = 0 ∧ X - gx G m = 0 ∨ sg (X - gx G m) = 1 ∧ 0 < X - gx G m := by unfold sg; (repeat' split) <;> omega
  have hsy : sg (Y - gy G m) = -1 ∧ Y - gy G m < 0 ∨ sg (Y - gy G m) = 0 ∧ Y - gy G m = 0 ∨ sg (Y - gy G m) = 1 ∧ 0 < Y - gy G m := by unfold sg; (repeat' split) <;> omega
  have hax : ab (X - gx G m) = X - gx G m ∧ 0 ≤ X - gx G m ∨ ab (X - gx G m) = -(X - gx G m) ∧ X - gx G m < 0 := by unfold ab; split <;> omega
  have hay : ab (Y - gy G m) = Y - gy G m ∧ 0 ≤ Y - gy G m ∨ ab (Y - gy G m) = -(Y - gy G m) ∧ Y - gy G m < 0 := by unfold ab; split <;> omega
  have hfa : farO X Y (gx G m) (gy G m) = if ab (X - gx G m) ≤ ab (Y - gy G m) then ab (Y - gy G m) else ab (X - gx G m) := rfl
  generalize farO X Y (gx G m) (gy G m) = k at *
  generalize sg (X - gx G m) = dx at *
  generalize sg (Y - gy G m) = dy at *
  generalize ab (X - gx G m) = a at *
  generalize ab (Y - gy G m) = b at *
  refine ⟨k, dx, dy, ?_, h1, by omega, by omega, ?_, ?_, ?_, ?_, h3⟩
  · split at hfa <;> omega
  · split at hfa <;> omega
  · rcases hsx with ⟨e, e'⟩ | ⟨e, e'⟩ | ⟨e, e'⟩ <;> rw [e] <;> split at hfa <;> omega
  · rcases hsy with ⟨e, e'⟩ | ⟨e, e'⟩ | ⟨e, e'⟩ <;> rw [e] <;> split at hfa <;> omega
  · rcases h2 with ⟨h2, h2'⟩ | ⟨h2, h2'⟩
    · left; exact ⟨by omega, h2'⟩
    · by_cases c : dx = 0 ∨ dy = 0
      · exfalso; omega
      · right; exact ⟨by omega, by omega, h2'⟩
