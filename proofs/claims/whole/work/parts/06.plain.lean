/-! PLAIN INSTRUCTIONS of the small machine: what each asks, and that Ev follows. An op: instruction, a constant, a class, a field (or which kind of row) -/
abbrev Op : Type := Instr × Int × Nat × Nat
def sx_iconst (n : Int) (lv : LV) (st : List Value) (h : SH) (Q : LV → List Value → SH → Prop) : Prop := match st with
  | r => Q lv (.int (Int32.ofInt n) :: r) h
def sx_bipush (n : Int) (lv : LV) (st : List Value) (h : SH) (Q : LV → List Value → SH → Prop) : Prop := match st with
  | r => Q lv (.int (Int8.ofInt n).toInt32 :: r) h
def sx_sipush (n : Int) (lv : LV) (st : List Value) (h : SH) (Q : LV → List Value → SH → Prop) : Prop := match st with
  | r => Q lv (.int (Int16.ofInt n).toInt32 :: r) h
def sx_lconst (n : Fin 2) (lv : LV) (st : List Value) (h : SH) (Q : LV → List Value → SH → Prop) : Prop := match st with
  | r => Q lv (.long (Int64.ofNat (n : Nat)) :: r) h
def sx_iadd  (lv : LV) (st : List Value) (h : SH) (Q : LV → List Value → SH → Prop) : Prop := match st with
  | .int y :: .int x :: r => Q lv (.int (x + y) :: r) h
  | _ => False
def sx_isub  (lv : LV) (st : List Value) (h : SH) (Q : LV → List Value → SH → Prop) : Prop := match st with
  | .int y :: .int x :: r => Q lv (.int (x - y) :: r) h
  | _ => False
def sx_imul  (lv : LV) (st : List Value) (h : SH) (Q : LV → List Value → SH → Prop) : Prop := match st with
  | .int y :: .int x :: r => Q lv (.int (x * y) :: r) h
  | _ => False
def sx_iand  (lv : LV) (st : List Value) (h : SH) (Q : LV → List Value → SH → Prop) : Prop := match st with
  | .int y :: .int x :: r => Q lv (.int (x &&& y) :: r) h
  | _ => False
def sx_ior  (lv : LV) (st : List Value) (h : SH) (Q : LV → List Value → SH → Prop) : Prop := match st with
  | .int y :: .int x :: r => Q lv (.int (x ||| y) :: r) h
  | _ => False
def sx_ixor  (lv : LV) (st : List Value) (h : SH) (Q : LV → List Value → SH → Prop) : Prop := match st with
  | .int y :: .int x :: r => Q lv (.int (x ^^^ y) :: r) h
  | _ => False
def sx_ishl  (lv : LV) (st : List Value) (h : SH) (Q : LV → List Value → SH → Prop) : Prop := match st with
  | .int y :: .int x :: r => Q lv (.int (x <<< (y &&& 31)) :: r) h
  | _ => False
def sx_ishr  (lv : LV) (st : List Value) (h : SH) (Q : LV → List Value → SH → Prop) : Prop := match st with
  | .int y :: .int x :: r => Q lv (.int (x >>> (y &&& 31)) :: r) h
  | _ => False
def sx_iushr  (lv : LV) (st : List Value) (h : SH) (Q : LV → List Value → SH → Prop) : Prop := match st with
  | .int y :: .int x :: r => Q lv (.int ((x.toUInt32 >>> (y.toUInt32 &&& Int32.toUInt32 31)).toInt32) :: r) h
  | _ => False
def sx_ladd  (lv : LV) (st : List Value) (h : SH) (Q : LV → List Value → SH → Prop) : Prop := match st with
  | .long y :: .long x :: r => Q lv (.long (x + y) :: r) h
  | _ => False
def sx_lsub  (lv : LV) (st : List Value) (h : SH) (Q : LV → List Value → SH → Prop) : Prop := match st with
  | .long y :: .long x :: r => Q lv (.long (x - y) :: r) h
  | _ => False
def sx_lmul  (lv : LV) (st : List Value) (h : SH) (Q : LV → List Value → SH → Prop) : Prop := match st with
  | .long y :: .long x :: r => Q lv (.long (x * y) :: r) h
  | _ => False
def sx_land  (lv : LV) (st : List Value) (h : SH) (Q : LV → List Value → SH → Prop) : Prop := match st with
  | .long y :: .long x :: r => Q lv (.long (x &&& y) :: r) h
  | _ => False
def sx_idiv  (lv : LV) (st : List Value) (h : SH) (Q : LV → List Value → SH → Prop) : Prop := match st with
  | .int y :: .int x :: r => (¬ y = 0) ∧ Q lv (.int (x / y) :: r) h
  | _ => False
def sx_irem  (lv : LV) (st : List Value) (h : SH) (Q : LV → List Value → SH → Prop) : Prop := match st with
  | .int y :: .int x :: r => (¬ y = 0) ∧ Q lv (.int (x - x / y * y) :: r) h
  | _ => False
def sx_ldiv  (lv : LV) (st : List Value) (h : SH) (Q : LV → List Value → SH → Prop) : Prop := match st with
  | .long y :: .long x :: r => (¬ y = 0) ∧ Q lv (.long (x / y) :: r) h
  | _ => False
def sx_lrem  (lv : LV) (st : List Value) (h : SH) (Q : LV → List Value → SH → Prop) : Prop := match st with
  | .long y :: .long x :: r => (¬ y = 0) ∧ Q lv (.long (x - x / y * y) :: r) h
  | _ => False
def sx_ineg  (lv : LV) (st : List Value) (h : SH) (Q : LV → List Value → SH → Prop) : Prop := match st with
  | .int x :: r => Q lv (.int (-x) :: r) h
  | _ => False
def sx_i2l  (lv : LV) (st : List Value) (h : SH) (Q : LV → List Value → SH → Prop) : Prop := match st with
  | .int x :: r => Q lv (.long x.toInt64 :: r) h
  | _ => False
def sx_l2i  (lv : LV) (st : List Value) (h : SH) (Q : LV → List Value → SH → Prop) : Prop := match st with
  | .long x :: r => Q lv (.int x.toInt32 :: r) h
  | _ => False
def sx_i2b  (lv : LV) (st : List Value) (h : SH) (Q : LV → List Value → SH → Prop) : Prop := match st with
  | .int x :: r => Q lv (.int x.toInt8.toInt32 :: r) h
  | _ => False
def sx_i2c  (lv : LV) (st : List Value) (h : SH) (Q : LV → List Value → SH → Prop) : Prop := match st with
  | .int x :: r => Q lv (.int (x.toUInt32 % 65536).toInt32 :: r) h
  | _ => False
def sx_lcmp  (lv : LV) (st : List Value) (h : SH) (Q : LV → List Value → SH → Prop) : Prop := match st with
  | .long y :: .long x :: r => Q lv (.int (lg_cmp x y) :: r) h
  | _ => False
def sx_dup  (lv : LV) (st : List Value) (h : SH) (Q : LV → List Value → SH → Prop) : Prop := match st with
  | v :: r => (v.category = 1) ∧ Q lv (v :: v :: r) h
  | _ => False
def sx_pop  (lv : LV) (st : List Value) (h : SH) (Q : LV → List Value → SH → Prop) : Prop := match st with
  | v :: r => (v.category = 1) ∧ Q lv (r) h
  | _ => False
def sx_dup2  (lv : LV) (st : List Value) (h : SH) (Q : LV → List Value → SH → Prop) : Prop := match st with
  | v :: u :: r => (v.category = 1 ∧ u.category = 1) ∧ Q lv (v :: u :: v :: u :: r) h
  | _ => False
def sx_iload_n (i : Nat) (lv : LV) (st : List Value) (h : SH) (Q : LV → List Value → SH → Prop) : Prop := match lv[i]? with
  | some (some (.int x)) => Q lv (.int x :: st) h
  | _ => False
def sx_iload (i : Nat) (lv : LV) (st : List Value) (h : SH) (Q : LV → List Value → SH → Prop) : Prop := match lv[i]? with
  | some (some (.int x)) => Q lv (.int x :: st) h
  | _ => False
def sx_istore_n (i : Nat) (lv : LV) (st : List Value) (h : SH) (Q : LV → List Value → SH → Prop) : Prop := match st with
  | .int x :: r => i < lv.length ∧ Q (sm_s1 lv i (.int x)) r h
  | _ => False
def sx_istore (i : Nat) (lv : LV) (st : List Value) (h : SH) (Q : LV → List Value → SH → Prop) : Prop := match st with
  | .int x :: r => i < lv.length ∧ Q (sm_s1 lv i (.int x)) r h
  | _ => False
def sx_lload_n (i : Nat) (lv : LV) (st : List Value) (h : SH) (Q : LV → List Value → SH → Prop) : Prop := match lv[i]? with
  | some (some (.long x)) => Q lv (.long x :: st) h
  | _ => False
def sx_lload (i : Nat) (lv : LV) (st : List Value) (h : SH) (Q : LV → List Value → SH → Prop) : Prop := match lv[i]? with
  | some (some (.long x)) => Q lv (.long x :: st) h
  | _ => False
def sx_lstore_n (i : Nat) (lv : LV) (st : List Value) (h : SH) (Q : LV → List Value → SH → Prop) : Prop := match st with
  | .long x :: r => i + 1 < lv.length ∧ Q (sm_s2 lv i (.long x)) r h
  | _ => False
def sx_lstore (i : Nat) (lv : LV) (st : List Value) (h : SH) (Q : LV → List Value → SH → Prop) : Prop := match st with
  | .long x :: r => i + 1 < lv.length ∧ Q (sm_s2 lv i (.long x)) r h
  | _ => False
def sx_aload_n (i : Nat) (lv : LV) (st : List Value) (h : SH) (Q : LV → List Value → SH → Prop) : Prop := match lv[i]? with
  | some (some (.ref x)) => Q lv (.ref x :: st) h
  | _ => False
def sx_aload (i : Nat) (lv : LV) (st : List Value) (h : SH) (Q : LV → List Value → SH → Prop) : Prop := match lv[i]? with
  | some (some (.ref x)) => Q lv (.ref x :: st) h
  | _ => False
def sx_astore_n (i : Nat) (lv : LV) (st : List Value) (h : SH) (Q : LV → List Value → SH → Prop) : Prop := match st with
  | .ref x :: r => i < lv.length ∧ Q (sm_s1 lv i (.ref x)) r h
  | _ => False
def sx_astore (i : Nat) (lv : LV) (st : List Value) (h : SH) (Q : LV → List Value → SH → Prop) : Prop := match st with
  | .ref x :: r => i < lv.length ∧ Q (sm_s1 lv i (.ref x)) r h
  | _ => False
def sx_iinc (i : Nat) (n : Int) (lv : LV) (st : List Value) (h : SH) (Q : LV → List Value → SH → Prop) : Prop := match lv[i]? with
  | some (some (.int x)) => i < lv.length ∧ Q (sm_s1 lv i (.int (x + Int32.ofInt n))) st h
  | _ => False
def sx_ldc (z : Int) (lv : LV) (st : List Value) (h : SH) (Q : LV → List Value → SH → Prop) : Prop := Q lv (.int (Int32.ofInt z) :: st) h
def sx_ldc_w (z : Int) (lv : LV) (st : List Value) (h : SH) (Q : LV → List Value → SH → Prop) : Prop := Q lv (.int (Int32.ofInt z) :: st) h
def sx_ldc2_w (z : Int) (lv : LV) (st : List Value) (h : SH) (Q : LV → List Value → SH → Prop) : Prop := Q lv (.long (Int64.ofInt z) :: st) h
def sx_getfield (c k : Nat) (lv : LV) (st : List Value) (h : SH) (Q : LV → List Value → SH → Prop) : Prop := match st with
  | .ref o :: r => (o < h.1 ∧ (h.2.1 o).1 = c) ∧ (match sm_ty c k with
    | .long => Q lv (.long (h.2.2.2.1 o k) :: r) h
    | .object _ => ∃ a, h.2.2.2.2 o k = some a ∧ Q lv (.ref a :: r) h
    | .array _ => ∃ a, h.2.2.2.2 o k = some a ∧ Q lv (.ref a :: r) h
    | _ => Q lv (.int (h.2.2.1 o k) :: r) h)
  | _ => False
def sx_putfield (c k : Nat) (lv : LV) (st : List Value) (h : SH) (Q : LV → List Value → SH → Prop) : Prop := match st with
  | .int x :: .ref o :: r => (o < h.1 ∧ (h.2.1 o).1 = c) ∧ (match sm_ty c k with
    | .int => Q lv r (sm_I h o k x)
    | .boolean => (x = 0 ∨ x = 1) ∧ Q lv r (sm_I h o k x)
    | _ => False)
  | .long x :: .ref o :: r => (o < h.1 ∧ (h.2.1 o).1 = c) ∧ (match sm_ty c k with
    | .long => Q lv r (sm_J h o k x)
    | _ => False)
  | .ref a :: .ref o :: r => (o < h.1 ∧ (h.2.1 o).1 = c) ∧ (match sm_ty c k with
    | .object _ => Q lv r (sm_R h o k (some a))
    | .array _ => Q lv r (sm_R h o k (some a))
    | _ => False)
  | .null :: .ref o :: r => (o < h.1 ∧ (h.2.1 o).1 = c) ∧ (match sm_ty c k with
    | .object _ => Q lv r (sm_R h o k none)
    | _ => False)
  | _ => False
def sx_getstatic (k : Nat) (lv : LV) (st : List Value) (h : SH) (Q : LV → List Value → SH → Prop) : Prop := k < 4 ∧ Q lv (.ref (1000000 + k) :: st) h
def sx_iaload (k : Nat) (lv : LV) (st : List Value) (h : SH) (Q : LV → List Value → SH → Prop) : Prop := match st with
  | .int i :: .ref a :: r => if k = 0 then (a < h.1 ∧ (h.2.1 a).1 = 13) ∧ vp_in i (h.2.1 a).2 ∧ Q lv (.int (h.2.2.1 a i.toNatClampNeg) :: r) h
    else (1000000 ≤ a ∧ a < 1000004) ∧ vp_in i (sm_sv (a - 1000000)).length ∧ Q lv (.int ((sm_sv (a - 1000000)).getD i.toNatClampNeg 0) :: r) h
  | _ => False
def sx_baload (k : Nat) (lv : LV) (st : List Value) (h : SH) (Q : LV → List Value → SH → Prop) : Prop := match st with
  | .int i :: .ref a :: r => if k = 0 then (a < h.1 ∧ (h.2.1 a).1 = 11) ∧ vp_in i (h.2.1 a).2 ∧ Q lv (.int (h.2.2.1 a i.toNatClampNeg) :: r) h
    else False
  | _ => False
def sx_caload (k : Nat) (lv : LV) (st : List Value) (h : SH) (Q : LV → List Value → SH → Prop) : Prop := match st with
  | .int i :: .ref a :: r => if k = 0 then (a < h.1 ∧ (h.2.1 a).1 = 12) ∧ vp_in i (h.2.1 a).2 ∧ Q lv (.int (h.2.2.1 a i.toNatClampNeg) :: r) h
    else False
  | _ => False
def sx_laload (lv : LV) (st : List Value) (h : SH) (Q : LV → List Value → SH → Prop) : Prop := match st with
  | .int i :: .ref a :: r => (a < h.1 ∧ (h.2.1 a).1 = 14) ∧ vp_in i (h.2.1 a).2 ∧ Q lv (.long (h.2.2.2.1 a i.toNatClampNeg) :: r) h
  | _ => False
def sx_iastore (lv : LV) (st : List Value) (h : SH) (Q : LV → List Value → SH → Prop) : Prop := match st with
  | .int x :: .int i :: .ref a :: r => (a < h.1 ∧ (h.2.1 a).1 = 13) ∧ vp_in i (h.2.1 a).2 ∧ Q lv r (sm_I h a i.toNatClampNeg (x))
  | _ => False
def sx_bastore (lv : LV) (st : List Value) (h : SH) (Q : LV → List Value → SH → Prop) : Prop := match st with
  | .int x :: .int i :: .ref a :: r => (a < h.1 ∧ (h.2.1 a).1 = 11) ∧ vp_in i (h.2.1 a).2 ∧ Q lv r (sm_I h a i.toNatClampNeg (vp_nar .byte x))
  | _ => False
def sx_castore (lv : LV) (st : List Value) (h : SH) (Q : LV → List Value → SH → Prop) : Prop := match st with
  | .int x :: .int i :: .ref a :: r => (a < h.1 ∧ (h.2.1 a).1 = 12) ∧ vp_in i (h.2.1 a).2 ∧ Q lv r (sm_I h a i.toNatClampNeg (vp_nar .char x))
  | _ => False
def sx_lastore (lv : LV) (st : List Value) (h : SH) (Q : LV → List Value → SH → Prop) : Prop := match st with
  | .long x :: .int i :: .ref a :: r => (a < h.1 ∧ (h.2.1 a).1 = 14) ∧ vp_in i (h.2.1 a).2 ∧ Q lv r (sm_J h a i.toNatClampNeg x)
  | _ => False
def sx_arraylength (lv : LV) (st : List Value) (h : SH) (Q : LV → List Value → SH → Prop) : Prop := match st with
  | .ref a :: r => (a < h.1 ∧ 11 ≤ (h.2.1 a).1 ∧ (h.2.1 a).1 ≤ 14) ∧ Q lv (.int (Int32.ofNat (h.2.1 a).2) :: r) h
  | _ => False
section PLAIN
variable {l : Launch} {d : Nat} {M : MI} {pc : Nat} {lv : LV} {st : List Value} {h : SH} {uc us : Nat} {rr : Option Value × SH} {Q : LV → List Value → SH → Prop}
theorem Ev.iconst {n : Int} (hd : decode M.2.1 pc = .ok (.iconst n, 1)) (hs : sx_iconst n lv st h Q) (kk : ∀ lv' st' h', Q lv' st' h' → Ev l d M (pc + 1) lv' st' h' uc us rr) : Ev l d M pc lv st h uc us rr := by
  intro base sa cy D p e s m args below meth c H locs ls C hWd hz hS hL
  have C0 := C
  obtain ⟨hx, hb, hml, hret, hlocks, hts, hown, hnm, hbs, hK, hSx⟩ := C
  exact lv_iconst hx hb hd rfl (kk _ _ _ hs base sa cy D p e s m args below meth c H locs ls C0 hWd hz hS hL)
theorem Ev.bipush {n : Int} (hd : decode M.2.1 pc = .ok (.bipush n, 2)) (hs : sx_bipush n lv st h Q) (kk : ∀ lv' st' h', Q lv' st' h' → Ev l d M (pc + 2) lv' st' h' uc us rr) : Ev l d M pc lv st h uc us rr := by
  intro base sa cy D p e s m args below meth c H locs ls C hWd hz hS hL
  have C0 := C
  obtain ⟨hx, hb, hml, hret, hlocks, hts, hown, hnm, hbs, hK, hSx⟩ := C
  exact lv_bipush hx hb hd rfl (kk _ _ _ hs base sa cy D p e s m args below meth c H locs ls C0 hWd hz hS hL)
theorem Ev.sipush {n : Int} (hd : decode M.2.1 pc = .ok (.sipush n, 3)) (hs : sx_sipush n lv st h Q) (kk : ∀ lv' st' h', Q lv' st' h' → Ev l d M (pc + 3) lv' st' h' uc us rr) : Ev l d M pc lv st h uc us rr := by
  intro base sa cy D p e s m args below meth c H locs ls C hWd hz hS hL
  have C0 := C
  obtain ⟨hx, hb, hml, hret, hlocks, hts, hown, hnm, hbs, hK, hSx⟩ := C
  exact lv_sipush hx hb hd rfl (kk _ _ _ hs base sa cy D p e s m args below meth c H locs ls C0 hWd hz hS hL)
theorem Ev.lconst {n : Fin 2} (hd : decode M.2.1 pc = .ok (.lconst n, 1)) (hs : sx_lconst n lv st h Q) (kk : ∀ lv' st' h', Q lv' st' h' → Ev l d M (pc + 1) lv' st' h' uc us rr) : Ev l d M pc lv st h uc us rr := by
  intro base sa cy D p e s m args below meth c H locs ls C hWd hz hS hL
  have C0 := C
  obtain ⟨hx, hb, hml, hret, hlocks, hts, hown, hnm, hbs, hK, hSx⟩ := C
  exact lv_lconst hx hb hd rfl (kk _ _ _ hs base sa cy D p e s m args below meth c H locs ls C0 hWd hz hS hL)
theorem Ev.iadd  (hd : decode M.2.1 pc = .ok (.iadd, 1)) (hs : sx_iadd  lv st h Q) (kk : ∀ lv' st' h', Q lv' st' h' → Ev l d M (pc + 1) lv' st' h' uc us rr) : Ev l d M pc lv st h uc us rr := by
  unfold sx_iadd at hs
  split at hs
  · intro base sa cy D p e s m args below meth c H locs ls C hWd hz hS hL
    have C0 := C
    obtain ⟨hx, hb, hml, hret, hlocks, hts, hown, hnm, hbs, hK, hSx⟩ := C
    exact lv_iadd hx hb hd (kk _ _ _ hs base sa cy D p e s m args below meth c H locs ls C0 hWd hz hS hL)
  · exact hs.elim
theorem Ev.isub  (hd : decode M.2.1 pc = .ok (.isub, 1)) (hs : sx_isub  lv st h Q) (kk : ∀ lv' st' h', Q lv' st' h' → Ev l d M (pc + 1) lv' st' h' uc us rr) : Ev l d M pc lv st h uc us rr := by
  unfold sx_isub at hs
  split at hs
  · intro base sa cy D p e s m args below meth c H locs ls C hWd hz hS hL
    have C0 := C
    obtain ⟨hx, hb, hml, hret, hlocks, hts, hown, hnm, hbs, hK, hSx⟩ := C
    exact lv_isub hx hb hd (kk _ _ _ hs base sa cy D p e s m args below meth c H locs ls C0 hWd hz hS hL)
  · exact hs.elim
theorem Ev.imul  (hd : decode M.2.1 pc = .ok (.imul, 1)) (hs : sx_imul  lv st h Q) (kk : ∀ lv' st' h', Q lv' st' h' → Ev l d M (pc + 1) lv' st' h' uc us rr) : Ev l d M pc lv st h uc us rr := by
  unfold sx_imul at hs
  split at hs
  · intro base sa cy D p e s m args below meth c H locs ls C hWd hz hS hL
    have C0 := C
    obtain ⟨hx, hb, hml, hret, hlocks, hts, hown, hnm, hbs, hK, hSx⟩ := C
    exact lv_imul hx hb hd (kk _ _ _ hs base sa cy D p e s m args below meth c H locs ls C0 hWd hz hS hL)
  · exact hs.elim
theorem Ev.iand  (hd : decode M.2.1 pc = .ok (.iand, 1)) (hs : sx_iand  lv st h Q) (kk : ∀ lv' st' h', Q lv' st' h' → Ev l d M (pc + 1) lv' st' h' uc us rr) : Ev l d M pc lv st h uc us rr := by
  unfold sx_iand at hs
  split at hs
  · intro base sa cy D p e s m args below meth c H locs ls C hWd hz hS hL
    have C0 := C
    obtain ⟨hx, hb, hml, hret, hlocks, hts, hown, hnm, hbs, hK, hSx⟩ := C
    exact lv_iand hx hb hd (kk _ _ _ hs base sa cy D p e s m args below meth c H locs ls C0 hWd hz hS hL)
  · exact hs.elim
theorem Ev.ior  (hd : decode M.2.1 pc = .ok (.ior, 1)) (hs : sx_ior  lv st h Q) (kk : ∀ lv' st' h', Q lv' st' h' → Ev l d M (pc + 1) lv' st' h' uc us rr) : Ev l d M pc lv st h uc us rr := by
  unfold sx_ior at hs
  split at hs
  · intro base sa cy D p e s m args below meth c H locs ls C hWd hz hS hL
    have C0 := C
    obtain ⟨hx, hb, hml, hret, hlocks, hts, hown, hnm, hbs, hK, hSx⟩ := C
    exact lv_ior hx hb hd (kk _ _ _ hs base sa cy D p e s m args below meth c H locs ls C0 hWd hz hS hL)
  · exact hs.elim
theorem Ev.ixor  (hd : decode M.2.1 pc = .ok (.ixor, 1)) (hs : sx_ixor  lv st h Q) (kk : ∀ lv' st' h', Q lv' st' h' → Ev l d M (pc + 1) lv' st' h' uc us rr) : Ev l d M pc lv st h uc us rr := by
  unfold sx_ixor at hs
  split at hs
  · intro base sa cy D p e s m args below meth c H locs ls C hWd hz hS hL
    have C0 := C
    obtain ⟨hx, hb, hml, hret, hlocks, hts, hown, hnm, hbs, hK, hSx⟩ := C
    exact lv_ixor hx hb hd (kk _ _ _ hs base sa cy D p e s m args below meth c H locs ls C0 hWd hz hS hL)
  · exact hs.elim
theorem Ev.ishl  (hd : decode M.2.1 pc = .ok (.ishl, 1)) (hs : sx_ishl  lv st h Q) (kk : ∀ lv' st' h', Q lv' st' h' → Ev l d M (pc + 1) lv' st' h' uc us rr) : Ev l d M pc lv st h uc us rr := by
  unfold sx_ishl at hs
  split at hs
  · intro base sa cy D p e s m args below meth c H locs ls C hWd hz hS hL
    have C0 := C
    obtain ⟨hx, hb, hml, hret, hlocks, hts, hown, hnm, hbs, hK, hSx⟩ := C
    exact lv_ishl hx hb hd (kk _ _ _ hs base sa cy D p e s m args below meth c H locs ls C0 hWd hz hS hL)
  · exact hs.elim
theorem Ev.ishr  (hd : decode M.2.1 pc = .ok (.ishr, 1)) (hs : sx_ishr  lv st h Q) (kk : ∀ lv' st' h', Q lv' st' h' → Ev l d M (pc + 1) lv' st' h' uc us rr) : Ev l d M pc lv st h uc us rr := by
  unfold sx_ishr at hs
  split at hs
  · intro base sa cy D p e s m args below meth c H locs ls C hWd hz hS hL
    have C0 := C
    obtain ⟨hx, hb, hml, hret, hlocks, hts, hown, hnm, hbs, hK, hSx⟩ := C
    exact lv_ishr hx hb hd (kk _ _ _ hs base sa cy D p e s m args below meth c H locs ls C0 hWd hz hS hL)
  · exact hs.elim
theorem Ev.iushr  (hd : decode M.2.1 pc = .ok (.iushr, 1)) (hs : sx_iushr  lv st h Q) (kk : ∀ lv' st' h', Q lv' st' h' → Ev l d M (pc + 1) lv' st' h' uc us rr) : Ev l d M pc lv st h uc us rr := by
  unfold sx_iushr at hs
  split at hs
  · intro base sa cy D p e s m args below meth c H locs ls C hWd hz hS hL
    have C0 := C
    obtain ⟨hx, hb, hml, hret, hlocks, hts, hown, hnm, hbs, hK, hSx⟩ := C
    exact lv_iushr hx hb hd rfl (kk _ _ _ hs base sa cy D p e s m args below meth c H locs ls C0 hWd hz hS hL)
  · exact hs.elim
theorem Ev.ladd  (hd : decode M.2.1 pc = .ok (.ladd, 1)) (hs : sx_ladd  lv st h Q) (kk : ∀ lv' st' h', Q lv' st' h' → Ev l d M (pc + 1) lv' st' h' uc us rr) : Ev l d M pc lv st h uc us rr := by
  unfold sx_ladd at hs
  split at hs
  · intro base sa cy D p e s m args below meth c H locs ls C hWd hz hS hL
    have C0 := C
    obtain ⟨hx, hb, hml, hret, hlocks, hts, hown, hnm, hbs, hK, hSx⟩ := C
    exact lv_ladd hx hb hd (kk _ _ _ hs base sa cy D p e s m args below meth c H locs ls C0 hWd hz hS hL)
  · exact hs.elim
theorem Ev.lsub  (hd : decode M.2.1 pc = .ok (.lsub, 1)) (hs : sx_lsub  lv st h Q) (kk : ∀ lv' st' h', Q lv' st' h' → Ev l d M (pc + 1) lv' st' h' uc us rr) : Ev l d M pc lv st h uc us rr := by
  unfold sx_lsub at hs
  split at hs
  · intro base sa cy D p e s m args below meth c H locs ls C hWd hz hS hL
    have C0 := C
    obtain ⟨hx, hb, hml, hret, hlocks, hts, hown, hnm, hbs, hK, hSx⟩ := C
    exact lv_lsub hx hb hd (kk _ _ _ hs base sa cy D p e s m args below meth c H locs ls C0 hWd hz hS hL)
  · exact hs.elim
theorem Ev.lmul  (hd : decode M.2.1 pc = .ok (.lmul, 1)) (hs : sx_lmul  lv st h Q) (kk : ∀ lv' st' h', Q lv' st' h' → Ev l d M (pc + 1) lv' st' h' uc us rr) : Ev l d M pc lv st h uc us rr := by
  unfold sx_lmul at hs
  split at hs
  · intro base sa cy D p e s m args below meth c H locs ls C hWd hz hS hL
    have C0 := C
    obtain ⟨hx, hb, hml, hret, hlocks, hts, hown, hnm, hbs, hK, hSx⟩ := C
    exact lv_lmul hx hb hd (kk _ _ _ hs base sa cy D p e s m args below meth c H locs ls C0 hWd hz hS hL)
  · exact hs.elim
theorem Ev.land  (hd : decode M.2.1 pc = .ok (.land, 1)) (hs : sx_land  lv st h Q) (kk : ∀ lv' st' h', Q lv' st' h' → Ev l d M (pc + 1) lv' st' h' uc us rr) : Ev l d M pc lv st h uc us rr := by
  unfold sx_land at hs
  split at hs
  · intro base sa cy D p e s m args below meth c H locs ls C hWd hz hS hL
    have C0 := C
    obtain ⟨hx, hb, hml, hret, hlocks, hts, hown, hnm, hbs, hK, hSx⟩ := C
    exact lv_land hx hb hd (kk _ _ _ hs base sa cy D p e s m args below meth c H locs ls C0 hWd hz hS hL)
  · exact hs.elim
theorem Ev.idiv  (hd : decode M.2.1 pc = .ok (.idiv, 1)) (hs : sx_idiv  lv st h Q) (kk : ∀ lv' st' h', Q lv' st' h' → Ev l d M (pc + 1) lv' st' h' uc us rr) : Ev l d M pc lv st h uc us rr := by
  unfold sx_idiv at hs
  split at hs
  · intro base sa cy D p e s m args below meth c H locs ls C hWd hz hS hL
    have C0 := C
    obtain ⟨hx, hb, hml, hret, hlocks, hts, hown, hnm, hbs, hK, hSx⟩ := C
    obtain ⟨hc, hs⟩ := hs
    exact lv_idiv hx hb hd hc (kk _ _ _ hs base sa cy D p e s m args below meth c H locs ls C0 hWd hz hS hL)
  · exact hs.elim
theorem Ev.irem  (hd : decode M.2.1 pc = .ok (.irem, 1)) (hs : sx_irem  lv st h Q) (kk : ∀ lv' st' h', Q lv' st' h' → Ev l d M (pc + 1) lv' st' h' uc us rr) : Ev l d M pc lv st h uc us rr := by
  unfold sx_irem at hs
  split at hs
  · intro base sa cy D p e s m args below meth c H locs ls C hWd hz hS hL
    have C0 := C
    obtain ⟨hx, hb, hml, hret, hlocks, hts, hown, hnm, hbs, hK, hSx⟩ := C
    obtain ⟨hc, hs⟩ := hs
    exact lv_irem hx hb hd hc (kk _ _ _ hs base sa cy D p e s m args below meth c H locs ls C0 hWd hz hS hL)
  · exact hs.elim
theorem Ev.ldiv  (hd : decode M.2.1 pc = .ok (.ldiv, 1)) (hs : sx_ldiv  lv st h Q) (kk : ∀ lv' st' h', Q lv' st' h' → Ev l d M (pc + 1) lv' st' h' uc us rr) : Ev l d M pc lv st h uc us rr := by
  unfold sx_ldiv at hs
  split at hs
  · intro base sa cy D p e s m args below meth c H locs ls C hWd hz hS hL
    have C0 := C
    obtain ⟨hx, hb, hml, hret, hlocks, hts, hown, hnm, hbs, hK, hSx⟩ := C
    obtain ⟨hc, hs⟩ := hs
    exact lv_ldiv hx hb hd hc (kk _ _ _ hs base sa cy D p e s m args below meth c H locs ls C0 hWd hz hS hL)
  · exact hs.elim
theorem Ev.lrem  (hd : decode M.2.1 pc = .ok (.lrem, 1)) (hs : sx_lrem  lv st h Q) (kk : ∀ lv' st' h', Q lv' st' h' → Ev l d M (pc + 1) lv' st' h' uc us rr) : Ev l d M pc lv st h uc us rr := by
  unfold sx_lrem at hs
  split at hs
  · intro base sa cy D p e s m args below meth c H locs ls C hWd hz hS hL
    have C0 := C
    obtain ⟨hx, hb, hml, hret, hlocks, hts, hown, hnm, hbs, hK, hSx⟩ := C
    obtain ⟨hc, hs⟩ := hs
    exact lv_lrem hx hb hd hc (kk _ _ _ hs base sa cy D p e s m args below meth c H locs ls C0 hWd hz hS hL)
  · exact hs.elim
theorem Ev.ineg  (hd : decode M.2.1 pc = .ok (.ineg, 1)) (hs : sx_ineg  lv st h Q) (kk : ∀ lv' st' h', Q lv' st' h' → Ev l d M (pc + 1) lv' st' h' uc us rr) : Ev l d M pc lv st h uc us rr := by
  unfold sx_ineg at hs
  split at hs
  · intro base sa cy D p e s m args below meth c H locs ls C hWd hz hS hL
    have C0 := C
    obtain ⟨hx, hb, hml, hret, hlocks, hts, hown, hnm, hbs, hK, hSx⟩ := C
    exact lv_ineg hx hb hd (kk _ _ _ hs base sa cy D p e s m args below meth c H locs ls C0 hWd hz hS hL)
  · exact hs.elim
theorem Ev.i2l  (hd : decode M.2.1 pc = .ok (.i2l, 1)) (hs : sx_i2l  lv st h Q) (kk : ∀ lv' st' h', Q lv' st' h' → Ev l d M (pc + 1) lv' st' h' uc us rr) : Ev l d M pc lv st h uc us rr := by
  unfold sx_i2l at hs
  split at hs
  · intro base sa cy D p e s m args below meth c H locs ls C hWd hz hS hL
    have C0 := C
    obtain ⟨hx, hb, hml, hret, hlocks, hts, hown, hnm, hbs, hK, hSx⟩ := C
    exact lv_i2l hx hb hd rfl (kk _ _ _ hs base sa cy D p e s m args below meth c H locs ls C0 hWd hz hS hL)
  · exact hs.elim
theorem Ev.l2i  (hd : decode M.2.1 pc = .ok (.l2i, 1)) (hs : sx_l2i  lv st h Q) (kk : ∀ lv' st' h', Q lv' st' h' → Ev l d M (pc + 1) lv' st' h' uc us rr) : Ev l d M pc lv st h uc us rr := by
  unfold sx_l2i at hs
  split at hs
  · intro base sa cy D p e s m args below meth c H locs ls C hWd hz hS hL
    have C0 := C
    obtain ⟨hx, hb, hml, hret, hlocks, hts, hown, hnm, hbs, hK, hSx⟩ := C
    exact lv_l2i hx hb hd rfl (kk _ _ _ hs base sa cy D p e s m args below meth c H locs ls C0 hWd hz hS hL)
  · exact hs.elim
theorem Ev.i2b  (hd : decode M.2.1 pc = .ok (.i2b, 1)) (hs : sx_i2b  lv st h Q) (kk : ∀ lv' st' h', Q lv' st' h' → Ev l d M (pc + 1) lv' st' h' uc us rr) : Ev l d M pc lv st h uc us rr := by
  unfold sx_i2b at hs
  split at hs
  · intro base sa cy D p e s m args below meth c H locs ls C hWd hz hS hL
    have C0 := C
    obtain ⟨hx, hb, hml, hret, hlocks, hts, hown, hnm, hbs, hK, hSx⟩ := C
    exact lv_i2b hx hb hd rfl (kk _ _ _ hs base sa cy D p e s m args below meth c H locs ls C0 hWd hz hS hL)
  · exact hs.elim
theorem Ev.i2c  (hd : decode M.2.1 pc = .ok (.i2c, 1)) (hs : sx_i2c  lv st h Q) (kk : ∀ lv' st' h', Q lv' st' h' → Ev l d M (pc + 1) lv' st' h' uc us rr) : Ev l d M pc lv st h uc us rr := by
  unfold sx_i2c at hs
  split at hs
  · intro base sa cy D p e s m args below meth c H locs ls C hWd hz hS hL
    have C0 := C
    obtain ⟨hx, hb, hml, hret, hlocks, hts, hown, hnm, hbs, hK, hSx⟩ := C
    exact lv_i2c hx hb hd rfl (kk _ _ _ hs base sa cy D p e s m args below meth c H locs ls C0 hWd hz hS hL)
  · exact hs.elim
theorem Ev.lcmp  (hd : decode M.2.1 pc = .ok (.lcmp, 1)) (hs : sx_lcmp  lv st h Q) (kk : ∀ lv' st' h', Q lv' st' h' → Ev l d M (pc + 1) lv' st' h' uc us rr) : Ev l d M pc lv st h uc us rr := by
  unfold sx_lcmp at hs
  split at hs
  · intro base sa cy D p e s m args below meth c H locs ls C hWd hz hS hL
    have C0 := C
    obtain ⟨hx, hb, hml, hret, hlocks, hts, hown, hnm, hbs, hK, hSx⟩ := C
    exact W.lcmp hx hb hd (kk _ _ _ hs base sa cy D p e s m args below meth c H locs ls C0 hWd hz hS hL)
  · exact hs.elim
theorem Ev.dup  (hd : decode M.2.1 pc = .ok (.dup, 1)) (hs : sx_dup  lv st h Q) (kk : ∀ lv' st' h', Q lv' st' h' → Ev l d M (pc + 1) lv' st' h' uc us rr) : Ev l d M pc lv st h uc us rr := by
  unfold sx_dup at hs
  split at hs
  · intro base sa cy D p e s m args below meth c H locs ls C hWd hz hS hL
    have C0 := C
    obtain ⟨hx, hb, hml, hret, hlocks, hts, hown, hnm, hbs, hK, hSx⟩ := C
    obtain ⟨hc, hs⟩ := hs
    exact lv_dup hx hb hd (by rw [sm_cat]; exact hc) (kk _ _ _ hs base sa cy D p e s m args below meth c H locs ls C0 hWd hz hS hL)
  · exact hs.elim
theorem Ev.pop  (hd : decode M.2.1 pc = .ok (.pop, 1)) (hs : sx_pop  lv st h Q) (kk : ∀ lv' st' h', Q lv' st' h' → Ev l d M (pc + 1) lv' st' h' uc us rr) : Ev l d M pc lv st h uc us rr := by
  unfold sx_pop at hs
  split at hs
  · intro base sa cy D p e s m args below meth c H locs ls C hWd hz hS hL
    have C0 := C
    obtain ⟨hx, hb, hml, hret, hlocks, hts, hown, hnm, hbs, hK, hSx⟩ := C
    obtain ⟨hc, hs⟩ := hs
    exact lv_pop hx hb hd (by rw [sm_cat]; exact hc) (kk _ _ _ hs base sa cy D p e s m args below meth c H locs ls C0 hWd hz hS hL)
  · exact hs.elim
theorem Ev.dup2  (hd : decode M.2.1 pc = .ok (.dup2, 1)) (hs : sx_dup2  lv st h Q) (kk : ∀ lv' st' h', Q lv' st' h' → Ev l d M (pc + 1) lv' st' h' uc us rr) : Ev l d M pc lv st h uc us rr := by
  unfold sx_dup2 at hs
  split at hs
  · intro base sa cy D p e s m args below meth c H locs ls C hWd hz hS hL
    have C0 := C
    obtain ⟨hx, hb, hml, hret, hlocks, hts, hown, hnm, hbs, hK, hSx⟩ := C
    obtain ⟨hc, hs⟩ := hs
    exact lv_dup2_11 hx hb hd (by rw [sm_cat]; exact hc.1) (by rw [sm_cat]; exact hc.2) (kk _ _ _ hs base sa cy D p e s m args below meth c H locs ls C0 hWd hz hS hL)
  · exact hs.elim
theorem Ev.iload_n {i : Fin 4} (hd : decode M.2.1 pc = .ok (.iload_n i, 1)) (hs : sx_iload_n (i : Nat) lv st h Q) (kk : ∀ lv' st' h', Q lv' st' h' → Ev l d M (pc + 1) lv' st' h' uc us rr) : Ev l d M pc lv st h uc us rr := by
  unfold sx_iload_n at hs
  split at hs
  · rename_i x hxx
    intro base sa cy D p e s m args below meth c H locs ls C hWd hz hS hL
    have C0 := C
    obtain ⟨hx, hb, hml, hret, hlocks, hts, hown, hnm, hbs, hK, hSx⟩ := C
    exact lv_iload_n hx hb hd rfl (hL.get hxx) (kk _ _ _ hs base sa cy D p e s m args below meth c H locs ls C0 hWd hz hS hL)
  · exact hs.elim
theorem Ev.iload {i : Nat} (hd : decode M.2.1 pc = .ok (.iload i, 2)) (hs : sx_iload i lv st h Q) (kk : ∀ lv' st' h', Q lv' st' h' → Ev l d M (pc + 2) lv' st' h' uc us rr) : Ev l d M pc lv st h uc us rr := by
  unfold sx_iload at hs
  split at hs
  · rename_i x hxx
    intro base sa cy D p e s m args below meth c H locs ls C hWd hz hS hL
    have C0 := C
    obtain ⟨hx, hb, hml, hret, hlocks, hts, hown, hnm, hbs, hK, hSx⟩ := C
    exact lv_iload hx hb hd (hL.get hxx) (kk _ _ _ hs base sa cy D p e s m args below meth c H locs ls C0 hWd hz hS hL)
  · exact hs.elim
theorem Ev.istore_n {i : Fin 4} (hd : decode M.2.1 pc = .ok (.istore_n i, 1)) (hs : sx_istore_n (i : Nat) lv st h Q) (kk : ∀ lv' st' h', Q lv' st' h' → Ev l d M (pc + 1) lv' st' h' uc us rr) : Ev l d M pc lv st h uc us rr := by
  unfold sx_istore_n at hs
  split at hs
  · intro base sa cy D p e s m args below meth c H locs ls C hWd hz hS hL
    have C0 := C
    obtain ⟨hx, hb, hml, hret, hlocks, hts, hown, hnm, hbs, hK, hSx⟩ := C
    refine lv_istore_n hx hb hd rfl hL.2 (by rw [← hL.1]; exact hs.1) rfl (fun ls' hl' => kk _ _ _ hs.2 base sa cy D p e s m args below meth c H locs ls' C0 hWd hz hS (sm_Lh.s1 hL.1 hl'))
  · exact hs.elim
theorem Ev.istore {i : Nat} (hd : decode M.2.1 pc = .ok (.istore i, 2)) (hs : sx_istore i lv st h Q) (kk : ∀ lv' st' h', Q lv' st' h' → Ev l d M (pc + 2) lv' st' h' uc us rr) : Ev l d M pc lv st h uc us rr := by
  unfold sx_istore at hs
  split at hs
  · intro base sa cy D p e s m args below meth c H locs ls C hWd hz hS hL
    have C0 := C
    obtain ⟨hx, hb, hml, hret, hlocks, hts, hown, hnm, hbs, hK, hSx⟩ := C
    refine lv_istore hx hb hd hL.2 (by rw [← hL.1]; exact hs.1) rfl (fun ls' hl' => kk _ _ _ hs.2 base sa cy D p e s m args below meth c H locs ls' C0 hWd hz hS (sm_Lh.s1 hL.1 hl'))
  · exact hs.elim
theorem Ev.lload_n {i : Fin 4} (hd : decode M.2.1 pc = .ok (.lload_n i, 1)) (hs : sx_lload_n (i : Nat) lv st h Q) (kk : ∀ lv' st' h', Q lv' st' h' → Ev l d M (pc + 1) lv' st' h' uc us rr) : Ev l d M pc lv st h uc us rr := by
  unfold sx_lload_n at hs
  split at hs
  · rename_i x hxx
    intro base sa cy D p e s m args below meth c H locs ls C hWd hz hS hL
    have C0 := C
    obtain ⟨hx, hb, hml, hret, hlocks, hts, hown, hnm, hbs, hK, hSx⟩ := C
    exact lv_lload_n hx hb hd rfl (hL.get hxx) (kk _ _ _ hs base sa cy D p e s m args below meth c H locs ls C0 hWd hz hS hL)
  · exact hs.elim
theorem Ev.lload {i : Nat} (hd : decode M.2.1 pc = .ok (.lload i, 2)) (hs : sx_lload i lv st h Q) (kk : ∀ lv' st' h', Q lv' st' h' → Ev l d M (pc + 2) lv' st' h' uc us rr) : Ev l d M pc lv st h uc us rr := by
  unfold sx_lload at hs
  split at hs
  · rename_i x hxx
    intro base sa cy D p e s m args below meth c H locs ls C hWd hz hS hL
    have C0 := C
    obtain ⟨hx, hb, hml, hret, hlocks, hts, hown, hnm, hbs, hK, hSx⟩ := C
    exact lv_lload hx hb hd (hL.get hxx) (kk _ _ _ hs base sa cy D p e s m args below meth c H locs ls C0 hWd hz hS hL)
  · exact hs.elim
theorem Ev.lstore_n {i : Fin 4} (hd : decode M.2.1 pc = .ok (.lstore_n i, 1)) (hs : sx_lstore_n (i : Nat) lv st h Q) (kk : ∀ lv' st' h', Q lv' st' h' → Ev l d M (pc + 1) lv' st' h' uc us rr) : Ev l d M pc lv st h uc us rr := by
  unfold sx_lstore_n at hs
  split at hs
  · intro base sa cy D p e s m args below meth c H locs ls C hWd hz hS hL
    have C0 := C
    obtain ⟨hx, hb, hml, hret, hlocks, hts, hown, hnm, hbs, hK, hSx⟩ := C
    refine lv_lstore_n hx hb hd rfl hL.2 (by rw [← hL.1]; exact hs.1) rfl (fun ls' hl' => kk _ _ _ hs.2 base sa cy D p e s m args below meth c H locs ls' C0 hWd hz hS (sm_Lh.s2 hL.1 hl'))
  · exact hs.elim
theorem Ev.lstore {i : Nat} (hd : decode M.2.1 pc = .ok (.lstore i, 2)) (hs : sx_lstore i lv st h Q) (kk : ∀ lv' st' h', Q lv' st' h' → Ev l d M (pc + 2) lv' st' h' uc us rr) : Ev l d M pc lv st h uc us rr := by
  unfold sx_lstore at hs
  split at hs
  · intro base sa cy D p e s m args below meth c H locs ls C hWd hz hS hL
    have C0 := C
    obtain ⟨hx, hb, hml, hret, hlocks, hts, hown, hnm, hbs, hK, hSx⟩ := C
    refine lv_lstore hx hb hd hL.2 (by rw [← hL.1]; exact hs.1) rfl (fun ls' hl' => kk _ _ _ hs.2 base sa cy D p e s m args below meth c H locs ls' C0 hWd hz hS (sm_Lh.s2 hL.1 hl'))
  · exact hs.elim
theorem Ev.aload_n {i : Fin 4} (hd : decode M.2.1 pc = .ok (.aload_n i, 1)) (hs : sx_aload_n (i : Nat) lv st h Q) (kk : ∀ lv' st' h', Q lv' st' h' → Ev l d M (pc + 1) lv' st' h' uc us rr) : Ev l d M pc lv st h uc us rr := by
  unfold sx_aload_n at hs
  split at hs
  · rename_i x hxx
    intro base sa cy D p e s m args below meth c H locs ls C hWd hz hS hL
    have C0 := C
    obtain ⟨hx, hb, hml, hret, hlocks, hts, hown, hnm, hbs, hK, hSx⟩ := C
    exact lv_aload_n hx hb hd rfl (hL.get hxx) (kk _ _ _ hs base sa cy D p e s m args below meth c H locs ls C0 hWd hz hS hL)
  · exact hs.elim
theorem Ev.aload {i : Nat} (hd : decode M.2.1 pc = .ok (.aload i, 2)) (hs : sx_aload i lv st h Q) (kk : ∀ lv' st' h', Q lv' st' h' → Ev l d M (pc + 2) lv' st' h' uc us rr) : Ev l d M pc lv st h uc us rr := by
  unfold sx_aload at hs
  split at hs
  · rename_i x hxx
    intro base sa cy D p e s m args below meth c H locs ls C hWd hz hS hL
    have C0 := C
    obtain ⟨hx, hb, hml, hret, hlocks, hts, hown, hnm, hbs, hK, hSx⟩ := C
    exact lv_aload hx hb hd (hL.get hxx) (kk _ _ _ hs base sa cy D p e s m args below meth c H locs ls C0 hWd hz hS hL)
  · exact hs.elim
theorem Ev.astore_n {i : Fin 4} (hd : decode M.2.1 pc = .ok (.astore_n i, 1)) (hs : sx_astore_n (i : Nat) lv st h Q) (kk : ∀ lv' st' h', Q lv' st' h' → Ev l d M (pc + 1) lv' st' h' uc us rr) : Ev l d M pc lv st h uc us rr := by
  unfold sx_astore_n at hs
  split at hs
  · intro base sa cy D p e s m args below meth c H locs ls C hWd hz hS hL
    have C0 := C
    obtain ⟨hx, hb, hml, hret, hlocks, hts, hown, hnm, hbs, hK, hSx⟩ := C
    refine lv_astore_n hx hb hd rfl hL.2 (by rw [← hL.1]; exact hs.1) rfl (fun ls' hl' => kk _ _ _ hs.2 base sa cy D p e s m args below meth c H locs ls' C0 hWd hz hS (sm_Lh.s1 hL.1 hl'))
  · exact hs.elim
theorem Ev.astore {i : Nat} (hd : decode M.2.1 pc = .ok (.astore i, 2)) (hs : sx_astore i lv st h Q) (kk : ∀ lv' st' h', Q lv' st' h' → Ev l d M (pc + 2) lv' st' h' uc us rr) : Ev l d M pc lv st h uc us rr := by
  unfold sx_astore at hs
  split at hs
  · intro base sa cy D p e s m args below meth c H locs ls C hWd hz hS hL
    have C0 := C
    obtain ⟨hx, hb, hml, hret, hlocks, hts, hown, hnm, hbs, hK, hSx⟩ := C
    refine lv_astore hx hb hd hL.2 (by rw [← hL.1]; exact hs.1) rfl (fun ls' hl' => kk _ _ _ hs.2 base sa cy D p e s m args below meth c H locs ls' C0 hWd hz hS (sm_Lh.s1 hL.1 hl'))
  · exact hs.elim
theorem Ev.iinc {i : Nat} {n : Int} (hd : decode M.2.1 pc = .ok (.iinc i n, 3)) (hs : sx_iinc i n lv st h Q) (kk : ∀ lv' st' h', Q lv' st' h' → Ev l d M (pc + 3) lv' st' h' uc us rr) : Ev l d M pc lv st h uc us rr := by
  unfold sx_iinc at hs
  split at hs
  · rename_i x hxx
    intro base sa cy D p e s m args below meth c H locs ls C hWd hz hS hL
    have C0 := C
    obtain ⟨hx, hb, hml, hret, hlocks, hts, hown, hnm, hbs, hK, hSx⟩ := C
    obtain ⟨k, hk⟩ := List.getElem?_of_mem (sm_kl_mem (base := base) (sa := sa) (q := (i, Value.int x)) |>.mpr ⟨.int x, hxx, rfl⟩)
    refine lv_iinc hx hb hd hL.2 hk rfl (by rw [← hL.1]; exact hs.1) rfl (fun ls' hl' => kk _ _ _ hs.2 base sa cy D p e s m args below meth c H locs ls' C0 hWd hz hS (sm_Lh.s1 hL.1 hl'))
  · exact hs.elim
theorem Ev.ldc {idx : Nat} {z : Int} (hw : Cond.constant (sm_RC M.2.2.2.2.1) idx (Int32.ofInt z) ∈ sm_Tg) (hd : decode M.2.1 pc = .ok (.ldc idx, 2)) (hs : sx_ldc z lv st h Q) (kk : ∀ lv' st' h', Q lv' st' h' → Ev l d M (pc + 2) lv' st' h' uc us rr) : Ev l d M pc lv st h uc us rr := by
  intro base sa cy D p e s m args below meth c H locs ls C hWd hz hS hL
  have C0 := C
  obtain ⟨hx, hb, hml, hret, hlocks, hts, hown, hnm, hbs, hK, hSx⟩ := C
  exact lv_ldc hx hb hown (hts _ hw) hd (kk _ _ _ hs base sa cy D p e s m args below meth c H locs ls C0 hWd hz hS hL)
theorem Ev.ldc_w {idx : Nat} {z : Int} (hw : Cond.constant (sm_RC M.2.2.2.2.1) idx (Int32.ofInt z) ∈ sm_Tg) (hd : decode M.2.1 pc = .ok (.ldc_w idx, 3)) (hs : sx_ldc_w z lv st h Q) (kk : ∀ lv' st' h', Q lv' st' h' → Ev l d M (pc + 3) lv' st' h' uc us rr) : Ev l d M pc lv st h uc us rr := by
  intro base sa cy D p e s m args below meth c H locs ls C hWd hz hS hL
  have C0 := C
  obtain ⟨hx, hb, hml, hret, hlocks, hts, hown, hnm, hbs, hK, hSx⟩ := C
  exact lv_ldcw hx hb hown (hts _ hw) hd (kk _ _ _ hs base sa cy D p e s m args below meth c H locs ls C0 hWd hz hS hL)
theorem Ev.ldc2_w {idx : Nat} {z : Int} (hw : Cond.constantLong (sm_RC M.2.2.2.2.1) idx (Int64.ofInt z) ∈ sm_Tg) (hd : decode M.2.1 pc = .ok (.ldc2_w idx, 3)) (hs : sx_ldc2_w z lv st h Q) (kk : ∀ lv' st' h', Q lv' st' h' → Ev l d M (pc + 3) lv' st' h' uc us rr) : Ev l d M pc lv st h uc us rr := by
  intro base sa cy D p e s m args below meth c H locs ls C hWd hz hS hL
  have C0 := C
  obtain ⟨hx, hb, hml, hret, hlocks, hts, hown, hnm, hbs, hK, hSx⟩ := C
  exact lv_ldc2 hx hb hown (hts _ hw) hd (kk _ _ _ hs base sa cy D p e s m args below meth c H locs ls C0 hWd hz hS hL)
end PLAIN
