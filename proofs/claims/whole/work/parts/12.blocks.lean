/-! BLOCKS of plain instructions -/
def sm_len (i : Instr) : Nat := match i with
  | .bipush _ => 2
  | .sipush _ => 3
  | .iload _ => 2
  | .lload _ => 2
  | .aload _ => 2
  | .istore _ => 2
  | .lstore _ => 2
  | .astore _ => 2
  | .iinc _ _ => 3
  | .ldc _ => 2
  | .ldc_w _ => 3
  | .ldc2_w _ => 3
  | .getfield _ => 3
  | .putfield _ => 3
  | .getstatic _ => 3
  | _ => 1
def sm_sx (o : Op) (lv : LV) (st : List Value) (h : SH) (Q : LV → List Value → SH → Prop) : Prop := match o.1 with
  | .iconst n => sx_iconst n lv st h Q
  | .lconst n => sx_lconst n lv st h Q
  | .iadd => sx_iadd lv st h Q
  | .isub => sx_isub lv st h Q
  | .imul => sx_imul lv st h Q
  | .iand => sx_iand lv st h Q
  | .ior => sx_ior lv st h Q
  | .ixor => sx_ixor lv st h Q
  | .ishl => sx_ishl lv st h Q
  | .ishr => sx_ishr lv st h Q
  | .iushr => sx_iushr lv st h Q
  | .ladd => sx_ladd lv st h Q
  | .lsub => sx_lsub lv st h Q
  | .lmul => sx_lmul lv st h Q
  | .land => sx_land lv st h Q
  | .idiv => sx_idiv lv st h Q
  | .irem => sx_irem lv st h Q
  | .ldiv => sx_ldiv lv st h Q
  | .lrem => sx_lrem lv st h Q
  | .ineg => sx_ineg lv st h Q
  | .i2l => sx_i2l lv st h Q
  | .l2i => sx_l2i lv st h Q
  | .i2b => sx_i2b lv st h Q
  | .i2c => sx_i2c lv st h Q
  | .lcmp => sx_lcmp lv st h Q
  | .dup => sx_dup lv st h Q
  | .pop => sx_pop lv st h Q
  | .dup2 => sx_dup2 lv st h Q
  | .laload => sx_laload lv st h Q
  | .iastore => sx_iastore lv st h Q
  | .bastore => sx_bastore lv st h Q
  | .castore => sx_castore lv st h Q
  | .lastore => sx_lastore lv st h Q
  | .arraylength => sx_arraylength lv st h Q
  | .bipush n => sx_bipush n lv st h Q
  | .sipush n => sx_sipush n lv st h Q
  | .iload_n n => sx_iload_n (n : Nat) lv st h Q
  | .iload i => sx_iload i lv st h Q
  | .istore_n n => sx_istore_n (n : Nat) lv st h Q
  | .istore i => sx_istore i lv st h Q
  | .lload_n n => sx_lload_n (n : Nat) lv st h Q
  | .lload i => sx_lload i lv st h Q
  | .lstore_n n => sx_lstore_n (n : Nat) lv st h Q
  | .lstore i => sx_lstore i lv st h Q
  | .aload_n n => sx_aload_n (n : Nat) lv st h Q
  | .aload i => sx_aload i lv st h Q
  | .astore_n n => sx_astore_n (n : Nat) lv st h Q
  | .astore i => sx_astore i lv st h Q
  | .iinc i n => sx_iinc i n lv st h Q
  | .ldc _ => sx_ldc o.2.1 lv st h Q
  | .ldc_w _ => sx_ldc_w o.2.1 lv st h Q
  | .ldc2_w _ => sx_ldc2_w o.2.1 lv st h Q
  | .getfield _ => sx_getfield o.2.2.1 o.2.2.2 lv st h Q
  | .putfield _ => sx_putfield o.2.2.1 o.2.2.2 lv st h Q
  | .getstatic _ => sx_getstatic o.2.2.2 lv st h Q
  | .iaload => sx_iaload o.2.2.2 lv st h Q
  | .baload => sx_baload o.2.2.2 lv st h Q
  | .caload => sx_caload o.2.2.2 lv st h Q
  | _ => False
def sm_lo (M : MI) (o : Op) : Prop := match o.1 with
  | .getfield idx => sm_fl M.2.2.2.2.1 idx o.2.2.1 o.2.2.2
  | .putfield idx => sm_fl M.2.2.2.2.1 idx o.2.2.1 o.2.2.2 ∧ ((sm_TC o.2.2.1 o.2.2.2).2.2.2 = false ∨ ((sm_TC o.2.2.1 o.2.2.2).2.2.2 = true ∧ M.1.name = "<init>" ∧ (sm_TC o.2.2.1 o.2.2.2).1 = sm_RC M.2.2.2.2.1))
  | .getstatic idx => sm_gl M.2.2.2.2.1 idx o.2.2.2
  | .ldc idx => Cond.constant (sm_RC M.2.2.2.2.1) idx (Int32.ofInt o.2.1) ∈ sm_Tg
  | .ldc_w idx => Cond.constant (sm_RC M.2.2.2.2.1) idx (Int32.ofInt o.2.1) ∈ sm_Tg
  | .ldc2_w idx => Cond.constantLong (sm_RC M.2.2.2.2.1) idx (Int64.ofInt o.2.1) ∈ sm_Tg
  | _ => True
theorem Ev.op {l : Launch} {d : Nat} {M : MI} {pc : Nat} {lv : LV} {st : List Value} {h : SH} {uc us : Nat} {rr : Option Value × SH} {Q : LV → List Value → SH → Prop} {o : Op} (hd : decode M.2.1 pc = .ok (o.1, sm_len o.1)) (hl : sm_lo M o) (hs : sm_sx o lv st h Q) (kk : ∀ lv' st' h', Q lv' st' h' → Ev l d M (pc + sm_len o.1) lv' st' h' uc us rr) : Ev l d M pc lv st h uc us rr := by
  obtain ⟨i, z, c, k⟩ := o
  cases i with
  | iconst n => exact Ev.iconst hd hs kk
  | lconst n => exact Ev.lconst hd hs kk
  | iadd => exact Ev.iadd hd hs kk
  | isub => exact Ev.isub hd hs kk
  | imul => exact Ev.imul hd hs kk
  | iand => exact Ev.iand hd hs kk
  | ior => exact Ev.ior hd hs kk
  | ixor => exact Ev.ixor hd hs kk
  | ishl => exact Ev.ishl hd hs kk
  | ishr => exact Ev.ishr hd hs kk
  | iushr => exact Ev.iushr hd hs kk
  | ladd => exact Ev.ladd hd hs kk
  | lsub => exact Ev.lsub hd hs kk
  | lmul => exact Ev.lmul hd hs kk
  | land => exact Ev.land hd hs kk
  | idiv => exact Ev.idiv hd hs kk
  | irem => exact Ev.irem hd hs kk
  | ldiv => exact Ev.ldiv hd hs kk
  | lrem => exact Ev.lrem hd hs kk
  | ineg => exact Ev.ineg hd hs kk
  | i2l => exact Ev.i2l hd hs kk
  | l2i => exact Ev.l2i hd hs kk
  | i2b => exact Ev.i2b hd hs kk
  | i2c => exact Ev.i2c hd hs kk
  | lcmp => exact Ev.lcmp hd hs kk
  | dup => exact Ev.dup hd hs kk
  | pop => exact Ev.pop hd hs kk
  | dup2 => exact Ev.dup2 hd hs kk
  | laload => exact Ev.laload hd hs kk
  | iastore => exact Ev.iastore hd hs kk
  | bastore => exact Ev.bastore hd hs kk
  | castore => exact Ev.castore hd hs kk
  | lastore => exact Ev.lastore hd hs kk
  | arraylength => exact Ev.arraylength hd hs kk
  | bipush n => exact Ev.bipush hd hs kk
  | sipush n => exact Ev.sipush hd hs kk
  | iload_n n => exact Ev.iload_n hd hs kk
  | iload i => exact Ev.iload hd hs kk
  | istore_n n => exact Ev.istore_n hd hs kk
  | istore i => exact Ev.istore hd hs kk
  | lload_n n => exact Ev.lload_n hd hs kk
  | lload i => exact Ev.lload hd hs kk
  | lstore_n n => exact Ev.lstore_n hd hs kk
  | lstore i => exact Ev.lstore hd hs kk
  | aload_n n => exact Ev.aload_n hd hs kk
  | aload i => exact Ev.aload hd hs kk
  | astore_n n => exact Ev.astore_n hd hs kk
  | astore i => exact Ev.astore hd hs kk
  | iinc i n => exact Ev.iinc hd hs kk
  | ldc idx => exact Ev.ldc hl hd hs kk
  | ldc_w idx => exact Ev.ldc_w hl hd hs kk
  | ldc2_w idx => exact Ev.ldc2_w hl hd hs kk
  | getfield idx => exact Ev.getfield hl hd hs kk
  | putfield idx => exact Ev.putfield hl.1 hl.2 hd hs kk
  | getstatic idx => exact Ev.getstatic hl hd hs kk
  | iaload => exact Ev.iaload hd hs kk
  | baload => exact Ev.baload hd hs kk
  | caload => exact Ev.caload hd hs kk
  | _ => exact False.elim hs
def sm_dk (code : ByteArray) : Nat → List Op → Bool
  | _, [] => true
  | pc, o :: r => decide (decode code pc = .ok (o.1, sm_len o.1)) && sm_dk code (pc + sm_len o.1) r
def sm_lk (M : MI) : List Op → Prop
  | [] => True
  | o :: r => (match o.1 with
    | .getfield _ => sm_lo M o ∧ sm_lk M r
    | .putfield _ => sm_lo M o ∧ sm_lk M r
    | .getstatic _ => sm_lo M o ∧ sm_lk M r
    | .ldc _ => sm_lo M o ∧ sm_lk M r
    | .ldc_w _ => sm_lo M o ∧ sm_lk M r
    | .ldc2_w _ => sm_lo M o ∧ sm_lk M r
    | _ => sm_lk M r)
def sm_end : Nat → List Op → Nat
  | pc, [] => pc
  | pc, o :: r => sm_end (pc + sm_len o.1) r
def sm_xb : List Op → LV → List Value → SH → (LV → List Value → SH → Prop) → Prop
  | [], lv, st, h, Q => Q lv st h
  | o :: r, lv, st, h, Q => sm_sx o lv st h (fun lv st h => sm_xb r lv st h Q)
theorem sm_lk_split {M : MI} {o : Op} {r : List Op} (h : sm_lk M (o :: r)) : sm_lo M o ∧ sm_lk M r := by
  obtain ⟨i, z, c, k⟩ := o
  cases i <;> first | exact h | exact ⟨trivial, h⟩
theorem Ev.blk {l : Launch} {d : Nat} {M : MI} {uc us : Nat} {rr : Option Value × SH} {pc' : Nat} : ∀ (ops : List Op) {pc : Nat} {lv : LV} {st : List Value} {h : SH}, sm_dk M.2.1 pc ops = true → sm_lk M ops → sm_end pc ops = pc' → sm_xb ops lv st h (fun lv st h => Ev l d M pc' lv st h uc us rr) → Ev l d M pc lv st h uc us rr := by
  intro ops
  induction ops with
  | nil =>
    intro pc lv st h _ _ he hx
    subst he
    exact hx
  | cons o r ih =>
    intro pc lv st h hd hl he hx
    simp only [sm_dk, Bool.and_eq_true, decide_eq_true_eq] at hd
    obtain ⟨h1, h2⟩ := sm_lk_split hl
    exact Ev.op hd.1 h1 hx (fun lv' st' h' q => ih hd.2 h2 he q)
