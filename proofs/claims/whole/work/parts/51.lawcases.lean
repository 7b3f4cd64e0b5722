/-! THE LAW: its walk, over what the calls answer -/
theorem kL_13 : Cond.methodLink (sm_RC 17) 13 (mi_X9_feed).1 ∈ sm_Tg := sg_2 (i := 188) rfl rfl
theorem kL_17 : Cond.methodLink (sm_RC 17) 17 (mi_X10_feed).1 ∈ sm_Tg := sg_7 (i := 84) rfl rfl
theorem kL_18 : Cond.methodLink (sm_RC 17) 18 (mi_X9_end).1 ∈ sm_Tg := sg_2 (i := 200) rfl rfl
theorem kL_22 : Cond.methodLink (sm_RC 17) 22 (mi_X10_end).1 ∈ sm_Tg := sg_7 (i := 88) rfl rfl
theorem kL_23 : Cond.methodLink (sm_RC 17) 23 (mi_X9_board).1 ∈ sm_Tg := sg_2 (i := 204) rfl rfl
theorem kL_27 : Cond.methodLink (sm_RC 17) 27 (mi_X10_board).1 ∈ sm_Tg := sg_7 (i := 92) rfl rfl
theorem kL_28 : Cond.methodLink (sm_RC 17) 28 (mi_X9_fault).1 ∈ sm_Tg := sg_3 (i := 183) rfl rfl
theorem kL_32 : Cond.methodLink (sm_RC 17) 32 (mi_X10_fault).1 ∈ sm_Tg := sg_8 (i := 14) rfl rfl
theorem kL_33 : Cond.methodLink (sm_RC 17) 33 (mi_X9_has).1 ∈ sm_Tg := sg_3 (i := 187) rfl rfl
theorem kL_36 : Cond.methodLink (sm_RC 17) 36 (mi_X10_has).1 ∈ sm_Tg := sg_8 (i := 18) rfl rfl
theorem kL_37 : Cond.methodLink (sm_RC 17) 37 (mi_X9_letter).1 ∈ sm_Tg := sg_4 (i := 4) rfl rfl
theorem kL_41 : Cond.methodLink (sm_RC 17) 41 (mi_X10_letter).1 ∈ sm_Tg := sg_8 (i := 103) rfl rfl
theorem kL_42 : Cond.methodLink (sm_RC 17) 42 (mi_X9_kind).1 ∈ sm_Tg := sg_4 (i := 11) rfl rfl
theorem kL_46 : Cond.methodLink (sm_RC 17) 46 (mi_X10_kind).1 ∈ sm_Tg := sg_8 (i := 109) rfl rfl
theorem kL_47 : Cond.methodLink (sm_RC 17) 47 (mi_X9_man).1 ∈ sm_Tg := sg_4 (i := 15) rfl rfl
theorem kL_50 : Cond.methodLink (sm_RC 17) 50 (mi_X10_man).1 ∈ sm_Tg := sg_8 (i := 114) rfl rfl
theorem kL_51 : Cond.methodLink (sm_RC 17) 51 (mi_X9_field).1 ∈ sm_Tg := sg_4 (i := 21) rfl rfl
theorem kL_54 : Cond.methodLink (sm_RC 17) 54 (mi_X10_field).1 ∈ sm_Tg := sg_8 (i := 122) rfl rfl
theorem kL_55 : Cond.methodLink (sm_RC 17) 55 (mi_X9_at).1 ∈ sm_Tg := sg_4 (i := 29) rfl rfl
theorem kL_58 : Cond.methodLink (sm_RC 17) 58 (mi_X10_at).1 ∈ sm_Tg := sg_8 (i := 130) rfl rfl
theorem kL_59 : Cond.methodLink (sm_RC 17) 59 (mi_X9_option).1 ∈ sm_Tg := sg_4 (i := 37) rfl rfl
theorem kL_62 : Cond.methodLink (sm_RC 17) 62 (mi_X10_option).1 ∈ sm_Tg := sg_8 (i := 134) rfl rfl
theorem kL_63 : Cond.methodLink (sm_RC 17) 63 (mi_X9_kept).1 ∈ sm_Tg := sg_4 (i := 89) rfl rfl
theorem kL_66 : Cond.methodLink (sm_RC 17) 66 (mi_X10_kept).1 ∈ sm_Tg := sg_8 (i := 155) rfl rfl
theorem kL_67 : Cond.methodLink (sm_RC 17) 67 (mi_X9_balance).1 ∈ sm_Tg := sg_4 (i := 100) rfl rfl
theorem kL_71 : Cond.methodLink (sm_RC 17) 71 (mi_X10_balance).1 ∈ sm_Tg := sg_8 (i := 159) rfl rfl
theorem kL_72 : Cond.methodLink (sm_RC 17) 72 (mi_X9_value).1 ∈ sm_Tg := sg_4 (i := 112) rfl rfl
theorem kL_75 : Cond.methodLink (sm_RC 17) 75 (mi_X10_value).1 ∈ sm_Tg := sg_8 (i := 172) rfl rfl
theorem kL_76 : Cond.methodLink (sm_RC 17) 76 (mi_X9_best).1 ∈ sm_Tg := sg_4 (i := 135) rfl rfl
theorem kL_79 : Cond.methodLink (sm_RC 17) 79 (mi_X10_best).1 ∈ sm_Tg := sg_8 (i := 196) rfl rfl
theorem kL_80 : Cond.methodLink (sm_RC 17) 80 (mi_X9_forced).1 ∈ sm_Tg := sg_4 (i := 147) rfl rfl
theorem kL_83 : Cond.methodLink (sm_RC 17) 83 (mi_X10_forced).1 ∈ sm_Tg := sg_8 (i := 204) rfl rfl
theorem kL_84 : Cond.methodLink (sm_RC 17) 84 (mi_X9_later).1 ∈ sm_Tg := sg_4 (i := 163) rfl rfl
theorem kL_87 : Cond.methodLink (sm_RC 17) 87 (mi_X10_later).1 ∈ sm_Tg := sg_8 (i := 216) rfl rfl
theorem kL_88 : Cond.methodLink (sm_RC 17) 88 (mi_X9_crop).1 ∈ sm_Tg := sg_4 (i := 239) rfl rfl
theorem kL_91 : Cond.methodLink (sm_RC 17) 91 (mi_X10_crop).1 ∈ sm_Tg := sg_9 (i := 40) rfl rfl
theorem kL_92 : Cond.methodLink (sm_RC 17) 92 (mi_X9_spare).1 ∈ sm_Tg := sg_5 (i := 3) rfl rfl
theorem kL_95 : Cond.methodLink (sm_RC 17) 95 (mi_X10_spare).1 ∈ sm_Tg := sg_9 (i := 44) rfl rfl
theorem kL_96 : Cond.methodLink (sm_RC 17) 96 (mi_X9_sow).1 ∈ sm_Tg := sg_5 (i := 9) rfl rfl
theorem kL_99 : Cond.methodLink (sm_RC 17) 99 (mi_X10_sow).1 ∈ sm_Tg := sg_9 (i := 52) rfl rfl
theorem kL_100 : Cond.methodLink (sm_RC 17) 100 (mi_X9_deeper).1 ∈ sm_Tg := sg_5 (i := 32) rfl rfl
theorem kL_104 : Cond.methodLink (sm_RC 17) 104 (mi_X10_deeper).1 ∈ sm_Tg := sg_9 (i := 62) rfl rfl
theorem kL_105 : Cond.methodLink (sm_RC 17) 105 (mi_X9_see).1 ∈ sm_Tg := sg_5 (i := 36) rfl rfl
theorem kL_108 : Cond.methodLink (sm_RC 17) 108 (mi_X10_see).1 ∈ sm_Tg := sg_9 (i := 66) rfl rfl
theorem kL_109 : Cond.methodLink (sm_RC 17) 109 (mi_X9_played).1 ∈ sm_Tg := sg_5 (i := 46) rfl rfl
theorem kL_112 : Cond.methodLink (sm_RC 17) 112 (mi_X10_played).1 ∈ sm_Tg := sg_9 (i := 74) rfl rfl
theorem kL_113 : Cond.methodLink (sm_RC 17) 113 (mi_X9_reached).1 ∈ sm_Tg := sg_5 (i := 54) rfl rfl
theorem kL_116 : Cond.methodLink (sm_RC 17) 116 (mi_X10_reached).1 ∈ sm_Tg := sg_9 (i := 82) rfl rfl
theorem kL_117 : Cond.methodLink (sm_RC 17) 117 (mi_X9_play).1 ∈ sm_Tg := sg_5 (i := 71) rfl rfl
theorem kL_120 : Cond.methodLink (sm_RC 17) 120 (mi_X10_play).1 ∈ sm_Tg := sg_9 (i := 110) rfl rfl
theorem kL_121 : Cond.methodLink (sm_RC 17) 121 (mi_X9_tend).1 ∈ sm_Tg := sg_5 (i := 88) rfl rfl
theorem kL_124 : Cond.methodLink (sm_RC 17) 124 (mi_X10_tend).1 ∈ sm_Tg := sg_9 (i := 118) rfl rfl
theorem kL_125 : Cond.methodLink (sm_RC 17) 125 (mi_X9_days).1 ∈ sm_Tg := sg_5 (i := 92) rfl rfl
theorem kL_128 : Cond.methodLink (sm_RC 17) 128 (mi_X10_days).1 ∈ sm_Tg := sg_9 (i := 123) rfl rfl
theorem kL_129 : Cond.methodLink (sm_RC 17) 129 (mi_X9_chance).1 ∈ sm_Tg := sg_5 (i := 96) rfl rfl
theorem kL_132 : Cond.methodLink (sm_RC 17) 132 (mi_X10_chance).1 ∈ sm_Tg := sg_9 (i := 131) rfl rfl
theorem kL_133 : Cond.methodLink (sm_RC 17) 133 (mi_X9_undo).1 ∈ sm_Tg := sg_5 (i := 107) rfl rfl
theorem kL_137 : Cond.methodLink (sm_RC 17) 137 (mi_X10_undo).1 ∈ sm_Tg := sg_9 (i := 106) rfl rfl
theorem kL_138 : Cond.methodLink (sm_RC 17) 138 (mi_X9_seed).1 ∈ sm_Tg := sg_5 (i := 116) rfl rfl
theorem kL_141 : Cond.methodLink (sm_RC 17) 141 (mi_X10_seed).1 ∈ sm_Tg := sg_9 (i := 127) rfl rfl
theorem kL_142 : Cond.methodLink (sm_RC 17) 142 (mi_X9_ask).1 ∈ sm_Tg := sg_5 (i := 120) rfl rfl
theorem kL_146 : Cond.methodLink (sm_RC 17) 146 (mi_X10_ask).1 ∈ sm_Tg := sg_9 (i := 143) rfl rfl
theorem kL_147 : Cond.methodLink (sm_RC 17) 147 (mi_X9_image).1 ∈ sm_Tg := sg_5 (i := 153) rfl rfl
theorem kL_150 : Cond.methodLink (sm_RC 17) 150 (mi_X10_image).1 ∈ sm_Tg := sg_9 (i := 184) rfl rfl
theorem kL_151 : Cond.methodLink (sm_RC 17) 151 (mi_X9_octet).1 ∈ sm_Tg := sg_5 (i := 168) rfl rfl
theorem kL_154 : Cond.methodLink (sm_RC 17) 154 (mi_X10_octet).1 ∈ sm_Tg := sg_9 (i := 195) rfl rfl
theorem kL_155 : Cond.methodLink (sm_RC 17) 155 (mi_X9_on).1 ∈ sm_Tg := sg_5 (i := 172) rfl rfl
theorem kL_158 : Cond.methodLink (sm_RC 17) 158 (mi_X10_on).1 ∈ sm_Tg := sg_9 (i := 199) rfl rfl
theorem kL_159 : Cond.methodLink (sm_RC 17) 159 (mi_X9_status).1 ∈ sm_Tg := sg_5 (i := 185) rfl rfl
theorem kL_162 : Cond.methodLink (sm_RC 17) 162 (mi_X10_status).1 ∈ sm_Tg := sg_9 (i := 207) rfl rfl
theorem kLx_7 : Cond.classLink (sm_RC 17) 7 (sm_RC 9) ∈ sm_Tg := sg_1 (i := 20) rfl rfl
theorem kLx_10 : Cond.classLink (sm_RC 17) 10 (sm_RC 10) ∈ sm_Tg := sg_5 (i := 189) rfl rfl
theorem kL_9 : Cond.methodLink (sm_RC 17) 9 (mi_X9_init).1 ∈ sm_Tg := sg_1 (i := 22) rfl rfl
theorem kL_12 : Cond.methodLink (sm_RC 17) 12 (mi_X10_init).1 ∈ sm_Tg := sg_5 (i := 191) rfl rfl
/-- what the pure part must give: from Inv i, every call of both answers alike, to Inv (i + 1) -/
def ok_feed (Inv : Nat → ST → Prop) (i : Nat) : Prop := (∀ (s : ST) (a1 a2 a3 a4 a5 : Int32), Inv i s → ∃ (r : Int32) (s1 s2 : ST), f_X9_feed a1 a2 a3 a4 a5 s = some (r, s1) ∧ f_X10_feed a1 a2 a3 a4 a5 s1 = some (r, s2) ∧ Inv (i + 1) s2)
def ok_end (Inv : Nat → ST → Prop) (i : Nat) : Prop := (∀ (s : ST) (a1 : Int32), Inv i s → ∃ (r : Int32) (s1 s2 : ST), f_X9_end a1 s = some (r, s1) ∧ f_X10_end a1 s1 = some (r, s2) ∧ Inv (i + 1) s2)
def ok_board (Inv : Nat → ST → Prop) (i : Nat) : Prop := (∀ (s : ST), Inv i s → ∃ (r : Int32) (s1 s2 : ST), f_X9_board s = some (r, s1) ∧ f_X10_board s1 = some (r, s2) ∧ Inv (i + 1) s2)
def ok_fault (Inv : Nat → ST → Prop) (i : Nat) : Prop := (∀ (s : ST) (a1 : Int32), Inv i s → ∃ (r : Int32) (s1 s2 : ST), f_X9_fault a1 s = some (r, s1) ∧ f_X10_fault a1 s1 = some (r, s2) ∧ Inv (i + 1) s2)
def ok_has (Inv : Nat → ST → Prop) (i : Nat) : Prop := (∀ (s : ST) (a1 : Int32), Inv i s → ∃ (r : Int32) (s1 s2 : ST), f_X9_has a1 s = some (r, s1) ∧ f_X10_has a1 s1 = some (r, s2) ∧ Inv (i + 1) s2)
def ok_letter (Inv : Nat → ST → Prop) (i : Nat) : Prop := (∀ (s : ST) (a1 a2 a3 : Int32), Inv i s → ∃ (r : Int32) (s1 s2 : ST), f_X9_letter a1 a2 a3 s = some (r, s1) ∧ f_X10_letter a1 a2 a3 s1 = some (r, s2) ∧ Inv (i + 1) s2)
def ok_kind (Inv : Nat → ST → Prop) (i : Nat) : Prop := (∀ (s : ST) (a1 a2 : Int32), Inv i s → ∃ (r : Int32) (s1 s2 : ST), f_X9_kind a1 a2 s = some (r, s1) ∧ f_X10_kind a1 a2 s1 = some (r, s2) ∧ Inv (i + 1) s2)
def ok_man (Inv : Nat → ST → Prop) (i : Nat) : Prop := (∀ (s : ST) (a1 a2 : Int32), Inv i s → ∃ (r : Int32) (s1 s2 : ST), f_X9_man a1 a2 s = some (r, s1) ∧ f_X10_man a1 a2 s1 = some (r, s2) ∧ Inv (i + 1) s2)
def ok_field (Inv : Nat → ST → Prop) (i : Nat) : Prop := (∀ (s : ST) (a1 a2 : Int32), Inv i s → ∃ (r : Int32) (s1 s2 : ST), f_X9_field a1 a2 s = some (r, s1) ∧ f_X10_field a1 a2 s1 = some (r, s2) ∧ Inv (i + 1) s2)
def ok_at (Inv : Nat → ST → Prop) (i : Nat) : Prop := (∀ (s : ST) (a1 a2 : Int32), Inv i s → ∃ (r : Int32) (s1 s2 : ST), f_X9_at a1 a2 s = some (r, s1) ∧ f_X10_at a1 a2 s1 = some (r, s2) ∧ Inv (i + 1) s2)
def ok_option (Inv : Nat → ST → Prop) (i : Nat) : Prop := (∀ (s : ST) (a1 a2 : Int32), Inv i s → ∃ (r : Int32) (s1 s2 : ST), f_X9_option a1 a2 s = some (r, s1) ∧ f_X10_option a1 a2 s1 = some (r, s2) ∧ Inv (i + 1) s2)
def ok_kept (Inv : Nat → ST → Prop) (i : Nat) : Prop := (∀ (s : ST) (a1 a2 : Int32), Inv i s → ∃ (r : Int32) (s1 s2 : ST), f_X9_kept a1 a2 s = some (r, s1) ∧ f_X10_kept a1 a2 s1 = some (r, s2) ∧ Inv (i + 1) s2)
def ok_balance (Inv : Nat → ST → Prop) (i : Nat) : Prop := (∀ (s : ST) (a1 : Int32), Inv i s → ∃ (r : Int64) (s1 s2 : ST), f_X9_balance a1 s = some (r, s1) ∧ f_X10_balance a1 s1 = some (r, s2) ∧ Inv (i + 1) s2)
def ok_value (Inv : Nat → ST → Prop) (i : Nat) : Prop := (∀ (s : ST) (a1 : Int32), Inv i s → ∃ (r : Int64) (s1 s2 : ST), f_X9_value a1 s = some (r, s1) ∧ f_X10_value a1 s1 = some (r, s2) ∧ Inv (i + 1) s2)
def ok_best (Inv : Nat → ST → Prop) (i : Nat) : Prop := (∀ (s : ST) (a1 : Int32), Inv i s → ∃ (r : Int32) (s1 s2 : ST), f_X9_best a1 s = some (r, s1) ∧ f_X10_best a1 s1 = some (r, s2) ∧ Inv (i + 1) s2)
def ok_forced (Inv : Nat → ST → Prop) (i : Nat) : Prop := (∀ (s : ST), Inv i s → ∃ (r : Int32) (s1 s2 : ST), f_X9_forced s = some (r, s1) ∧ f_X10_forced s1 = some (r, s2) ∧ Inv (i + 1) s2)
def ok_later (Inv : Nat → ST → Prop) (i : Nat) : Prop := (∀ (s : ST) (a1 a2 : Int32), Inv i s → ∃ (r : Int32) (s1 s2 : ST), f_X9_later a1 a2 s = some (r, s1) ∧ f_X10_later a1 a2 s1 = some (r, s2) ∧ Inv (i + 1) s2)
def ok_crop (Inv : Nat → ST → Prop) (i : Nat) : Prop := (∀ (s : ST) (a1 a2 : Int32), Inv i s → ∃ (r : Int32) (s1 s2 : ST), f_X9_crop a1 a2 s = some (r, s1) ∧ f_X10_crop a1 a2 s1 = some (r, s2) ∧ Inv (i + 1) s2)
def ok_spare (Inv : Nat → ST → Prop) (i : Nat) : Prop := (∀ (s : ST) (a1 a2 a3 : Int32), Inv i s → ∃ (r : Int32) (s1 s2 : ST), f_X9_spare a1 a2 a3 s = some (r, s1) ∧ f_X10_spare a1 a2 a3 s1 = some (r, s2) ∧ Inv (i + 1) s2)
def ok_sow (Inv : Nat → ST → Prop) (i : Nat) : Prop := (∀ (s : ST) (a1 a2 : Int32), Inv i s → ∃ (r : Int32) (s1 s2 : ST), f_X9_sow a1 a2 s = some (r, s1) ∧ f_X10_sow a1 a2 s1 = some (r, s2) ∧ Inv (i + 1) s2)
def ok_deeper (Inv : Nat → ST → Prop) (i : Nat) : Prop := (∀ (s : ST) (a1 a2 a3 : Int32), Inv i s → ∃ (r : Int64) (s1 s2 : ST), f_X9_deeper a1 a2 a3 s = some (r, s1) ∧ f_X10_deeper a1 a2 a3 s1 = some (r, s2) ∧ Inv (i + 1) s2)
def ok_see (Inv : Nat → ST → Prop) (i : Nat) : Prop := (∀ (s : ST), Inv i s → ∃ (r : Int32) (s1 s2 : ST), f_X9_see s = some (r, s1) ∧ f_X10_see s1 = some (r, s2) ∧ Inv (i + 1) s2)
def ok_played (Inv : Nat → ST → Prop) (i : Nat) : Prop := (∀ (s : ST) (a1 : Int32), Inv i s → ∃ (r : Int32) (s1 s2 : ST), f_X9_played a1 s = some (r, s1) ∧ f_X10_played a1 s1 = some (r, s2) ∧ Inv (i + 1) s2)
def ok_reached (Inv : Nat → ST → Prop) (i : Nat) : Prop := (∀ (s : ST) (a1 : Int32), Inv i s → ∃ (r : Int32) (s1 s2 : ST), f_X9_reached a1 s = some (r, s1) ∧ f_X10_reached a1 s1 = some (r, s2) ∧ Inv (i + 1) s2)
def ok_play (Inv : Nat → ST → Prop) (i : Nat) : Prop := (∀ (s : ST) (a1 : Int32), Inv i s → ∃ (r : Int32) (s1 s2 : ST), f_X9_play a1 s = some (r, s1) ∧ f_X10_play a1 s1 = some (r, s2) ∧ Inv (i + 1) s2)
def ok_tend (Inv : Nat → ST → Prop) (i : Nat) : Prop := (∀ (s : ST) (a1 a2 : Int32), Inv i s → ∃ (r : Int32) (s1 s2 : ST), f_X9_tend a1 a2 s = some (r, s1) ∧ f_X10_tend a1 a2 s1 = some (r, s2) ∧ Inv (i + 1) s2)
def ok_days (Inv : Nat → ST → Prop) (i : Nat) : Prop := (∀ (s : ST) (a1 : Int32), Inv i s → ∃ (r : Int32) (s1 s2 : ST), f_X9_days a1 s = some (r, s1) ∧ f_X10_days a1 s1 = some (r, s2) ∧ Inv (i + 1) s2)
def ok_chance (Inv : Nat → ST → Prop) (i : Nat) : Prop := (∀ (s : ST) (a1 : Int32), Inv i s → ∃ (r : Int32) (s1 s2 : ST), f_X9_chance a1 s = some (r, s1) ∧ f_X10_chance a1 s1 = some (r, s2) ∧ Inv (i + 1) s2)
def ok_undo (Inv : Nat → ST → Prop) (i : Nat) : Prop := (∀ (s : ST), Inv i s → ∃ (r : Int32) (s1 s2 : ST), f_X9_undo s = some (r, s1) ∧ f_X10_undo s1 = some (r, s2) ∧ Inv (i + 1) s2)
def ok_seed (Inv : Nat → ST → Prop) (i : Nat) : Prop := (∀ (s : ST) (a1 : Int32), Inv i s → ∃ (r : Int32) (s1 s2 : ST), f_X9_seed a1 s = some (r, s1) ∧ f_X10_seed a1 s1 = some (r, s2) ∧ Inv (i + 1) s2)
def ok_ask (Inv : Nat → ST → Prop) (i : Nat) : Prop := (∀ (s : ST), Inv i s → ∃ (r : Int64) (s1 s2 : ST), f_X9_ask s = some (r, s1) ∧ f_X10_ask s1 = some (r, s2) ∧ Inv (i + 1) s2)
def ok_image (Inv : Nat → ST → Prop) (i : Nat) : Prop := (∀ (s : ST), Inv i s → ∃ (r : Int32) (s1 s2 : ST), f_X9_image s = some (r, s1) ∧ f_X10_image s1 = some (r, s2) ∧ Inv (i + 1) s2)
def ok_octet (Inv : Nat → ST → Prop) (i : Nat) : Prop := (∀ (s : ST) (a1 : Int32), Inv i s → ∃ (r : Int32) (s1 s2 : ST), f_X9_octet a1 s = some (r, s1) ∧ f_X10_octet a1 s1 = some (r, s2) ∧ Inv (i + 1) s2)
def ok_on (Inv : Nat → ST → Prop) (i : Nat) : Prop := (∀ (s : ST), Inv i s → ∃ (r : Int32) (s1 s2 : ST), f_X9_on s = some (r, s1) ∧ f_X10_on s1 = some (r, s2) ∧ Inv (i + 1) s2)
def ok_status (Inv : Nat → ST → Prop) (i : Nat) : Prop := (∀ (s : ST) (a1 : Int32), Inv i s → ∃ (r : Int32) (s1 s2 : ST), f_X9_status a1 s = some (r, s1) ∧ f_X10_status a1 s1 = some (r, s2) ∧ Inv (i + 1) s2)
def okAll (Inv : Nat → ST → Prop) (i : Nat) : Prop := ok_feed Inv i ∧ ok_end Inv i ∧ ok_board Inv i ∧ ok_fault Inv i ∧ ok_has Inv i ∧ ok_letter Inv i ∧ ok_kind Inv i ∧ ok_man Inv i ∧ ok_field Inv i ∧ ok_at Inv i ∧ ok_option Inv i ∧ ok_kept Inv i ∧ ok_balance Inv i ∧ ok_value Inv i ∧ ok_best Inv i ∧ ok_forced Inv i ∧ ok_later Inv i ∧ ok_crop Inv i ∧ ok_spare Inv i ∧ ok_sow Inv i ∧ ok_deeper Inv i ∧ ok_see Inv i ∧ ok_played Inv i ∧ ok_reached Inv i ∧ ok_play Inv i ∧ ok_tend Inv i ∧ ok_days Inv i ∧ ok_chance Inv i ∧ ok_undo Inv i ∧ ok_seed Inv i ∧ ok_ask Inv i ∧ ok_image Inv i ∧ ok_octet Inv i ∧ ok_on Inv i ∧ ok_status Inv i
theorem lw_idx {k j L : Nat} (h : 6 * k + 6 ≤ L) (hj : j < 6) (hL : L ≤ 3072) : vp_in (nI (6 * k) + nI j) L ∧ (nI (6 * k) + nI j).toNatClampNeg = 6 * k + j := by
  rw [nI_add]
  exact ⟨vp_in_nI (by omega) (by omega), nI_clamp (by omega)⟩
set_option maxHeartbeats 2000000 in
set_option maxRecDepth 20000 in
theorem lc_feed {l : Launch} {b L : Nat} {xs : Nat → Int32} {Inv : Nat → ST → Prop} {k : Nat} (hL : L ≤ 3072) (hk : 6 * k + 6 ≤ L) (hok : ok_feed Inv k) (ih : ∀ s : ST, Inv (k + 1) s → LW l b L xs 1127 [some (.ref 1000007), some (.ref 0), some (.ref 65), some (.int (nI (6 * k)))] [] (hp s) 150 23754) (s : ST) (hI : Inv k s) : LW l b L xs 188 [some (.ref 1000007), some (.ref 0), some (.ref 65), some (.int (nI (6 * k)))] [] (hp s) 150 23754 := by
  obtain ⟨r, s1, s2, h1, h2, hI2⟩ := hok s (xs (6 * k + 1)) (xs (6 * k + 2)) (xs (6 * k + 3)) (xs (6 * k + 4)) (xs (6 * k + 5)) hI
  refine LW.blk (pc' := 193) [(.aload_n 1, 0, 0, 0), (.aload_n 0, 0, 0, 0), (.iload_n 3, 0, 0, 0), (.iconst 1, 0, 0, 0), (.iadd, 0, 0, 0)] (by decide +kernel) trivial rfl ?_
  show LW l b L xs 193 [some (.ref 1000007), some (.ref 0), some (.ref 65), some (.int (nI (6 * k)))] [.int (nI (6 * k) + Int32.ofInt 1), .ref 1000007, .ref 0] (hp s) 150 23754
  refine LW.scrLd (i := nI (6 * k) + Int32.ofInt 1) (lw_idx (j := 1) hk (by decide) hL).1 (by decide +kernel) ?_
  rw [show (nI (6 * k) + Int32.ofInt 1).toNatClampNeg = 6 * k + 1 from (lw_idx (j := 1) hk (by decide) hL).2]
  show LW l b L xs 194 [some (.ref 1000007), some (.ref 0), some (.ref 65), some (.int (nI (6 * k)))] [.int (xs (6 * k + 1)), .ref 0] (hp s) 150 23754
  refine LW.blk (pc' := 198) [(.aload_n 0, 0, 0, 0), (.iload_n 3, 0, 0, 0), (.iconst 2, 0, 0, 0), (.iadd, 0, 0, 0)] (by decide +kernel) trivial rfl ?_
  show LW l b L xs 198 [some (.ref 1000007), some (.ref 0), some (.ref 65), some (.int (nI (6 * k)))] [.int (nI (6 * k) + Int32.ofInt 2), .ref 1000007, .int (xs (6 * k + 1)), .ref 0] (hp s) 150 23754
  refine LW.scrLd (i := nI (6 * k) + Int32.ofInt 2) (lw_idx (j := 2) hk (by decide) hL).1 (by decide +kernel) ?_
  rw [show (nI (6 * k) + Int32.ofInt 2).toNatClampNeg = 6 * k + 2 from (lw_idx (j := 2) hk (by decide) hL).2]
  show LW l b L xs 199 [some (.ref 1000007), some (.ref 0), some (.ref 65), some (.int (nI (6 * k)))] [.int (xs (6 * k + 2)), .int (xs (6 * k + 1)), .ref 0] (hp s) 150 23754
  refine LW.blk (pc' := 203) [(.aload_n 0, 0, 0, 0), (.iload_n 3, 0, 0, 0), (.iconst 3, 0, 0, 0), (.iadd, 0, 0, 0)] (by decide +kernel) trivial rfl ?_
  show LW l b L xs 203 [some (.ref 1000007), some (.ref 0), some (.ref 65), some (.int (nI (6 * k)))] [.int (nI (6 * k) + Int32.ofInt 3), .ref 1000007, .int (xs (6 * k + 2)), .int (xs (6 * k + 1)), .ref 0] (hp s) 150 23754
  refine LW.scrLd (i := nI (6 * k) + Int32.ofInt 3) (lw_idx (j := 3) hk (by decide) hL).1 (by decide +kernel) ?_
  rw [show (nI (6 * k) + Int32.ofInt 3).toNatClampNeg = 6 * k + 3 from (lw_idx (j := 3) hk (by decide) hL).2]
  show LW l b L xs 204 [some (.ref 1000007), some (.ref 0), some (.ref 65), some (.int (nI (6 * k)))] [.int (xs (6 * k + 3)), .int (xs (6 * k + 2)), .int (xs (6 * k + 1)), .ref 0] (hp s) 150 23754
  refine LW.blk (pc' := 208) [(.aload_n 0, 0, 0, 0), (.iload_n 3, 0, 0, 0), (.iconst 4, 0, 0, 0), (.iadd, 0, 0, 0)] (by decide +kernel) trivial rfl ?_
  show LW l b L xs 208 [some (.ref 1000007), some (.ref 0), some (.ref 65), some (.int (nI (6 * k)))] [.int (nI (6 * k) + Int32.ofInt 4), .ref 1000007, .int (xs (6 * k + 3)), .int (xs (6 * k + 2)), .int (xs (6 * k + 1)), .ref 0] (hp s) 150 23754
  refine LW.scrLd (i := nI (6 * k) + Int32.ofInt 4) (lw_idx (j := 4) hk (by decide) hL).1 (by decide +kernel) ?_
  rw [show (nI (6 * k) + Int32.ofInt 4).toNatClampNeg = 6 * k + 4 from (lw_idx (j := 4) hk (by decide) hL).2]
  show LW l b L xs 209 [some (.ref 1000007), some (.ref 0), some (.ref 65), some (.int (nI (6 * k)))] [.int (xs (6 * k + 4)), .int (xs (6 * k + 3)), .int (xs (6 * k + 2)), .int (xs (6 * k + 1)), .ref 0] (hp s) 150 23754
  refine LW.blk (pc' := 213) [(.aload_n 0, 0, 0, 0), (.iload_n 3, 0, 0, 0), (.iconst 5, 0, 0, 0), (.iadd, 0, 0, 0)] (by decide +kernel) trivial rfl ?_
  show LW l b L xs 213 [some (.ref 1000007), some (.ref 0), some (.ref 65), some (.int (nI (6 * k)))] [.int (nI (6 * k) + Int32.ofInt 5), .ref 1000007, .int (xs (6 * k + 4)), .int (xs (6 * k + 3)), .int (xs (6 * k + 2)), .int (xs (6 * k + 1)), .ref 0] (hp s) 150 23754
  refine LW.scrLd (i := nI (6 * k) + Int32.ofInt 5) (lw_idx (j := 5) hk (by decide) hL).1 (by decide +kernel) ?_
  rw [show (nI (6 * k) + Int32.ofInt 5).toNatClampNeg = 6 * k + 5 from (lw_idx (j := 5) hk (by decide) hL).2]
  show LW l b L xs 214 [some (.ref 1000007), some (.ref 0), some (.ref 65), some (.int (nI (6 * k)))] [.int (xs (6 * k + 5)), .int (xs (6 * k + 4)), .int (xs (6 * k + 3)), .int (xs (6 * k + 2)), .int (xs (6 * k + 1)), .ref 0] (hp s) 150 23754
  refine LW.callV (M' := mi_X9_feed) (o := 0) (d' := 1000) (As := [.int (xs (6 * k + 1)), .int (xs (6 * k + 2)), .int (xs (6 * k + 3)), .int (xs (6 * k + 4)), .int (xs (6 * k + 5))]) (rest := []) (r' := (some (.int r), hp s1)) (e_X9_feed (d := 1000) (by decide) (xs (6 * k + 1)) (xs (6 * k + 2)) (xs (6 * k + 3)) (xs (6 * k + 4)) (xs (6 * k + 5)) s (r, s1) h1) (Nat.le_refl _) wm_X9_feed wi_X9_feed wv_X9_feed kL_13 (kc rfl rfl) (Nat.le_of_ble_eq_true rfl) rfl rfl rfl (Nat.le_of_ble_eq_true rfl) ⟨Nat.le_of_ble_eq_true rfl, Nat.le_of_ble_eq_true rfl⟩ (by decide +kernel) ?_
  show LW l b L xs 217 [some (.ref 1000007), some (.ref 0), some (.ref 65), some (.int (nI (6 * k)))] [.int r] (hp s1) 150 23754
  refine LW.blk (pc' := 222) [(.aload_n 2, 0, 0, 0), (.aload_n 0, 0, 0, 0), (.iload_n 3, 0, 0, 0), (.iconst 1, 0, 0, 0), (.iadd, 0, 0, 0)] (by decide +kernel) trivial rfl ?_
  show LW l b L xs 222 [some (.ref 1000007), some (.ref 0), some (.ref 65), some (.int (nI (6 * k)))] [.int (nI (6 * k) + Int32.ofInt 1), .ref 1000007, .ref 65, .int r] (hp s1) 150 23754
  refine LW.scrLd (i := nI (6 * k) + Int32.ofInt 1) (lw_idx (j := 1) hk (by decide) hL).1 (by decide +kernel) ?_
  rw [show (nI (6 * k) + Int32.ofInt 1).toNatClampNeg = 6 * k + 1 from (lw_idx (j := 1) hk (by decide) hL).2]
  show LW l b L xs 223 [some (.ref 1000007), some (.ref 0), some (.ref 65), some (.int (nI (6 * k)))] [.int (xs (6 * k + 1)), .ref 65, .int r] (hp s1) 150 23754
  refine LW.blk (pc' := 227) [(.aload_n 0, 0, 0, 0), (.iload_n 3, 0, 0, 0), (.iconst 2, 0, 0, 0), (.iadd, 0, 0, 0)] (by decide +kernel) trivial rfl ?_
  show LW l b L xs 227 [some (.ref 1000007), some (.ref 0), some (.ref 65), some (.int (nI (6 * k)))] [.int (nI (6 * k) + Int32.ofInt 2), .ref 1000007, .int (xs (6 * k + 1)), .ref 65, .int r] (hp s1) 150 23754
  refine LW.scrLd (i := nI (6 * k) + Int32.ofInt 2) (lw_idx (j := 2) hk (by decide) hL).1 (by decide +kernel) ?_
  rw [show (nI (6 * k) + Int32.ofInt 2).toNatClampNeg = 6 * k + 2 from (lw_idx (j := 2) hk (by decide) hL).2]
  show LW l b L xs 228 [some (.ref 1000007), some (.ref 0), some (.ref 65), some (.int (nI (6 * k)))] [.int (xs (6 * k + 2)), .int (xs (6 * k + 1)), .ref 65, .int r] (hp s1) 150 23754
  refine LW.blk (pc' := 232) [(.aload_n 0, 0, 0, 0), (.iload_n 3, 0, 0, 0), (.iconst 3, 0, 0, 0), (.iadd, 0, 0, 0)] (by decide +kernel) trivial rfl ?_
  show LW l b L xs 232 [some (.ref 1000007), some (.ref 0), some (.ref 65), some (.int (nI (6 * k)))] [.int (nI (6 * k) + Int32.ofInt 3), .ref 1000007, .int (xs (6 * k + 2)), .int (xs (6 * k + 1)), .ref 65, .int r] (hp s1) 150 23754
  refine LW.scrLd (i := nI (6 * k) + Int32.ofInt 3) (lw_idx (j := 3) hk (by decide) hL).1 (by decide +kernel) ?_
  rw [show (nI (6 * k) + Int32.ofInt 3).toNatClampNeg = 6 * k + 3 from (lw_idx (j := 3) hk (by decide) hL).2]
  show LW l b L xs 233 [some (.ref 1000007), some (.ref 0), some (.ref 65), some (.int (nI (6 * k)))] [.int (xs (6 * k + 3)), .int (xs (6 * k + 2)), .int (xs (6 * k + 1)), .ref 65, .int r] (hp s1) 150 23754
  refine LW.blk (pc' := 237) [(.aload_n 0, 0, 0, 0), (.iload_n 3, 0, 0, 0), (.iconst 4, 0, 0, 0), (.iadd, 0, 0, 0)] (by decide +kernel) trivial rfl ?_
  show LW l b L xs 237 [some (.ref 1000007), some (.ref 0), some (.ref 65), some (.int (nI (6 * k)))] [.int (nI (6 * k) + Int32.ofInt 4), .ref 1000007, .int (xs (6 * k + 3)), .int (xs (6 * k + 2)), .int (xs (6 * k + 1)), .ref 65, .int r] (hp s1) 150 23754
  refine LW.scrLd (i := nI (6 * k) + Int32.ofInt 4) (lw_idx (j := 4) hk (by decide) hL).1 (by decide +kernel) ?_
  rw [show (nI (6 * k) + Int32.ofInt 4).toNatClampNeg = 6 * k + 4 from (lw_idx (j := 4) hk (by decide) hL).2]
  show LW l b L xs 238 [some (.ref 1000007), some (.ref 0), some (.ref 65), some (.int (nI (6 * k)))] [.int (xs (6 * k + 4)), .int (xs (6 * k + 3)), .int (xs (6 * k + 2)), .int (xs (6 * k + 1)), .ref 65, .int r] (hp s1) 150 23754
  refine LW.blk (pc' := 242) [(.aload_n 0, 0, 0, 0), (.iload_n 3, 0, 0, 0), (.iconst 5, 0, 0, 0), (.iadd, 0, 0, 0)] (by decide +kernel) trivial rfl ?_
  show LW l b L xs 242 [some (.ref 1000007), some (.ref 0), some (.ref 65), some (.int (nI (6 * k)))] [.int (nI (6 * k) + Int32.ofInt 5), .ref 1000007, .int (xs (6 * k + 4)), .int (xs (6 * k + 3)), .int (xs (6 * k + 2)), .int (xs (6 * k + 1)), .ref 65, .int r] (hp s1) 150 23754
  refine LW.scrLd (i := nI (6 * k) + Int32.ofInt 5) (lw_idx (j := 5) hk (by decide) hL).1 (by decide +kernel) ?_
  rw [show (nI (6 * k) + Int32.ofInt 5).toNatClampNeg = 6 * k + 5 from (lw_idx (j := 5) hk (by decide) hL).2]
  show LW l b L xs 243 [some (.ref 1000007), some (.ref 0), some (.ref 65), some (.int (nI (6 * k)))] [.int (xs (6 * k + 5)), .int (xs (6 * k + 4)), .int (xs (6 * k + 3)), .int (xs (6 * k + 2)), .int (xs (6 * k + 1)), .ref 65, .int r] (hp s1) 150 23754
  refine LW.callV (M' := mi_X10_feed) (o := 65) (d' := 1000) (As := [.int (xs (6 * k + 1)), .int (xs (6 * k + 2)), .int (xs (6 * k + 3)), .int (xs (6 * k + 4)), .int (xs (6 * k + 5))]) (rest := [.int r]) (r' := (some (.int r), hp s2)) (e_X10_feed (d := 1000) (by decide) (xs (6 * k + 1)) (xs (6 * k + 2)) (xs (6 * k + 3)) (xs (6 * k + 4)) (xs (6 * k + 5)) s1 (r, s2) h2) (Nat.le_refl _) wm_X10_feed wi_X10_feed wv_X10_feed kL_17 (kc rfl rfl) (Nat.le_of_ble_eq_true rfl) rfl rfl rfl (Nat.le_of_ble_eq_true rfl) ⟨Nat.le_of_ble_eq_true rfl, Nat.le_of_ble_eq_true rfl⟩ (by decide +kernel) ?_
  show LW l b L xs 246 [some (.ref 1000007), some (.ref 0), some (.ref 65), some (.int (nI (6 * k)))] [.int r, .int r] (hp s2) 150 23754
  refine LW.icmp_eq (off := 881) (tgt := 1127) (by decide +kernel) (by decide) (fun _ => ?_) (fun q => absurd rfl q)
  exact ih s2 hI2
set_option maxHeartbeats 2000000 in
set_option maxRecDepth 20000 in
theorem lc_end {l : Launch} {b L : Nat} {xs : Nat → Int32} {Inv : Nat → ST → Prop} {k : Nat} (hL : L ≤ 3072) (hk : 6 * k + 6 ≤ L) (hok : ok_end Inv k) (ih : ∀ s : ST, Inv (k + 1) s → LW l b L xs 1127 [some (.ref 1000007), some (.ref 0), some (.ref 65), some (.int (nI (6 * k)))] [] (hp s) 150 23754) (s : ST) (hI : Inv k s) : LW l b L xs 251 [some (.ref 1000007), some (.ref 0), some (.ref 65), some (.int (nI (6 * k)))] [] (hp s) 150 23754 := by
  obtain ⟨r, s1, s2, h1, h2, hI2⟩ := hok s (xs (6 * k + 1)) hI
  refine LW.blk (pc' := 256) [(.aload_n 1, 0, 0, 0), (.aload_n 0, 0, 0, 0), (.iload_n 3, 0, 0, 0), (.iconst 1, 0, 0, 0), (.iadd, 0, 0, 0)] (by decide +kernel) trivial rfl ?_
  show LW l b L xs 256 [some (.ref 1000007), some (.ref 0), some (.ref 65), some (.int (nI (6 * k)))] [.int (nI (6 * k) + Int32.ofInt 1), .ref 1000007, .ref 0] (hp s) 150 23754
  refine LW.scrLd (i := nI (6 * k) + Int32.ofInt 1) (lw_idx (j := 1) hk (by decide) hL).1 (by decide +kernel) ?_
  rw [show (nI (6 * k) + Int32.ofInt 1).toNatClampNeg = 6 * k + 1 from (lw_idx (j := 1) hk (by decide) hL).2]
  show LW l b L xs 257 [some (.ref 1000007), some (.ref 0), some (.ref 65), some (.int (nI (6 * k)))] [.int (xs (6 * k + 1)), .ref 0] (hp s) 150 23754
  refine LW.callV (M' := mi_X9_end) (o := 0) (d' := 1000) (As := [.int (xs (6 * k + 1))]) (rest := []) (r' := (some (.int r), hp s1)) (e_X9_end (d := 1000) (by decide) (xs (6 * k + 1)) s (r, s1) h1) (Nat.le_refl _) wm_X9_end wi_X9_end wv_X9_end kL_18 (kc rfl rfl) (Nat.le_of_ble_eq_true rfl) rfl rfl rfl (Nat.le_of_ble_eq_true rfl) ⟨Nat.le_of_ble_eq_true rfl, Nat.le_of_ble_eq_true rfl⟩ (by decide +kernel) ?_
  show LW l b L xs 260 [some (.ref 1000007), some (.ref 0), some (.ref 65), some (.int (nI (6 * k)))] [.int r] (hp s1) 150 23754
  refine LW.blk (pc' := 265) [(.aload_n 2, 0, 0, 0), (.aload_n 0, 0, 0, 0), (.iload_n 3, 0, 0, 0), (.iconst 1, 0, 0, 0), (.iadd, 0, 0, 0)] (by decide +kernel) trivial rfl ?_
  show LW l b L xs 265 [some (.ref 1000007), some (.ref 0), some (.ref 65), some (.int (nI (6 * k)))] [.int (nI (6 * k) + Int32.ofInt 1), .ref 1000007, .ref 65, .int r] (hp s1) 150 23754
  refine LW.scrLd (i := nI (6 * k) + Int32.ofInt 1) (lw_idx (j := 1) hk (by decide) hL).1 (by decide +kernel) ?_
  rw [show (nI (6 * k) + Int32.ofInt 1).toNatClampNeg = 6 * k + 1 from (lw_idx (j := 1) hk (by decide) hL).2]
  show LW l b L xs 266 [some (.ref 1000007), some (.ref 0), some (.ref 65), some (.int (nI (6 * k)))] [.int (xs (6 * k + 1)), .ref 65, .int r] (hp s1) 150 23754
  refine LW.callV (M' := mi_X10_end) (o := 65) (d' := 1000) (As := [.int (xs (6 * k + 1))]) (rest := [.int r]) (r' := (some (.int r), hp s2)) (e_X10_end (d := 1000) (by decide) (xs (6 * k + 1)) s1 (r, s2) h2) (Nat.le_refl _) wm_X10_end wi_X10_end wv_X10_end kL_22 (kc rfl rfl) (Nat.le_of_ble_eq_true rfl) rfl rfl rfl (Nat.le_of_ble_eq_true rfl) ⟨Nat.le_of_ble_eq_true rfl, Nat.le_of_ble_eq_true rfl⟩ (by decide +kernel) ?_
  show LW l b L xs 269 [some (.ref 1000007), some (.ref 0), some (.ref 65), some (.int (nI (6 * k)))] [.int r, .int r] (hp s2) 150 23754
  refine LW.icmp_eq (off := 858) (tgt := 1127) (by decide +kernel) (by decide) (fun _ => ?_) (fun q => absurd rfl q)
  exact ih s2 hI2
set_option maxHeartbeats 2000000 in
set_option maxRecDepth 20000 in
theorem lc_board {l : Launch} {b L : Nat} {xs : Nat → Int32} {Inv : Nat → ST → Prop} {k : Nat} (hL : L ≤ 3072) (hk : 6 * k + 6 ≤ L) (hok : ok_board Inv k) (ih : ∀ s : ST, Inv (k + 1) s → LW l b L xs 1127 [some (.ref 1000007), some (.ref 0), some (.ref 65), some (.int (nI (6 * k)))] [] (hp s) 150 23754) (s : ST) (hI : Inv k s) : LW l b L xs 274 [some (.ref 1000007), some (.ref 0), some (.ref 65), some (.int (nI (6 * k)))] [] (hp s) 150 23754 := by
  obtain ⟨r, s1, s2, h1, h2, hI2⟩ := hok s hI
  refine LW.blk (pc' := 275) [(.aload_n 1, 0, 0, 0)] (by decide +kernel) trivial rfl ?_
  show LW l b L xs 275 [some (.ref 1000007), some (.ref 0), some (.ref 65), some (.int (nI (6 * k)))] [.ref 0] (hp s) 150 23754
  refine LW.callV (M' := mi_X9_board) (o := 0) (d' := 1000) (As := []) (rest := []) (r' := (some (.int r), hp s1)) (e_X9_board (d := 1000) (by decide) s (r, s1) h1) (Nat.le_refl _) wm_X9_board wi_X9_board wv_X9_board kL_23 (kc rfl rfl) (Nat.le_of_ble_eq_true rfl) rfl rfl rfl (Nat.le_of_ble_eq_true rfl) ⟨Nat.le_of_ble_eq_true rfl, Nat.le_of_ble_eq_true rfl⟩ (by decide +kernel) ?_
  show LW l b L xs 278 [some (.ref 1000007), some (.ref 0), some (.ref 65), some (.int (nI (6 * k)))] [.int r] (hp s1) 150 23754
  refine LW.blk (pc' := 279) [(.aload_n 2, 0, 0, 0)] (by decide +kernel) trivial rfl ?_
  show LW l b L xs 279 [some (.ref 1000007), some (.ref 0), some (.ref 65), some (.int (nI (6 * k)))] [.ref 65, .int r] (hp s1) 150 23754
  refine LW.callV (M' := mi_X10_board) (o := 65) (d' := 1000) (As := []) (rest := [.int r]) (r' := (some (.int r), hp s2)) (e_X10_board (d := 1000) (by decide) s1 (r, s2) h2) (Nat.le_refl _) wm_X10_board wi_X10_board wv_X10_board kL_27 (kc rfl rfl) (Nat.le_of_ble_eq_true rfl) rfl rfl rfl (Nat.le_of_ble_eq_true rfl) ⟨Nat.le_of_ble_eq_true rfl, Nat.le_of_ble_eq_true rfl⟩ (by decide +kernel) ?_
  show LW l b L xs 282 [some (.ref 1000007), some (.ref 0), some (.ref 65), some (.int (nI (6 * k)))] [.int r, .int r] (hp s2) 150 23754
  refine LW.icmp_eq (off := 845) (tgt := 1127) (by decide +kernel) (by decide) (fun _ => ?_) (fun q => absurd rfl q)
  exact ih s2 hI2
set_option maxHeartbeats 2000000 in
set_option maxRecDepth 20000 in
theorem lc_fault {l : Launch} {b L : Nat} {xs : Nat → Int32} {Inv : Nat → ST → Prop} {k : Nat} (hL : L ≤ 3072) (hk : 6 * k + 6 ≤ L) (hok : ok_fault Inv k) (ih : ∀ s : ST, Inv (k + 1) s → LW l b L xs 1127 [some (.ref 1000007), some (.ref 0), some (.ref 65), some (.int (nI (6 * k)))] [] (hp s) 150 23754) (s : ST) (hI : Inv k s) : LW l b L xs 287 [some (.ref 1000007), some (.ref 0), some (.ref 65), some (.int (nI (6 * k)))] [] (hp s) 150 23754 := by
  obtain ⟨r, s1, s2, h1, h2, hI2⟩ := hok s (xs (6 * k + 1)) hI
  refine LW.blk (pc' := 292) [(.aload_n 1, 0, 0, 0), (.aload_n 0, 0, 0, 0), (.iload_n 3, 0, 0, 0), (.iconst 1, 0, 0, 0), (.iadd, 0, 0, 0)] (by decide +kernel) trivial rfl ?_
  show LW l b L xs 292 [some (.ref 1000007), some (.ref 0), some (.ref 65), some (.int (nI (6 * k)))] [.int (nI (6 * k) + Int32.ofInt 1), .ref 1000007, .ref 0] (hp s) 150 23754
  refine LW.scrLd (i := nI (6 * k) + Int32.ofInt 1) (lw_idx (j := 1) hk (by decide) hL).1 (by decide +kernel) ?_
  rw [show (nI (6 * k) + Int32.ofInt 1).toNatClampNeg = 6 * k + 1 from (lw_idx (j := 1) hk (by decide) hL).2]
  show LW l b L xs 293 [some (.ref 1000007), some (.ref 0), some (.ref 65), some (.int (nI (6 * k)))] [.int (xs (6 * k + 1)), .ref 0] (hp s) 150 23754
  refine LW.callV (M' := mi_X9_fault) (o := 0) (d' := 1000) (As := [.int (xs (6 * k + 1))]) (rest := []) (r' := (some (.int r), hp s1)) (e_X9_fault (d := 1000) (by decide) (xs (6 * k + 1)) s (r, s1) h1) (Nat.le_refl _) wm_X9_fault wi_X9_fault wv_X9_fault kL_28 (kc rfl rfl) (Nat.le_of_ble_eq_true rfl) rfl rfl rfl (Nat.le_of_ble_eq_true rfl) ⟨Nat.le_of_ble_eq_true rfl, Nat.le_of_ble_eq_true rfl⟩ (by decide +kernel) ?_
  show LW l b L xs 296 [some (.ref 1000007), some (.ref 0), some (.ref 65), some (.int (nI (6 * k)))] [.int r] (hp s1) 150 23754
  refine LW.blk (pc' := 301) [(.aload_n 2, 0, 0, 0), (.aload_n 0, 0, 0, 0), (.iload_n 3, 0, 0, 0), (.iconst 1, 0, 0, 0), (.iadd, 0, 0, 0)] (by decide +kernel) trivial rfl ?_
  show LW l b L xs 301 [some (.ref 1000007), some (.ref 0), some (.ref 65), some (.int (nI (6 * k)))] [.int (nI (6 * k) + Int32.ofInt 1), .ref 1000007, .ref 65, .int r] (hp s1) 150 23754
  refine LW.scrLd (i := nI (6 * k) + Int32.ofInt 1) (lw_idx (j := 1) hk (by decide) hL).1 (by decide +kernel) ?_
  rw [show (nI (6 * k) + Int32.ofInt 1).toNatClampNeg = 6 * k + 1 from (lw_idx (j := 1) hk (by decide) hL).2]
  show LW l b L xs 302 [some (.ref 1000007), some (.ref 0), some (.ref 65), some (.int (nI (6 * k)))] [.int (xs (6 * k + 1)), .ref 65, .int r] (hp s1) 150 23754
  refine LW.callV (M' := mi_X10_fault) (o := 65) (d' := 1000) (As := [.int (xs (6 * k + 1))]) (rest := [.int r]) (r' := (some (.int r), hp s2)) (e_X10_fault (d := 1000) (by decide) (xs (6 * k + 1)) s1 (r, s2) h2) (Nat.le_refl _) wm_X10_fault wi_X10_fault wv_X10_fault kL_32 (kc rfl rfl) (Nat.le_of_ble_eq_true rfl) rfl rfl rfl (Nat.le_of_ble_eq_true rfl) ⟨Nat.le_of_ble_eq_true rfl, Nat.le_of_ble_eq_true rfl⟩ (by decide +kernel) ?_
  show LW l b L xs 305 [some (.ref 1000007), some (.ref 0), some (.ref 65), some (.int (nI (6 * k)))] [.int r, .int r] (hp s2) 150 23754
  refine LW.icmp_eq (off := 822) (tgt := 1127) (by decide +kernel) (by decide) (fun _ => ?_) (fun q => absurd rfl q)
  exact ih s2 hI2
set_option maxHeartbeats 2000000 in
set_option maxRecDepth 20000 in
theorem lc_has {l : Launch} {b L : Nat} {xs : Nat → Int32} {Inv : Nat → ST → Prop} {k : Nat} (hL : L ≤ 3072) (hk : 6 * k + 6 ≤ L) (hok : ok_has Inv k) (ih : ∀ s : ST, Inv (k + 1) s → LW l b L xs 1127 [some (.ref 1000007), some (.ref 0), some (.ref 65), some (.int (nI (6 * k)))] [] (hp s) 150 23754) (s : ST) (hI : Inv k s) : LW l b L xs 310 [some (.ref 1000007), some (.ref 0), some (.ref 65), some (.int (nI (6 * k)))] [] (hp s) 150 23754 := by
  obtain ⟨r, s1, s2, h1, h2, hI2⟩ := hok s (xs (6 * k + 1)) hI
  refine LW.blk (pc' := 315) [(.aload_n 1, 0, 0, 0), (.aload_n 0, 0, 0, 0), (.iload_n 3, 0, 0, 0), (.iconst 1, 0, 0, 0), (.iadd, 0, 0, 0)] (by decide +kernel) trivial rfl ?_
  show LW l b L xs 315 [some (.ref 1000007), some (.ref 0), some (.ref 65), some (.int (nI (6 * k)))] [.int (nI (6 * k) + Int32.ofInt 1), .ref 1000007, .ref 0] (hp s) 150 23754
  refine LW.scrLd (i := nI (6 * k) + Int32.ofInt 1) (lw_idx (j := 1) hk (by decide) hL).1 (by decide +kernel) ?_
  rw [show (nI (6 * k) + Int32.ofInt 1).toNatClampNeg = 6 * k + 1 from (lw_idx (j := 1) hk (by decide) hL).2]
  show LW l b L xs 316 [some (.ref 1000007), some (.ref 0), some (.ref 65), some (.int (nI (6 * k)))] [.int (xs (6 * k + 1)), .ref 0] (hp s) 150 23754
  refine LW.callV (M' := mi_X9_has) (o := 0) (d' := 1000) (As := [.int (xs (6 * k + 1))]) (rest := []) (r' := (some (.int r), hp s1)) (e_X9_has (d := 1000) (by decide) (xs (6 * k + 1)) s (r, s1) h1) (Nat.le_refl _) wm_X9_has wi_X9_has wv_X9_has kL_33 (kc rfl rfl) (Nat.le_of_ble_eq_true rfl) rfl rfl rfl (Nat.le_of_ble_eq_true rfl) ⟨Nat.le_of_ble_eq_true rfl, Nat.le_of_ble_eq_true rfl⟩ (by decide +kernel) ?_
  show LW l b L xs 319 [some (.ref 1000007), some (.ref 0), some (.ref 65), some (.int (nI (6 * k)))] [.int r] (hp s1) 150 23754
  refine LW.blk (pc' := 324) [(.aload_n 2, 0, 0, 0), (.aload_n 0, 0, 0, 0), (.iload_n 3, 0, 0, 0), (.iconst 1, 0, 0, 0), (.iadd, 0, 0, 0)] (by decide +kernel) trivial rfl ?_
  show LW l b L xs 324 [some (.ref 1000007), some (.ref 0), some (.ref 65), some (.int (nI (6 * k)))] [.int (nI (6 * k) + Int32.ofInt 1), .ref 1000007, .ref 65, .int r] (hp s1) 150 23754
  refine LW.scrLd (i := nI (6 * k) + Int32.ofInt 1) (lw_idx (j := 1) hk (by decide) hL).1 (by decide +kernel) ?_
  rw [show (nI (6 * k) + Int32.ofInt 1).toNatClampNeg = 6 * k + 1 from (lw_idx (j := 1) hk (by decide) hL).2]
  show LW l b L xs 325 [some (.ref 1000007), some (.ref 0), some (.ref 65), some (.int (nI (6 * k)))] [.int (xs (6 * k + 1)), .ref 65, .int r] (hp s1) 150 23754
  refine LW.callV (M' := mi_X10_has) (o := 65) (d' := 1000) (As := [.int (xs (6 * k + 1))]) (rest := [.int r]) (r' := (some (.int r), hp s2)) (e_X10_has (d := 1000) (by decide) (xs (6 * k + 1)) s1 (r, s2) h2) (Nat.le_refl _) wm_X10_has wi_X10_has wv_X10_has kL_36 (kc rfl rfl) (Nat.le_of_ble_eq_true rfl) rfl rfl rfl (Nat.le_of_ble_eq_true rfl) ⟨Nat.le_of_ble_eq_true rfl, Nat.le_of_ble_eq_true rfl⟩ (by decide +kernel) ?_
  show LW l b L xs 328 [some (.ref 1000007), some (.ref 0), some (.ref 65), some (.int (nI (6 * k)))] [.int r, .int r] (hp s2) 150 23754
  refine LW.icmp_eq (off := 799) (tgt := 1127) (by decide +kernel) (by decide) (fun _ => ?_) (fun q => absurd rfl q)
  exact ih s2 hI2
set_option maxHeartbeats 2000000 in
set_option maxRecDepth 20000 in
theorem lc_letter {l : Launch} {b L : Nat} {xs : Nat → Int32} {Inv : Nat → ST → Prop} {k : Nat} (hL : L ≤ 3072) (hk : 6 * k + 6 ≤ L) (hok : ok_letter Inv k) (ih : ∀ s : ST, Inv (k + 1) s → LW l b L xs 1127 [some (.ref 1000007), some (.ref 0), some (.ref 65), some (.int (nI (6 * k)))] [] (hp s) 150 23754) (s : ST) (hI : Inv k s) : LW l b L xs 333 [some (.ref 1000007), some (.ref 0), some (.ref 65), some (.int (nI (6 * k)))] [] (hp s) 150 23754 := by
  obtain ⟨r, s1, s2, h1, h2, hI2⟩ := hok s (xs (6 * k + 1)) (xs (6 * k + 2)) (xs (6 * k + 3)) hI
  refine LW.blk (pc' := 338) [(.aload_n 1, 0, 0, 0), (.aload_n 0, 0, 0, 0), (.iload_n 3, 0, 0, 0), (.iconst 1, 0, 0, 0), (.iadd, 0, 0, 0)] (by decide +kernel) trivial rfl ?_
  show LW l b L xs 338 [some (.ref 1000007), some (.ref 0), some (.ref 65), some (.int (nI (6 * k)))] [.int (nI (6 * k) + Int32.ofInt 1), .ref 1000007, .ref 0] (hp s) 150 23754
  refine LW.scrLd (i := nI (6 * k) + Int32.ofInt 1) (lw_idx (j := 1) hk (by decide) hL).1 (by decide +kernel) ?_
  rw [show (nI (6 * k) + Int32.ofInt 1).toNatClampNeg = 6 * k + 1 from (lw_idx (j := 1) hk (by decide) hL).2]
  show LW l b L xs 339 [some (.ref 1000007), some (.ref 0), some (.ref 65), some (.int (nI (6 * k)))] [.int (xs (6 * k + 1)), .ref 0] (hp s) 150 23754
  refine LW.blk (pc' := 343) [(.aload_n 0, 0, 0, 0), (.iload_n 3, 0, 0, 0), (.iconst 2, 0, 0, 0), (.iadd, 0, 0, 0)] (by decide +kernel) trivial rfl ?_
  show LW l b L xs 343 [some (.ref 1000007), some (.ref 0), some (.ref 65), some (.int (nI (6 * k)))] [.int (nI (6 * k) + Int32.ofInt 2), .ref 1000007, .int (xs (6 * k + 1)), .ref 0] (hp s) 150 23754
  refine LW.scrLd (i := nI (6 * k) + Int32.ofInt 2) (lw_idx (j := 2) hk (by decide) hL).1 (by decide +kernel) ?_
  rw [show (nI (6 * k) + Int32.ofInt 2).toNatClampNeg = 6 * k + 2 from (lw_idx (j := 2) hk (by decide) hL).2]
  show LW l b L xs 344 [some (.ref 1000007), some (.ref 0), some (.ref 65), some (.int (nI (6 * k)))] [.int (xs (6 * k + 2)), .int (xs (6 * k + 1)), .ref 0] (hp s) 150 23754
  refine LW.blk (pc' := 348) [(.aload_n 0, 0, 0, 0), (.iload_n 3, 0, 0, 0), (.iconst 3, 0, 0, 0), (.iadd, 0, 0, 0)] (by decide +kernel) trivial rfl ?_
  show LW l b L xs 348 [some (.ref 1000007), some (.ref 0), some (.ref 65), some (.int (nI (6 * k)))] [.int (nI (6 * k) + Int32.ofInt 3), .ref 1000007, .int (xs (6 * k + 2)), .int (xs (6 * k + 1)), .ref 0] (hp s) 150 23754
  refine LW.scrLd (i := nI (6 * k) + Int32.ofInt 3) (lw_idx (j := 3) hk (by decide) hL).1 (by decide +kernel) ?_
  rw [show (nI (6 * k) + Int32.ofInt 3).toNatClampNeg = 6 * k + 3 from (lw_idx (j := 3) hk (by decide) hL).2]
  show LW l b L xs 349 [some (.ref 1000007), some (.ref 0), some (.ref 65), some (.int (nI (6 * k)))] [.int (xs (6 * k + 3)), .int (xs (6 * k + 2)), .int (xs (6 * k + 1)), .ref 0] (hp s) 150 23754
  refine LW.callV (M' := mi_X9_letter) (o := 0) (d' := 1000) (As := [.int (xs (6 * k + 1)), .int (xs (6 * k + 2)), .int (xs (6 * k + 3))]) (rest := []) (r' := (some (.int r), hp s1)) (e_X9_letter (d := 1000) (by decide) (xs (6 * k + 1)) (xs (6 * k + 2)) (xs (6 * k + 3)) s (r, s1) h1) (Nat.le_refl _) wm_X9_letter wi_X9_letter wv_X9_letter kL_37 (kc rfl rfl) (Nat.le_of_ble_eq_true rfl) rfl rfl rfl (Nat.le_of_ble_eq_true rfl) ⟨Nat.le_of_ble_eq_true rfl, Nat.le_of_ble_eq_true rfl⟩ (by decide +kernel) ?_
  show LW l b L xs 352 [some (.ref 1000007), some (.ref 0), some (.ref 65), some (.int (nI (6 * k)))] [.int r] (hp s1) 150 23754
  refine LW.blk (pc' := 357) [(.aload_n 2, 0, 0, 0), (.aload_n 0, 0, 0, 0), (.iload_n 3, 0, 0, 0), (.iconst 1, 0, 0, 0), (.iadd, 0, 0, 0)] (by decide +kernel) trivial rfl ?_
  show LW l b L xs 357 [some (.ref 1000007), some (.ref 0), some (.ref 65), some (.int (nI (6 * k)))] [.int (nI (6 * k) + Int32.ofInt 1), .ref 1000007, .ref 65, .int r] (hp s1) 150 23754
  refine LW.scrLd (i := nI (6 * k) + Int32.ofInt 1) (lw_idx (j := 1) hk (by decide) hL).1 (by decide +kernel) ?_
  rw [show (nI (6 * k) + Int32.ofInt 1).toNatClampNeg = 6 * k + 1 from (lw_idx (j := 1) hk (by decide) hL).2]
  show LW l b L xs 358 [some (.ref 1000007), some (.ref 0), some (.ref 65), some (.int (nI (6 * k)))] [.int (xs (6 * k + 1)), .ref 65, .int r] (hp s1) 150 23754
  refine LW.blk (pc' := 362) [(.aload_n 0, 0, 0, 0), (.iload_n 3, 0, 0, 0), (.iconst 2, 0, 0, 0), (.iadd, 0, 0, 0)] (by decide +kernel) trivial rfl ?_
  show LW l b L xs 362 [some (.ref 1000007), some (.ref 0), some (.ref 65), some (.int (nI (6 * k)))] [.int (nI (6 * k) + Int32.ofInt 2), .ref 1000007, .int (xs (6 * k + 1)), .ref 65, .int r] (hp s1) 150 23754
  refine LW.scrLd (i := nI (6 * k) + Int32.ofInt 2) (lw_idx (j := 2) hk (by decide) hL).1 (by decide +kernel) ?_
  rw [show (nI (6 * k) + Int32.ofInt 2).toNatClampNeg = 6 * k + 2 from (lw_idx (j := 2) hk (by decide) hL).2]
  show LW l b L xs 363 [some (.ref 1000007), some (.ref 0), some (.ref 65), some (.int (nI (6 * k)))] [.int (xs (6 * k + 2)), .int (xs (6 * k + 1)), .ref 65, .int r] (hp s1) 150 23754
  refine LW.blk (pc' := 367) [(.aload_n 0, 0, 0, 0), (.iload_n 3, 0, 0, 0), (.iconst 3, 0, 0, 0), (.iadd, 0, 0, 0)] (by decide +kernel) trivial rfl ?_
  show LW l b L xs 367 [some (.ref 1000007), some (.ref 0), some (.ref 65), some (.int (nI (6 * k)))] [.int (nI (6 * k) + Int32.ofInt 3), .ref 1000007, .int (xs (6 * k + 2)), .int (xs (6 * k + 1)), .ref 65, .int r] (hp s1) 150 23754
  refine LW.scrLd (i := nI (6 * k) + Int32.ofInt 3) (lw_idx (j := 3) hk (by decide) hL).1 (by decide +kernel) ?_
  rw [show (nI (6 * k) + Int32.ofInt 3).toNatClampNeg = 6 * k + 3 from (lw_idx (j := 3) hk (by decide) hL).2]
  show LW l b L xs 368 [some (.ref 1000007), some (.ref 0), some (.ref 65), some (.int (nI (6 * k)))] [.int (xs (6 * k + 3)), .int (xs (6 * k + 2)), .int (xs (6 * k + 1)), .ref 65, .int r] (hp s1) 150 23754
  refine LW.callV (M' := mi_X10_letter) (o := 65) (d' := 1000) (As := [.int (xs (6 * k + 1)), .int (xs (6 * k + 2)), .int (xs (6 * k + 3))]) (rest := [.int r]) (r' := (some (.int r), hp s2)) (e_X10_letter (d := 1000) (by decide) (xs (6 * k + 1)) (xs (6 * k + 2)) (xs (6 * k + 3)) s1 (r, s2) h2) (Nat.le_refl _) wm_X10_letter wi_X10_letter wv_X10_letter kL_41 (kc rfl rfl) (Nat.le_of_ble_eq_true rfl) rfl rfl rfl (Nat.le_of_ble_eq_true rfl) ⟨Nat.le_of_ble_eq_true rfl, Nat.le_of_ble_eq_true rfl⟩ (by decide +kernel) ?_
  show LW l b L xs 371 [some (.ref 1000007), some (.ref 0), some (.ref 65), some (.int (nI (6 * k)))] [.int r, .int r] (hp s2) 150 23754
  refine LW.icmp_eq (off := 756) (tgt := 1127) (by decide +kernel) (by decide) (fun _ => ?_) (fun q => absurd rfl q)
  exact ih s2 hI2
set_option maxHeartbeats 2000000 in
set_option maxRecDepth 20000 in
theorem lc_kind {l : Launch} {b L : Nat} {xs : Nat → Int32} {Inv : Nat → ST → Prop} {k : Nat} (hL : L ≤ 3072) (hk : 6 * k + 6 ≤ L) (hok : ok_kind Inv k) (ih : ∀ s : ST, Inv (k + 1) s → LW l b L xs 1127 [some (.ref 1000007), some (.ref 0), some (.ref 65), some (.int (nI (6 * k)))] [] (hp s) 150 23754) (s : ST) (hI : Inv k s) : LW l b L xs 376 [some (.ref 1000007), some (.ref 0), some (.ref 65), some (.int (nI (6 * k)))] [] (hp s) 150 23754 := by
  obtain ⟨r, s1, s2, h1, h2, hI2⟩ := hok s (xs (6 * k + 1)) (xs (6 * k + 2)) hI
  refine LW.blk (pc' := 381) [(.aload_n 1, 0, 0, 0), (.aload_n 0, 0, 0, 0), (.iload_n 3, 0, 0, 0), (.iconst 1, 0, 0, 0), (.iadd, 0, 0, 0)] (by decide +kernel) trivial rfl ?_
  show LW l b L xs 381 [some (.ref 1000007), some (.ref 0), some (.ref 65), some (.int (nI (6 * k)))] [.int (nI (6 * k) + Int32.ofInt 1), .ref 1000007, .ref 0] (hp s) 150 23754
  refine LW.scrLd (i := nI (6 * k) + Int32.ofInt 1) (lw_idx (j := 1) hk (by decide) hL).1 (by decide +kernel) ?_
  rw [show (nI (6 * k) + Int32.ofInt 1).toNatClampNeg = 6 * k + 1 from (lw_idx (j := 1) hk (by decide) hL).2]
  show LW l b L xs 382 [some (.ref 1000007), some (.ref 0), some (.ref 65), some (.int (nI (6 * k)))] [.int (xs (6 * k + 1)), .ref 0] (hp s) 150 23754
  refine LW.blk (pc' := 386) [(.aload_n 0, 0, 0, 0), (.iload_n 3, 0, 0, 0), (.iconst 2, 0, 0, 0), (.iadd, 0, 0, 0)] (by decide +kernel) trivial rfl ?_
  show LW l b L xs 386 [some (.ref 1000007), some (.ref 0), some (.ref 65), some (.int (nI (6 * k)))] [.int (nI (6 * k) + Int32.ofInt 2), .ref 1000007, .int (xs (6 * k + 1)), .ref 0] (hp s) 150 23754
  refine LW.scrLd (i := nI (6 * k) + Int32.ofInt 2) (lw_idx (j := 2) hk (by decide) hL).1 (by decide +kernel) ?_
  rw [show (nI (6 * k) + Int32.ofInt 2).toNatClampNeg = 6 * k + 2 from (lw_idx (j := 2) hk (by decide) hL).2]
  show LW l b L xs 387 [some (.ref 1000007), some (.ref 0), some (.ref 65), some (.int (nI (6 * k)))] [.int (xs (6 * k + 2)), .int (xs (6 * k + 1)), .ref 0] (hp s) 150 23754
  refine LW.callV (M' := mi_X9_kind) (o := 0) (d' := 1000) (As := [.int (xs (6 * k + 1)), .int (xs (6 * k + 2))]) (rest := []) (r' := (some (.int r), hp s1)) (e_X9_kind (d := 1000) (by decide) (xs (6 * k + 1)) (xs (6 * k + 2)) s (r, s1) h1) (Nat.le_refl _) wm_X9_kind wi_X9_kind wv_X9_kind kL_42 (kc rfl rfl) (Nat.le_of_ble_eq_true rfl) rfl rfl rfl (Nat.le_of_ble_eq_true rfl) ⟨Nat.le_of_ble_eq_true rfl, Nat.le_of_ble_eq_true rfl⟩ (by decide +kernel) ?_
  show LW l b L xs 390 [some (.ref 1000007), some (.ref 0), some (.ref 65), some (.int (nI (6 * k)))] [.int r] (hp s1) 150 23754
  refine LW.blk (pc' := 395) [(.aload_n 2, 0, 0, 0), (.aload_n 0, 0, 0, 0), (.iload_n 3, 0, 0, 0), (.iconst 1, 0, 0, 0), (.iadd, 0, 0, 0)] (by decide +kernel) trivial rfl ?_
  show LW l b L xs 395 [some (.ref 1000007), some (.ref 0), some (.ref 65), some (.int (nI (6 * k)))] [.int (nI (6 * k) + Int32.ofInt 1), .ref 1000007, .ref 65, .int r] (hp s1) 150 23754
  refine LW.scrLd (i := nI (6 * k) + Int32.ofInt 1) (lw_idx (j := 1) hk (by decide) hL).1 (by decide +kernel) ?_
  rw [show (nI (6 * k) + Int32.ofInt 1).toNatClampNeg = 6 * k + 1 from (lw_idx (j := 1) hk (by decide) hL).2]
  show LW l b L xs 396 [some (.ref 1000007), some (.ref 0), some (.ref 65), some (.int (nI (6 * k)))] [.int (xs (6 * k + 1)), .ref 65, .int r] (hp s1) 150 23754
  refine LW.blk (pc' := 400) [(.aload_n 0, 0, 0, 0), (.iload_n 3, 0, 0, 0), (.iconst 2, 0, 0, 0), (.iadd, 0, 0, 0)] (by decide +kernel) trivial rfl ?_
  show LW l b L xs 400 [some (.ref 1000007), some (.ref 0), some (.ref 65), some (.int (nI (6 * k)))] [.int (nI (6 * k) + Int32.ofInt 2), .ref 1000007, .int (xs (6 * k + 1)), .ref 65, .int r] (hp s1) 150 23754
  refine LW.scrLd (i := nI (6 * k) + Int32.ofInt 2) (lw_idx (j := 2) hk (by decide) hL).1 (by decide +kernel) ?_
  rw [show (nI (6 * k) + Int32.ofInt 2).toNatClampNeg = 6 * k + 2 from (lw_idx (j := 2) hk (by decide) hL).2]
  show LW l b L xs 401 [some (.ref 1000007), some (.ref 0), some (.ref 65), some (.int (nI (6 * k)))] [.int (xs (6 * k + 2)), .int (xs (6 * k + 1)), .ref 65, .int r] (hp s1) 150 23754
  refine LW.callV (M' := mi_X10_kind) (o := 65) (d' := 1000) (As := [.int (xs (6 * k + 1)), .int (xs (6 * k + 2))]) (rest := [.int r]) (r' := (some (.int r), hp s2)) (e_X10_kind (d := 1000) (by decide) (xs (6 * k + 1)) (xs (6 * k + 2)) s1 (r, s2) h2) (Nat.le_refl _) wm_X10_kind wi_X10_kind wv_X10_kind kL_46 (kc rfl rfl) (Nat.le_of_ble_eq_true rfl) rfl rfl rfl (Nat.le_of_ble_eq_true rfl) ⟨Nat.le_of_ble_eq_true rfl, Nat.le_of_ble_eq_true rfl⟩ (by decide +kernel) ?_
  show LW l b L xs 404 [some (.ref 1000007), some (.ref 0), some (.ref 65), some (.int (nI (6 * k)))] [.int r, .int r] (hp s2) 150 23754
  refine LW.icmp_eq (off := 723) (tgt := 1127) (by decide +kernel) (by decide) (fun _ => ?_) (fun q => absurd rfl q)
  exact ih s2 hI2
set_option maxHeartbeats 2000000 in
set_option maxRecDepth 20000 in
theorem lc_man {l : Launch} {b L : Nat} {xs : Nat → Int32} {Inv : Nat → ST → Prop} {k : Nat} (hL : L ≤ 3072) (hk : 6 * k + 6 ≤ L) (hok : ok_man Inv k) (ih : ∀ s : ST, Inv (k + 1) s → LW l b L xs 1127 [some (.ref 1000007), some (.ref 0), some (.ref 65), some (.int (nI (6 * k)))] [] (hp s) 150 23754) (s : ST) (hI : Inv k s) : LW l b L xs 409 [some (.ref 1000007), some (.ref 0), some (.ref 65), some (.int (nI (6 * k)))] [] (hp s) 150 23754 := by
  obtain ⟨r, s1, s2, h1, h2, hI2⟩ := hok s (xs (6 * k + 1)) (xs (6 * k + 2)) hI
  refine LW.blk (pc' := 414) [(.aload_n 1, 0, 0, 0), (.aload_n 0, 0, 0, 0), (.iload_n 3, 0, 0, 0), (.iconst 1, 0, 0, 0), (.iadd, 0, 0, 0)] (by decide +kernel) trivial rfl ?_
  show LW l b L xs 414 [some (.ref 1000007), some (.ref 0), some (.ref 65), some (.int (nI (6 * k)))] [.int (nI (6 * k) + Int32.ofInt 1), .ref 1000007, .ref 0] (hp s) 150 23754
  refine LW.scrLd (i := nI (6 * k) + Int32.ofInt 1) (lw_idx (j := 1) hk (by decide) hL).1 (by decide +kernel) ?_
  rw [show (nI (6 * k) + Int32.ofInt 1).toNatClampNeg = 6 * k + 1 from (lw_idx (j := 1) hk (by decide) hL).2]
  show LW l b L xs 415 [some (.ref 1000007), some (.ref 0), some (.ref 65), some (.int (nI (6 * k)))] [.int (xs (6 * k + 1)), .ref 0] (hp s) 150 23754
  refine LW.blk (pc' := 419) [(.aload_n 0, 0, 0, 0), (.iload_n 3, 0, 0, 0), (.iconst 2, 0, 0, 0), (.iadd, 0, 0, 0)] (by decide +kernel) trivial rfl ?_
  show LW l b L xs 419 [some (.ref 1000007), some (.ref 0), some (.ref 65), some (.int (nI (6 * k)))] [.int (nI (6 * k) + Int32.ofInt 2), .ref 1000007, .int (xs (6 * k + 1)), .ref 0] (hp s) 150 23754
  refine LW.scrLd (i := nI (6 * k) + Int32.ofInt 2) (lw_idx (j := 2) hk (by decide) hL).1 (by decide +kernel) ?_
  rw [show (nI (6 * k) + Int32.ofInt 2).toNatClampNeg = 6 * k + 2 from (lw_idx (j := 2) hk (by decide) hL).2]
  show LW l b L xs 420 [some (.ref 1000007), some (.ref 0), some (.ref 65), some (.int (nI (6 * k)))] [.int (xs (6 * k + 2)), .int (xs (6 * k + 1)), .ref 0] (hp s) 150 23754
  refine LW.callV (M' := mi_X9_man) (o := 0) (d' := 1000) (As := [.int (xs (6 * k + 1)), .int (xs (6 * k + 2))]) (rest := []) (r' := (some (.int r), hp s1)) (e_X9_man (d := 1000) (by decide) (xs (6 * k + 1)) (xs (6 * k + 2)) s (r, s1) h1) (Nat.le_refl _) wm_X9_man wi_X9_man wv_X9_man kL_47 (kc rfl rfl) (Nat.le_of_ble_eq_true rfl) rfl rfl rfl (Nat.le_of_ble_eq_true rfl) ⟨Nat.le_of_ble_eq_true rfl, Nat.le_of_ble_eq_true rfl⟩ (by decide +kernel) ?_
  show LW l b L xs 423 [some (.ref 1000007), some (.ref 0), some (.ref 65), some (.int (nI (6 * k)))] [.int r] (hp s1) 150 23754
  refine LW.blk (pc' := 428) [(.aload_n 2, 0, 0, 0), (.aload_n 0, 0, 0, 0), (.iload_n 3, 0, 0, 0), (.iconst 1, 0, 0, 0), (.iadd, 0, 0, 0)] (by decide +kernel) trivial rfl ?_
  show LW l b L xs 428 [some (.ref 1000007), some (.ref 0), some (.ref 65), some (.int (nI (6 * k)))] [.int (nI (6 * k) + Int32.ofInt 1), .ref 1000007, .ref 65, .int r] (hp s1) 150 23754
  refine LW.scrLd (i := nI (6 * k) + Int32.ofInt 1) (lw_idx (j := 1) hk (by decide) hL).1 (by decide +kernel) ?_
  rw [show (nI (6 * k) + Int32.ofInt 1).toNatClampNeg = 6 * k + 1 from (lw_idx (j := 1) hk (by decide) hL).2]
  show LW l b L xs 429 [some (.ref 1000007), some (.ref 0), some (.ref 65), some (.int (nI (6 * k)))] [.int (xs (6 * k + 1)), .ref 65, .int r] (hp s1) 150 23754
  refine LW.blk (pc' := 433) [(.aload_n 0, 0, 0, 0), (.iload_n 3, 0, 0, 0), (.iconst 2, 0, 0, 0), (.iadd, 0, 0, 0)] (by decide +kernel) trivial rfl ?_
  show LW l b L xs 433 [some (.ref 1000007), some (.ref 0), some (.ref 65), some (.int (nI (6 * k)))] [.int (nI (6 * k) + Int32.ofInt 2), .ref 1000007, .int (xs (6 * k + 1)), .ref 65, .int r] (hp s1) 150 23754
  refine LW.scrLd (i := nI (6 * k) + Int32.ofInt 2) (lw_idx (j := 2) hk (by decide) hL).1 (by decide +kernel) ?_
  rw [show (nI (6 * k) + Int32.ofInt 2).toNatClampNeg = 6 * k + 2 from (lw_idx (j := 2) hk (by decide) hL).2]
  show LW l b L xs 434 [some (.ref 1000007), some (.ref 0), some (.ref 65), some (.int (nI (6 * k)))] [.int (xs (6 * k + 2)), .int (xs (6 * k + 1)), .ref 65, .int r] (hp s1) 150 23754
  refine LW.callV (M' := mi_X10_man) (o := 65) (d' := 1000) (As := [.int (xs (6 * k + 1)), .int (xs (6 * k + 2))]) (rest := [.int r]) (r' := (some (.int r), hp s2)) (e_X10_man (d := 1000) (by decide) (xs (6 * k + 1)) (xs (6 * k + 2)) s1 (r, s2) h2) (Nat.le_refl _) wm_X10_man wi_X10_man wv_X10_man kL_50 (kc rfl rfl) (Nat.le_of_ble_eq_true rfl) rfl rfl rfl (Nat.le_of_ble_eq_true rfl) ⟨Nat.le_of_ble_eq_true rfl, Nat.le_of_ble_eq_true rfl⟩ (by decide +kernel) ?_
  show LW l b L xs 437 [some (.ref 1000007), some (.ref 0), some (.ref 65), some (.int (nI (6 * k)))] [.int r, .int r] (hp s2) 150 23754
  refine LW.icmp_eq (off := 690) (tgt := 1127) (by decide +kernel) (by decide) (fun _ => ?_) (fun q => absurd rfl q)
  exact ih s2 hI2
set_option maxHeartbeats 2000000 in
set_option maxRecDepth 20000 in
theorem lc_field {l : Launch} {b L : Nat} {xs : Nat → Int32} {Inv : Nat → ST → Prop} {k : Nat} (hL : L ≤ 3072) (hk : 6 * k + 6 ≤ L) (hok : ok_field Inv k) (ih : ∀ s : ST, Inv (k + 1) s → LW l b L xs 1127 [some (.ref 1000007), some (.ref 0), some (.ref 65), some (.int (nI (6 * k)))] [] (hp s) 150 23754) (s : ST) (hI : Inv k s) : LW l b L xs 442 [some (.ref 1000007), some (.ref 0), some (.ref 65), some (.int (nI (6 * k)))] [] (hp s) 150 23754 := by
  obtain ⟨r, s1, s2, h1, h2, hI2⟩ := hok s (xs (6 * k + 1)) (xs (6 * k + 2)) hI
  refine LW.blk (pc' := 447) [(.aload_n 1, 0, 0, 0), (.aload_n 0, 0, 0, 0), (.iload_n 3, 0, 0, 0), (.iconst 1, 0, 0, 0), (.iadd, 0, 0, 0)] (by decide +kernel) trivial rfl ?_
  show LW l b L xs 447 [some (.ref 1000007), some (.ref 0), some (.ref 65), some (.int (nI (6 * k)))] [.int (nI (6 * k) + Int32.ofInt 1), .ref 1000007, .ref 0] (hp s) 150 23754
  refine LW.scrLd (i := nI (6 * k) + Int32.ofInt 1) (lw_idx (j := 1) hk (by decide) hL).1 (by decide +kernel) ?_
  rw [show (nI (6 * k) + Int32.ofInt 1).toNatClampNeg = 6 * k + 1 from (lw_idx (j := 1) hk (by decide) hL).2]
  show LW l b L xs 448 [some (.ref 1000007), some (.ref 0), some (.ref 65), some (.int (nI (6 * k)))] [.int (xs (6 * k + 1)), .ref 0] (hp s) 150 23754
  refine LW.blk (pc' := 452) [(.aload_n 0, 0, 0, 0), (.iload_n 3, 0, 0, 0), (.iconst 2, 0, 0, 0), (.iadd, 0, 0, 0)] (by decide +kernel) trivial rfl ?_
  show LW l b L xs 452 [some (.ref 1000007), some (.ref 0), some (.ref 65), some (.int (nI (6 * k)))] [.int (nI (6 * k) + Int32.ofInt 2), .ref 1000007, .int (xs (6 * k + 1)), .ref 0] (hp s) 150 23754
  refine LW.scrLd (i := nI (6 * k) + Int32.ofInt 2) (lw_idx (j := 2) hk (by decide) hL).1 (by decide +kernel) ?_
  rw [show (nI (6 * k) + Int32.ofInt 2).toNatClampNeg = 6 * k + 2 from (lw_idx (j := 2) hk (by decide) hL).2]
  show LW l b L xs 453 [some (.ref 1000007), some (.ref 0), some (.ref 65), some (.int (nI (6 * k)))] [.int (xs (6 * k + 2)), .int (xs (6 * k + 1)), .ref 0] (hp s) 150 23754
  refine LW.callV (M' := mi_X9_field) (o := 0) (d' := 1000) (As := [.int (xs (6 * k + 1)), .int (xs (6 * k + 2))]) (rest := []) (r' := (some (.int r), hp s1)) (e_X9_field (d := 1000) (by decide) (xs (6 * k + 1)) (xs (6 * k + 2)) s (r, s1) h1) (Nat.le_refl _) wm_X9_field wi_X9_field wv_X9_field kL_51 (kc rfl rfl) (Nat.le_of_ble_eq_true rfl) rfl rfl rfl (Nat.le_of_ble_eq_true rfl) ⟨Nat.le_of_ble_eq_true rfl, Nat.le_of_ble_eq_true rfl⟩ (by decide +kernel) ?_
  show LW l b L xs 456 [some (.ref 1000007), some (.ref 0), some (.ref 65), some (.int (nI (6 * k)))] [.int r] (hp s1) 150 23754
  refine LW.blk (pc' := 461) [(.aload_n 2, 0, 0, 0), (.aload_n 0, 0, 0, 0), (.iload_n 3, 0, 0, 0), (.iconst 1, 0, 0, 0), (.iadd, 0, 0, 0)] (by decide +kernel) trivial rfl ?_
  show LW l b L xs 461 [some (.ref 1000007), some (.ref 0), some (.ref 65), some (.int (nI (6 * k)))] [.int (nI (6 * k) + Int32.ofInt 1), .ref 1000007, .ref 65, .int r] (hp s1) 150 23754
  refine LW.scrLd (i := nI (6 * k) + Int32.ofInt 1) (lw_idx (j := 1) hk (by decide) hL).1 (by decide +kernel) ?_
  rw [show (nI (6 * k) + Int32.ofInt 1).toNatClampNeg = 6 * k + 1 from (lw_idx (j := 1) hk (by decide) hL).2]
  show LW l b L xs 462 [some (.ref 1000007), some (.ref 0), some (.ref 65), some (.int (nI (6 * k)))] [.int (xs (6 * k + 1)), .ref 65, .int r] (hp s1) 150 23754
  refine LW.blk (pc' := 466) [(.aload_n 0, 0, 0, 0), (.iload_n 3, 0, 0, 0), (.iconst 2, 0, 0, 0), (.iadd, 0, 0, 0)] (by decide +kernel) trivial rfl ?_
  show LW l b L xs 466 [some (.ref 1000007), some (.ref 0), some (.ref 65), some (.int (nI (6 * k)))] [.int (nI (6 * k) + Int32.ofInt 2), .ref 1000007, .int (xs (6 * k + 1)), .ref 65, .int r] (hp s1) 150 23754
  refine LW.scrLd (i := nI (6 * k) + Int32.ofInt 2) (lw_idx (j := 2) hk (by decide) hL).1 (by decide +kernel) ?_
  rw [show (nI (6 * k) + Int32.ofInt 2).toNatClampNeg = 6 * k + 2 from (lw_idx (j := 2) hk (by decide) hL).2]
  show LW l b L xs 467 [some (.ref 1000007), some (.ref 0), some (.ref 65), some (.int (nI (6 * k)))] [.int (xs (6 * k + 2)), .int (xs (6 * k + 1)), .ref 65, .int r] (hp s1) 150 23754
  refine LW.callV (M' := mi_X10_field) (o := 65) (d' := 1000) (As := [.int (xs (6 * k + 1)), .int (xs (6 * k + 2))]) (rest := [.int r]) (r' := (some (.int r), hp s2)) (e_X10_field (d := 1000) (by decide) (xs (6 * k + 1)) (xs (6 * k + 2)) s1 (r, s2) h2) (Nat.le_refl _) wm_X10_field wi_X10_field wv_X10_field kL_54 (kc rfl rfl) (Nat.le_of_ble_eq_true rfl) rfl rfl rfl (Nat.le_of_ble_eq_true rfl) ⟨Nat.le_of_ble_eq_true rfl, Nat.le_of_ble_eq_true rfl⟩ (by decide +kernel) ?_
  show LW l b L xs 470 [some (.ref 1000007), some (.ref 0), some (.ref 65), some (.int (nI (6 * k)))] [.int r, .int r] (hp s2) 150 23754
  refine LW.icmp_eq (off := 657) (tgt := 1127) (by decide +kernel) (by decide) (fun _ => ?_) (fun q => absurd rfl q)
  exact ih s2 hI2
set_option maxHeartbeats 2000000 in
set_option maxRecDepth 20000 in
theorem lc_at {l : Launch} {b L : Nat} {xs : Nat → Int32} {Inv : Nat → ST → Prop} {k : Nat} (hL : L ≤ 3072) (hk : 6 * k + 6 ≤ L) (hok : ok_at Inv k) (ih : ∀ s : ST, Inv (k + 1) s → LW l b L xs 1127 [some (.ref 1000007), some (.ref 0), some (.ref 65), some (.int (nI (6 * k)))] [] (hp s) 150 23754) (s : ST) (hI : Inv k s) : LW l b L xs 475 [some (.ref 1000007), some (.ref 0), some (.ref 65), some (.int (nI (6 * k)))] [] (hp s) 150 23754 := by
  obtain ⟨r, s1, s2, h1, h2, hI2⟩ := hok s (xs (6 * k + 1)) (xs (6 * k + 2)) hI
  refine LW.blk (pc' := 480) [(.aload_n 1, 0, 0, 0), (.aload_n 0, 0, 0, 0), (.iload_n 3, 0, 0, 0), (.iconst 1, 0, 0, 0), (.iadd, 0, 0, 0)] (by decide +kernel) trivial rfl ?_
  show LW l b L xs 480 [some (.ref 1000007), some (.ref 0), some (.ref 65), some (.int (nI (6 * k)))] [.int (nI (6 * k) + Int32.ofInt 1), .ref 1000007, .ref 0] (hp s) 150 23754
  refine LW.scrLd (i := nI (6 * k) + Int32.ofInt 1) (lw_idx (j := 1) hk (by decide) hL).1 (by decide +kernel) ?_
  rw [show (nI (6 * k) + Int32.ofInt 1).toNatClampNeg = 6 * k + 1 from (lw_idx (j := 1) hk (by decide) hL).2]
  show LW l b L xs 481 [some (.ref 1000007), some (.ref 0), some (.ref 65), some (.int (nI (6 * k)))] [.int (xs (6 * k + 1)), .ref 0] (hp s) 150 23754
  refine LW.blk (pc' := 485) [(.aload_n 0, 0, 0, 0), (.iload_n 3, 0, 0, 0), (.iconst 2, 0, 0, 0), (.iadd, 0, 0, 0)] (by decide +kernel) trivial rfl ?_
  show LW l b L xs 485 [some (.ref 1000007), some (.ref 0), some (.ref 65), some (.int (nI (6 * k)))] [.int (nI (6 * k) + Int32.ofInt 2), .ref 1000007, .int (xs (6 * k + 1)), .ref 0] (hp s) 150 23754
  refine LW.scrLd (i := nI (6 * k) + Int32.ofInt 2) (lw_idx (j := 2) hk (by decide) hL).1 (by decide +kernel) ?_
  rw [show (nI (6 * k) + Int32.ofInt 2).toNatClampNeg = 6 * k + 2 from (lw_idx (j := 2) hk (by decide) hL).2]
  show LW l b L xs 486 [some (.ref 1000007), some (.ref 0), some (.ref 65), some (.int (nI (6 * k)))] [.int (xs (6 * k + 2)), .int (xs (6 * k + 1)), .ref 0] (hp s) 150 23754
  refine LW.callV (M' := mi_X9_at) (o := 0) (d' := 1000) (As := [.int (xs (6 * k + 1)), .int (xs (6 * k + 2))]) (rest := []) (r' := (some (.int r), hp s1)) (e_X9_at (d := 1000) (by decide) (xs (6 * k + 1)) (xs (6 * k + 2)) s (r, s1) h1) (Nat.le_refl _) wm_X9_at wi_X9_at wv_X9_at kL_55 (kc rfl rfl) (Nat.le_of_ble_eq_true rfl) rfl rfl rfl (Nat.le_of_ble_eq_true rfl) ⟨Nat.le_of_ble_eq_true rfl, Nat.le_of_ble_eq_true rfl⟩ (by decide +kernel) ?_
  show LW l b L xs 489 [some (.ref 1000007), some (.ref 0), some (.ref 65), some (.int (nI (6 * k)))] [.int r] (hp s1) 150 23754
  refine LW.blk (pc' := 494) [(.aload_n 2, 0, 0, 0), (.aload_n 0, 0, 0, 0), (.iload_n 3, 0, 0, 0), (.iconst 1, 0, 0, 0), (.iadd, 0, 0, 0)] (by decide +kernel) trivial rfl ?_
  show LW l b L xs 494 [some (.ref 1000007), some (.ref 0), some (.ref 65), some (.int (nI (6 * k)))] [.int (nI (6 * k) + Int32.ofInt 1), .ref 1000007, .ref 65, .int r] (hp s1) 150 23754
  refine LW.scrLd (i := nI (6 * k) + Int32.ofInt 1) (lw_idx (j := 1) hk (by decide) hL).1 (by decide +kernel) ?_
  rw [show (nI (6 * k) + Int32.ofInt 1).toNatClampNeg = 6 * k + 1 from (lw_idx (j := 1) hk (by decide) hL).2]
  show LW l b L xs 495 [some (.ref 1000007), some (.ref 0), some (.ref 65), some (.int (nI (6 * k)))] [.int (xs (6 * k + 1)), .ref 65, .int r] (hp s1) 150 23754
  refine LW.blk (pc' := 499) [(.aload_n 0, 0, 0, 0), (.iload_n 3, 0, 0, 0), (.iconst 2, 0, 0, 0), (.iadd, 0, 0, 0)] (by decide +kernel) trivial rfl ?_
  show LW l b L xs 499 [some (.ref 1000007), some (.ref 0), some (.ref 65), some (.int (nI (6 * k)))] [.int (nI (6 * k) + Int32.ofInt 2), .ref 1000007, .int (xs (6 * k + 1)), .ref 65, .int r] (hp s1) 150 23754
  refine LW.scrLd (i := nI (6 * k) + Int32.ofInt 2) (lw_idx (j := 2) hk (by decide) hL).1 (by decide +kernel) ?_
  rw [show (nI (6 * k) + Int32.ofInt 2).toNatClampNeg = 6 * k + 2 from (lw_idx (j := 2) hk (by decide) hL).2]
  show LW l b L xs 500 [some (.ref 1000007), some (.ref 0), some (.ref 65), some (.int (nI (6 * k)))] [.int (xs (6 * k + 2)), .int (xs (6 * k + 1)), .ref 65, .int r] (hp s1) 150 23754
  refine LW.callV (M' := mi_X10_at) (o := 65) (d' := 1000) (As := [.int (xs (6 * k + 1)), .int (xs (6 * k + 2))]) (rest := [.int r]) (r' := (some (.int r), hp s2)) (e_X10_at (d := 1000) (by decide) (xs (6 * k + 1)) (xs (6 * k + 2)) s1 (r, s2) h2) (Nat.le_refl _) wm_X10_at wi_X10_at wv_X10_at kL_58 (kc rfl rfl) (Nat.le_of_ble_eq_true rfl) rfl rfl rfl (Nat.le_of_ble_eq_true rfl) ⟨Nat.le_of_ble_eq_true rfl, Nat.le_of_ble_eq_true rfl⟩ (by decide +kernel) ?_
  show LW l b L xs 503 [some (.ref 1000007), some (.ref 0), some (.ref 65), some (.int (nI (6 * k)))] [.int r, .int r] (hp s2) 150 23754
  refine LW.icmp_eq (off := 624) (tgt := 1127) (by decide +kernel) (by decide) (fun _ => ?_) (fun q => absurd rfl q)
  exact ih s2 hI2
set_option maxHeartbeats 2000000 in
set_option maxRecDepth 20000 in
theorem lc_option {l : Launch} {b L : Nat} {xs : Nat → Int32} {Inv : Nat → ST → Prop} {k : Nat} (hL : L ≤ 3072) (hk : 6 * k + 6 ≤ L) (hok : ok_option Inv k) (ih : ∀ s : ST, Inv (k + 1) s → LW l b L xs 1127 [some (.ref 1000007), some (.ref 0), some (.ref 65), some (.int (nI (6 * k)))] [] (hp s) 150 23754) (s : ST) (hI : Inv k s) : LW l b L xs 508 [some (.ref 1000007), some (.ref 0), some (.ref 65), some (.int (nI (6 * k)))] [] (hp s) 150 23754 := by
  obtain ⟨r, s1, s2, h1, h2, hI2⟩ := hok s (xs (6 * k + 1)) (xs (6 * k + 2)) hI
  refine LW.blk (pc' := 513) [(.aload_n 1, 0, 0, 0), (.aload_n 0, 0, 0, 0), (.iload_n 3, 0, 0, 0), (.iconst 1, 0, 0, 0), (.iadd, 0, 0, 0)] (by decide +kernel) trivial rfl ?_
  show LW l b L xs 513 [some (.ref 1000007), some (.ref 0), some (.ref 65), some (.int (nI (6 * k)))] [.int (nI (6 * k) + Int32.ofInt 1), .ref 1000007, .ref 0] (hp s) 150 23754
  refine LW.scrLd (i := nI (6 * k) + Int32.ofInt 1) (lw_idx (j := 1) hk (by decide) hL).1 (by decide +kernel) ?_
  rw [show (nI (6 * k) + Int32.ofInt 1).toNatClampNeg = 6 * k + 1 from (lw_idx (j := 1) hk (by decide) hL).2]
  show LW l b L xs 514 [some (.ref 1000007), some (.ref 0), some (.ref 65), some (.int (nI (6 * k)))] [.int (xs (6 * k + 1)), .ref 0] (hp s) 150 23754
  refine LW.blk (pc' := 518) [(.aload_n 0, 0, 0, 0), (.iload_n 3, 0, 0, 0), (.iconst 2, 0, 0, 0), (.iadd, 0, 0, 0)] (by decide +kernel) trivial rfl ?_
  show LW l b L xs 518 [some (.ref 1000007), some (.ref 0), some (.ref 65), some (.int (nI (6 * k)))] [.int (nI (6 * k) + Int32.ofInt 2), .ref 1000007, .int (xs (6 * k + 1)), .ref 0] (hp s) 150 23754
  refine LW.scrLd (i := nI (6 * k) + Int32.ofInt 2) (lw_idx (j := 2) hk (by decide) hL).1 (by decide +kernel) ?_
  rw [show (nI (6 * k) + Int32.ofInt 2).toNatClampNeg = 6 * k + 2 from (lw_idx (j := 2) hk (by decide) hL).2]
  show LW l b L xs 519 [some (.ref 1000007), some (.ref 0), some (.ref 65), some (.int (nI (6 * k)))] [.int (xs (6 * k + 2)), .int (xs (6 * k + 1)), .ref 0] (hp s) 150 23754
  refine LW.callV (M' := mi_X9_option) (o := 0) (d' := 1000) (As := [.int (xs (6 * k + 1)), .int (xs (6 * k + 2))]) (rest := []) (r' := (some (.int r), hp s1)) (e_X9_option (d := 1000) (by decide) (xs (6 * k + 1)) (xs (6 * k + 2)) s (r, s1) h1) (Nat.le_refl _) wm_X9_option wi_X9_option wv_X9_option kL_59 (kc rfl rfl) (Nat.le_of_ble_eq_true rfl) rfl rfl rfl (Nat.le_of_ble_eq_true rfl) ⟨Nat.le_of_ble_eq_true rfl, Nat.le_of_ble_eq_true rfl⟩ (by decide +kernel) ?_
  show LW l b L xs 522 [some (.ref 1000007), some (.ref 0), some (.ref 65), some (.int (nI (6 * k)))] [.int r] (hp s1) 150 23754
  refine LW.blk (pc' := 527) [(.aload_n 2, 0, 0, 0), (.aload_n 0, 0, 0, 0), (.iload_n 3, 0, 0, 0), (.iconst 1, 0, 0, 0), (.iadd, 0, 0, 0)] (by decide +kernel) trivial rfl ?_
  show LW l b L xs 527 [some (.ref 1000007), some (.ref 0), some (.ref 65), some (.int (nI (6 * k)))] [.int (nI (6 * k) + Int32.ofInt 1), .ref 1000007, .ref 65, .int r] (hp s1) 150 23754
  refine LW.scrLd (i := nI (6 * k) + Int32.ofInt 1) (lw_idx (j := 1) hk (by decide) hL).1 (by decide +kernel) ?_
  rw [show (nI (6 * k) + Int32.ofInt 1).toNatClampNeg = 6 * k + 1 from (lw_idx (j := 1) hk (by decide) hL).2]
  show LW l b L xs 528 [some (.ref 1000007), some (.ref 0), some (.ref 65), some (.int (nI (6 * k)))] [.int (xs (6 * k + 1)), .ref 65, .int r] (hp s1) 150 23754
  refine LW.blk (pc' := 532) [(.aload_n 0, 0, 0, 0), (.iload_n 3, 0, 0, 0), (.iconst 2, 0, 0, 0), (.iadd, 0, 0, 0)] (by decide +kernel) trivial rfl ?_
  show LW l b L xs 532 [some (.ref 1000007), some (.ref 0), some (.ref 65), some (.int (nI (6 * k)))] [.int (nI (6 * k) + Int32.ofInt 2), .ref 1000007, .int (xs (6 * k + 1)), .ref 65, .int r] (hp s1) 150 23754
  refine LW.scrLd (i := nI (6 * k) + Int32.ofInt 2) (lw_idx (j := 2) hk (by decide) hL).1 (by decide +kernel) ?_
  rw [show (nI (6 * k) + Int32.ofInt 2).toNatClampNeg = 6 * k + 2 from (lw_idx (j := 2) hk (by decide) hL).2]
  show LW l b L xs 533 [some (.ref 1000007), some (.ref 0), some (.ref 65), some (.int (nI (6 * k)))] [.int (xs (6 * k + 2)), .int (xs (6 * k + 1)), .ref 65, .int r] (hp s1) 150 23754
  refine LW.callV (M' := mi_X10_option) (o := 65) (d' := 1000) (As := [.int (xs (6 * k + 1)), .int (xs (6 * k + 2))]) (rest := [.int r]) (r' := (some (.int r), hp s2)) (e_X10_option (d := 1000) (by decide) (xs (6 * k + 1)) (xs (6 * k + 2)) s1 (r, s2) h2) (Nat.le_refl _) wm_X10_option wi_X10_option wv_X10_option kL_62 (kc rfl rfl) (Nat.le_of_ble_eq_true rfl) rfl rfl rfl (Nat.le_of_ble_eq_true rfl) ⟨Nat.le_of_ble_eq_true rfl, Nat.le_of_ble_eq_true rfl⟩ (by decide +kernel) ?_
  show LW l b L xs 536 [some (.ref 1000007), some (.ref 0), some (.ref 65), some (.int (nI (6 * k)))] [.int r, .int r] (hp s2) 150 23754
  refine LW.icmp_eq (off := 591) (tgt := 1127) (by decide +kernel) (by decide) (fun _ => ?_) (fun q => absurd rfl q)
  exact ih s2 hI2
set_option maxHeartbeats 2000000 in
set_option maxRecDepth 20000 in
theorem lc_kept {l : Launch} {b L : Nat} {xs : Nat → Int32} {Inv : Nat → ST → Prop} {k : Nat} (hL : L ≤ 3072) (hk : 6 * k + 6 ≤ L) (hok : ok_kept Inv k) (ih : ∀ s : ST, Inv (k + 1) s → LW l b L xs 1127 [some (.ref 1000007), some (.ref 0), some (.ref 65), some (.int (nI (6 * k)))] [] (hp s) 150 23754) (s : ST) (hI : Inv k s) : LW l b L xs 541 [some (.ref 1000007), some (.ref 0), some (.ref 65), some (.int (nI (6 * k)))] [] (hp s) 150 23754 := by
  obtain ⟨r, s1, s2, h1, h2, hI2⟩ := hok s (xs (6 * k + 1)) (xs (6 * k + 2)) hI
  refine LW.blk (pc' := 546) [(.aload_n 1, 0, 0, 0), (.aload_n 0, 0, 0, 0), (.iload_n 3, 0, 0, 0), (.iconst 1, 0, 0, 0), (.iadd, 0, 0, 0)] (by decide +kernel) trivial rfl ?_
  show LW l b L xs 546 [some (.ref 1000007), some (.ref 0), some (.ref 65), some (.int (nI (6 * k)))] [.int (nI (6 * k) + Int32.ofInt 1), .ref 1000007, .ref 0] (hp s) 150 23754
  refine LW.scrLd (i := nI (6 * k) + Int32.ofInt 1) (lw_idx (j := 1) hk (by decide) hL).1 (by decide +kernel) ?_
  rw [show (nI (6 * k) + Int32.ofInt 1).toNatClampNeg = 6 * k + 1 from (lw_idx (j := 1) hk (by decide) hL).2]
  show LW l b L xs 547 [some (.ref 1000007), some (.ref 0), some (.ref 65), some (.int (nI (6 * k)))] [.int (xs (6 * k + 1)), .ref 0] (hp s) 150 23754
  refine LW.blk (pc' := 551) [(.aload_n 0, 0, 0, 0), (.iload_n 3, 0, 0, 0), (.iconst 2, 0, 0, 0), (.iadd, 0, 0, 0)] (by decide +kernel) trivial rfl ?_
  show LW l b L xs 551 [some (.ref 1000007), some (.ref 0), some (.ref 65), some (.int (nI (6 * k)))] [.int (nI (6 * k) + Int32.ofInt 2), .ref 1000007, .int (xs (6 * k + 1)), .ref 0] (hp s) 150 23754
  refine LW.scrLd (i := nI (6 * k) + Int32.ofInt 2) (lw_idx (j := 2) hk (by decide) hL).1 (by decide +kernel) ?_
  rw [show (nI (6 * k) + Int32.ofInt 2).toNatClampNeg = 6 * k + 2 from (lw_idx (j := 2) hk (by decide) hL).2]
  show LW l b L xs 552 [some (.ref 1000007), some (.ref 0), some (.ref 65), some (.int (nI (6 * k)))] [.int (xs (6 * k + 2)), .int (xs (6 * k + 1)), .ref 0] (hp s) 150 23754
  refine LW.callV (M' := mi_X9_kept) (o := 0) (d' := 1000) (As := [.int (xs (6 * k + 1)), .int (xs (6 * k + 2))]) (rest := []) (r' := (some (.int r), hp s1)) (e_X9_kept (d := 1000) (by decide) (xs (6 * k + 1)) (xs (6 * k + 2)) s (r, s1) h1) (Nat.le_refl _) wm_X9_kept wi_X9_kept wv_X9_kept kL_63 (kc rfl rfl) (Nat.le_of_ble_eq_true rfl) rfl rfl rfl (Nat.le_of_ble_eq_true rfl) ⟨Nat.le_of_ble_eq_true rfl, Nat.le_of_ble_eq_true rfl⟩ (by decide +kernel) ?_
  show LW l b L xs 555 [some (.ref 1000007), some (.ref 0), some (.ref 65), some (.int (nI (6 * k)))] [.int r] (hp s1) 150 23754
  refine LW.blk (pc' := 560) [(.aload_n 2, 0, 0, 0), (.aload_n 0, 0, 0, 0), (.iload_n 3, 0, 0, 0), (.iconst 1, 0, 0, 0), (.iadd, 0, 0, 0)] (by decide +kernel) trivial rfl ?_
  show LW l b L xs 560 [some (.ref 1000007), some (.ref 0), some (.ref 65), some (.int (nI (6 * k)))] [.int (nI (6 * k) + Int32.ofInt 1), .ref 1000007, .ref 65, .int r] (hp s1) 150 23754
  refine LW.scrLd (i := nI (6 * k) + Int32.ofInt 1) (lw_idx (j := 1) hk (by decide) hL).1 (by decide +kernel) ?_
  rw [show (nI (6 * k) + Int32.ofInt 1).toNatClampNeg = 6 * k + 1 from (lw_idx (j := 1) hk (by decide) hL).2]
  show LW l b L xs 561 [some (.ref 1000007), some (.ref 0), some (.ref 65), some (.int (nI (6 * k)))] [.int (xs (6 * k + 1)), .ref 65, .int r] (hp s1) 150 23754
  refine LW.blk (pc' := 565) [(.aload_n 0, 0, 0, 0), (.iload_n 3, 0, 0, 0), (.iconst 2, 0, 0, 0), (.iadd, 0, 0, 0)] (by decide +kernel) trivial rfl ?_
  show LW l b L xs 565 [some (.ref 1000007), some (.ref 0), some (.ref 65), some (.int (nI (6 * k)))] [.int (nI (6 * k) + Int32.ofInt 2), .ref 1000007, .int (xs (6 * k + 1)), .ref 65, .int r] (hp s1) 150 23754
  refine LW.scrLd (i := nI (6 * k) + Int32.ofInt 2) (lw_idx (j := 2) hk (by decide) hL).1 (by decide +kernel) ?_
  rw [show (nI (6 * k) + Int32.ofInt 2).toNatClampNeg = 6 * k + 2 from (lw_idx (j := 2) hk (by decide) hL).2]
  show LW l b L xs 566 [some (.ref 1000007), some (.ref 0), some (.ref 65), some (.int (nI (6 * k)))] [.int (xs (6 * k + 2)), .int (xs (6 * k + 1)), .ref 65, .int r] (hp s1) 150 23754
  refine LW.callV (M' := mi_X10_kept) (o := 65) (d' := 1000) (As := [.int (xs (6 * k + 1)), .int (xs (6 * k + 2))]) (rest := [.int r]) (r' := (some (.int r), hp s2)) (e_X10_kept (d := 1000) (by decide) (xs (6 * k + 1)) (xs (6 * k + 2)) s1 (r, s2) h2) (Nat.le_refl _) wm_X10_kept wi_X10_kept wv_X10_kept kL_66 (kc rfl rfl) (Nat.le_of_ble_eq_true rfl) rfl rfl rfl (Nat.le_of_ble_eq_true rfl) ⟨Nat.le_of_ble_eq_true rfl, Nat.le_of_ble_eq_true rfl⟩ (by decide +kernel) ?_
  show LW l b L xs 569 [some (.ref 1000007), some (.ref 0), some (.ref 65), some (.int (nI (6 * k)))] [.int r, .int r] (hp s2) 150 23754
  refine LW.icmp_eq (off := 558) (tgt := 1127) (by decide +kernel) (by decide) (fun _ => ?_) (fun q => absurd rfl q)
  exact ih s2 hI2
set_option maxHeartbeats 2000000 in
set_option maxRecDepth 20000 in
theorem lc_balance {l : Launch} {b L : Nat} {xs : Nat → Int32} {Inv : Nat → ST → Prop} {k : Nat} (hL : L ≤ 3072) (hk : 6 * k + 6 ≤ L) (hok : ok_balance Inv k) (ih : ∀ s : ST, Inv (k + 1) s → LW l b L xs 1127 [some (.ref 1000007), some (.ref 0), some (.ref 65), some (.int (nI (6 * k)))] [] (hp s) 150 23754) (s : ST) (hI : Inv k s) : LW l b L xs 574 [some (.ref 1000007), some (.ref 0), some (.ref 65), some (.int (nI (6 * k)))] [] (hp s) 150 23754 := by
  obtain ⟨r, s1, s2, h1, h2, hI2⟩ := hok s (xs (6 * k + 1)) hI
  refine LW.blk (pc' := 579) [(.aload_n 1, 0, 0, 0), (.aload_n 0, 0, 0, 0), (.iload_n 3, 0, 0, 0), (.iconst 1, 0, 0, 0), (.iadd, 0, 0, 0)] (by decide +kernel) trivial rfl ?_
  show LW l b L xs 579 [some (.ref 1000007), some (.ref 0), some (.ref 65), some (.int (nI (6 * k)))] [.int (nI (6 * k) + Int32.ofInt 1), .ref 1000007, .ref 0] (hp s) 150 23754
  refine LW.scrLd (i := nI (6 * k) + Int32.ofInt 1) (lw_idx (j := 1) hk (by decide) hL).1 (by decide +kernel) ?_
  rw [show (nI (6 * k) + Int32.ofInt 1).toNatClampNeg = 6 * k + 1 from (lw_idx (j := 1) hk (by decide) hL).2]
  show LW l b L xs 580 [some (.ref 1000007), some (.ref 0), some (.ref 65), some (.int (nI (6 * k)))] [.int (xs (6 * k + 1)), .ref 0] (hp s) 150 23754
  refine LW.callV (M' := mi_X9_balance) (o := 0) (d' := 1000) (As := [.int (xs (6 * k + 1))]) (rest := []) (r' := (some (.long r), hp s1)) (e_X9_balance (d := 1000) (by decide) (xs (6 * k + 1)) s (r, s1) h1) (Nat.le_refl _) wm_X9_balance wi_X9_balance wv_X9_balance kL_67 (kc rfl rfl) (Nat.le_of_ble_eq_true rfl) rfl rfl rfl (Nat.le_of_ble_eq_true rfl) ⟨Nat.le_of_ble_eq_true rfl, Nat.le_of_ble_eq_true rfl⟩ (by decide +kernel) ?_
  show LW l b L xs 583 [some (.ref 1000007), some (.ref 0), some (.ref 65), some (.int (nI (6 * k)))] [.long r] (hp s1) 150 23754
  refine LW.blk (pc' := 588) [(.aload_n 2, 0, 0, 0), (.aload_n 0, 0, 0, 0), (.iload_n 3, 0, 0, 0), (.iconst 1, 0, 0, 0), (.iadd, 0, 0, 0)] (by decide +kernel) trivial rfl ?_
  show LW l b L xs 588 [some (.ref 1000007), some (.ref 0), some (.ref 65), some (.int (nI (6 * k)))] [.int (nI (6 * k) + Int32.ofInt 1), .ref 1000007, .ref 65, .long r] (hp s1) 150 23754
  refine LW.scrLd (i := nI (6 * k) + Int32.ofInt 1) (lw_idx (j := 1) hk (by decide) hL).1 (by decide +kernel) ?_
  rw [show (nI (6 * k) + Int32.ofInt 1).toNatClampNeg = 6 * k + 1 from (lw_idx (j := 1) hk (by decide) hL).2]
  show LW l b L xs 589 [some (.ref 1000007), some (.ref 0), some (.ref 65), some (.int (nI (6 * k)))] [.int (xs (6 * k + 1)), .ref 65, .long r] (hp s1) 150 23754
  refine LW.callV (M' := mi_X10_balance) (o := 65) (d' := 1000) (As := [.int (xs (6 * k + 1))]) (rest := [.long r]) (r' := (some (.long r), hp s2)) (e_X10_balance (d := 1000) (by decide) (xs (6 * k + 1)) s1 (r, s2) h2) (Nat.le_refl _) wm_X10_balance wi_X10_balance wv_X10_balance kL_71 (kc rfl rfl) (Nat.le_of_ble_eq_true rfl) rfl rfl rfl (Nat.le_of_ble_eq_true rfl) ⟨Nat.le_of_ble_eq_true rfl, Nat.le_of_ble_eq_true rfl⟩ (by decide +kernel) ?_
  show LW l b L xs 592 [some (.ref 1000007), some (.ref 0), some (.ref 65), some (.int (nI (6 * k)))] [.long r, .long r] (hp s2) 150 23754
  refine LW.blk (pc' := 593) [(.lcmp, 0, 0, 0)] (by decide +kernel) trivial rfl ?_
  show LW l b L xs 593 [some (.ref 1000007), some (.ref 0), some (.ref 65), some (.int (nI (6 * k)))] [.int (lg_cmp r r)] (hp s2) 150 23754
  refine LW.if_eq (off := 534) (tgt := 1127) (by decide +kernel) (by decide) (fun _ => ?_) (fun q => absurd (by simp [lg_cmp]) q)
  exact ih s2 hI2
set_option maxHeartbeats 2000000 in
set_option maxRecDepth 20000 in
theorem lc_value {l : Launch} {b L : Nat} {xs : Nat → Int32} {Inv : Nat → ST → Prop} {k : Nat} (hL : L ≤ 3072) (hk : 6 * k + 6 ≤ L) (hok : ok_value Inv k) (ih : ∀ s : ST, Inv (k + 1) s → LW l b L xs 1127 [some (.ref 1000007), some (.ref 0), some (.ref 65), some (.int (nI (6 * k)))] [] (hp s) 150 23754) (s : ST) (hI : Inv k s) : LW l b L xs 598 [some (.ref 1000007), some (.ref 0), some (.ref 65), some (.int (nI (6 * k)))] [] (hp s) 150 23754 := by
  obtain ⟨r, s1, s2, h1, h2, hI2⟩ := hok s (xs (6 * k + 1)) hI
  refine LW.blk (pc' := 603) [(.aload_n 1, 0, 0, 0), (.aload_n 0, 0, 0, 0), (.iload_n 3, 0, 0, 0), (.iconst 1, 0, 0, 0), (.iadd, 0, 0, 0)] (by decide +kernel) trivial rfl ?_
  show LW l b L xs 603 [some (.ref 1000007), some (.ref 0), some (.ref 65), some (.int (nI (6 * k)))] [.int (nI (6 * k) + Int32.ofInt 1), .ref 1000007, .ref 0] (hp s) 150 23754
  refine LW.scrLd (i := nI (6 * k) + Int32.ofInt 1) (lw_idx (j := 1) hk (by decide) hL).1 (by decide +kernel) ?_
  rw [show (nI (6 * k) + Int32.ofInt 1).toNatClampNeg = 6 * k + 1 from (lw_idx (j := 1) hk (by decide) hL).2]
  show LW l b L xs 604 [some (.ref 1000007), some (.ref 0), some (.ref 65), some (.int (nI (6 * k)))] [.int (xs (6 * k + 1)), .ref 0] (hp s) 150 23754
  refine LW.callV (M' := mi_X9_value) (o := 0) (d' := 1000) (As := [.int (xs (6 * k + 1))]) (rest := []) (r' := (some (.long r), hp s1)) (e_X9_value (d := 1000) (by decide) (xs (6 * k + 1)) s (r, s1) h1) (Nat.le_refl _) wm_X9_value wi_X9_value wv_X9_value kL_72 (kc rfl rfl) (Nat.le_of_ble_eq_true rfl) rfl rfl rfl (Nat.le_of_ble_eq_true rfl) ⟨Nat.le_of_ble_eq_true rfl, Nat.le_of_ble_eq_true rfl⟩ (by decide +kernel) ?_
  show LW l b L xs 607 [some (.ref 1000007), some (.ref 0), some (.ref 65), some (.int (nI (6 * k)))] [.long r] (hp s1) 150 23754
  refine LW.blk (pc' := 612) [(.aload_n 2, 0, 0, 0), (.aload_n 0, 0, 0, 0), (.iload_n 3, 0, 0, 0), (.iconst 1, 0, 0, 0), (.iadd, 0, 0, 0)] (by decide +kernel) trivial rfl ?_
  show LW l b L xs 612 [some (.ref 1000007), some (.ref 0), some (.ref 65), some (.int (nI (6 * k)))] [.int (nI (6 * k) + Int32.ofInt 1), .ref 1000007, .ref 65, .long r] (hp s1) 150 23754
  refine LW.scrLd (i := nI (6 * k) + Int32.ofInt 1) (lw_idx (j := 1) hk (by decide) hL).1 (by decide +kernel) ?_
  rw [show (nI (6 * k) + Int32.ofInt 1).toNatClampNeg = 6 * k + 1 from (lw_idx (j := 1) hk (by decide) hL).2]
  show LW l b L xs 613 [some (.ref 1000007), some (.ref 0), some (.ref 65), some (.int (nI (6 * k)))] [.int (xs (6 * k + 1)), .ref 65, .long r] (hp s1) 150 23754
  refine LW.callV (M' := mi_X10_value) (o := 65) (d' := 1000) (As := [.int (xs (6 * k + 1))]) (rest := [.long r]) (r' := (some (.long r), hp s2)) (e_X10_value (d := 1000) (by decide) (xs (6 * k + 1)) s1 (r, s2) h2) (Nat.le_refl _) wm_X10_value wi_X10_value wv_X10_value kL_75 (kc rfl rfl) (Nat.le_of_ble_eq_true rfl) rfl rfl rfl (Nat.le_of_ble_eq_true rfl) ⟨Nat.le_of_ble_eq_true rfl, Nat.le_of_ble_eq_true rfl⟩ (by decide +kernel) ?_
  show LW l b L xs 616 [some (.ref 1000007), some (.ref 0), some (.ref 65), some (.int (nI (6 * k)))] [.long r, .long r] (hp s2) 150 23754
  refine LW.blk (pc' := 617) [(.lcmp, 0, 0, 0)] (by decide +kernel) trivial rfl ?_
  show LW l b L xs 617 [some (.ref 1000007), some (.ref 0), some (.ref 65), some (.int (nI (6 * k)))] [.int (lg_cmp r r)] (hp s2) 150 23754
  refine LW.if_eq (off := 510) (tgt := 1127) (by decide +kernel) (by decide) (fun _ => ?_) (fun q => absurd (by simp [lg_cmp]) q)
  exact ih s2 hI2
set_option maxHeartbeats 2000000 in
set_option maxRecDepth 20000 in
theorem lc_best {l : Launch} {b L : Nat} {xs : Nat → Int32} {Inv : Nat → ST → Prop} {k : Nat} (hL : L ≤ 3072) (hk : 6 * k + 6 ≤ L) (hok : ok_best Inv k) (ih : ∀ s : ST, Inv (k + 1) s → LW l b L xs 1127 [some (.ref 1000007), some (.ref 0), some (.ref 65), some (.int (nI (6 * k)))] [] (hp s) 150 23754) (s : ST) (hI : Inv k s) : LW l b L xs 622 [some (.ref 1000007), some (.ref 0), some (.ref 65), some (.int (nI (6 * k)))] [] (hp s) 150 23754 := by
  obtain ⟨r, s1, s2, h1, h2, hI2⟩ := hok s (xs (6 * k + 1)) hI
  refine LW.blk (pc' := 627) [(.aload_n 1, 0, 0, 0), (.aload_n 0, 0, 0, 0), (.iload_n 3, 0, 0, 0), (.iconst 1, 0, 0, 0), (.iadd, 0, 0, 0)] (by decide +kernel) trivial rfl ?_
  show LW l b L xs 627 [some (.ref 1000007), some (.ref 0), some (.ref 65), some (.int (nI (6 * k)))] [.int (nI (6 * k) + Int32.ofInt 1), .ref 1000007, .ref 0] (hp s) 150 23754
  refine LW.scrLd (i := nI (6 * k) + Int32.ofInt 1) (lw_idx (j := 1) hk (by decide) hL).1 (by decide +kernel) ?_
  rw [show (nI (6 * k) + Int32.ofInt 1).toNatClampNeg = 6 * k + 1 from (lw_idx (j := 1) hk (by decide) hL).2]
  show LW l b L xs 628 [some (.ref 1000007), some (.ref 0), some (.ref 65), some (.int (nI (6 * k)))] [.int (xs (6 * k + 1)), .ref 0] (hp s) 150 23754
  refine LW.callV (M' := mi_X9_best) (o := 0) (d' := 1000) (As := [.int (xs (6 * k + 1))]) (rest := []) (r' := (some (.int r), hp s1)) (e_X9_best (d := 1000) (by decide) (xs (6 * k + 1)) s (r, s1) h1) (Nat.le_refl _) wm_X9_best wi_X9_best wv_X9_best kL_76 (kc rfl rfl) (Nat.le_of_ble_eq_true rfl) rfl rfl rfl (Nat.le_of_ble_eq_true rfl) ⟨Nat.le_of_ble_eq_true rfl, Nat.le_of_ble_eq_true rfl⟩ (by decide +kernel) ?_
  show LW l b L xs 631 [some (.ref 1000007), some (.ref 0), some (.ref 65), some (.int (nI (6 * k)))] [.int r] (hp s1) 150 23754
  refine LW.blk (pc' := 636) [(.aload_n 2, 0, 0, 0), (.aload_n 0, 0, 0, 0), (.iload_n 3, 0, 0, 0), (.iconst 1, 0, 0, 0), (.iadd, 0, 0, 0)] (by decide +kernel) trivial rfl ?_
  show LW l b L xs 636 [some (.ref 1000007), some (.ref 0), some (.ref 65), some (.int (nI (6 * k)))] [.int (nI (6 * k) + Int32.ofInt 1), .ref 1000007, .ref 65, .int r] (hp s1) 150 23754
  refine LW.scrLd (i := nI (6 * k) + Int32.ofInt 1) (lw_idx (j := 1) hk (by decide) hL).1 (by decide +kernel) ?_
  rw [show (nI (6 * k) + Int32.ofInt 1).toNatClampNeg = 6 * k + 1 from (lw_idx (j := 1) hk (by decide) hL).2]
  show LW l b L xs 637 [some (.ref 1000007), some (.ref 0), some (.ref 65), some (.int (nI (6 * k)))] [.int (xs (6 * k + 1)), .ref 65, .int r] (hp s1) 150 23754
  refine LW.callV (M' := mi_X10_best) (o := 65) (d' := 1000) (As := [.int (xs (6 * k + 1))]) (rest := [.int r]) (r' := (some (.int r), hp s2)) (e_X10_best (d := 1000) (by decide) (xs (6 * k + 1)) s1 (r, s2) h2) (Nat.le_refl _) wm_X10_best wi_X10_best wv_X10_best kL_79 (kc rfl rfl) (Nat.le_of_ble_eq_true rfl) rfl rfl rfl (Nat.le_of_ble_eq_true rfl) ⟨Nat.le_of_ble_eq_true rfl, Nat.le_of_ble_eq_true rfl⟩ (by decide +kernel) ?_
  show LW l b L xs 640 [some (.ref 1000007), some (.ref 0), some (.ref 65), some (.int (nI (6 * k)))] [.int r, .int r] (hp s2) 150 23754
  refine LW.icmp_eq (off := 487) (tgt := 1127) (by decide +kernel) (by decide) (fun _ => ?_) (fun q => absurd rfl q)
  exact ih s2 hI2
set_option maxHeartbeats 2000000 in
set_option maxRecDepth 20000 in
theorem lc_forced {l : Launch} {b L : Nat} {xs : Nat → Int32} {Inv : Nat → ST → Prop} {k : Nat} (hL : L ≤ 3072) (hk : 6 * k + 6 ≤ L) (hok : ok_forced Inv k) (ih : ∀ s : ST, Inv (k + 1) s → LW l b L xs 1127 [some (.ref 1000007), some (.ref 0), some (.ref 65), some (.int (nI (6 * k)))] [] (hp s) 150 23754) (s : ST) (hI : Inv k s) : LW l b L xs 645 [some (.ref 1000007), some (.ref 0), some (.ref 65), some (.int (nI (6 * k)))] [] (hp s) 150 23754 := by
  obtain ⟨r, s1, s2, h1, h2, hI2⟩ := hok s hI
  refine LW.blk (pc' := 646) [(.aload_n 1, 0, 0, 0)] (by decide +kernel) trivial rfl ?_
  show LW l b L xs 646 [some (.ref 1000007), some (.ref 0), some (.ref 65), some (.int (nI (6 * k)))] [.ref 0] (hp s) 150 23754
  refine LW.callV (M' := mi_X9_forced) (o := 0) (d' := 1000) (As := []) (rest := []) (r' := (some (.int r), hp s1)) (e_X9_forced (d := 1000) (by decide) s (r, s1) h1) (Nat.le_refl _) wm_X9_forced wi_X9_forced wv_X9_forced kL_80 (kc rfl rfl) (Nat.le_of_ble_eq_true rfl) rfl rfl rfl (Nat.le_of_ble_eq_true rfl) ⟨Nat.le_of_ble_eq_true rfl, Nat.le_of_ble_eq_true rfl⟩ (by decide +kernel) ?_
  show LW l b L xs 649 [some (.ref 1000007), some (.ref 0), some (.ref 65), some (.int (nI (6 * k)))] [.int r] (hp s1) 150 23754
  refine LW.blk (pc' := 650) [(.aload_n 2, 0, 0, 0)] (by decide +kernel) trivial rfl ?_
  show LW l b L xs 650 [some (.ref 1000007), some (.ref 0), some (.ref 65), some (.int (nI (6 * k)))] [.ref 65, .int r] (hp s1) 150 23754
  refine LW.callV (M' := mi_X10_forced) (o := 65) (d' := 1000) (As := []) (rest := [.int r]) (r' := (some (.int r), hp s2)) (e_X10_forced (d := 1000) (by decide) s1 (r, s2) h2) (Nat.le_refl _) wm_X10_forced wi_X10_forced wv_X10_forced kL_83 (kc rfl rfl) (Nat.le_of_ble_eq_true rfl) rfl rfl rfl (Nat.le_of_ble_eq_true rfl) ⟨Nat.le_of_ble_eq_true rfl, Nat.le_of_ble_eq_true rfl⟩ (by decide +kernel) ?_
  show LW l b L xs 653 [some (.ref 1000007), some (.ref 0), some (.ref 65), some (.int (nI (6 * k)))] [.int r, .int r] (hp s2) 150 23754
  refine LW.icmp_eq (off := 474) (tgt := 1127) (by decide +kernel) (by decide) (fun _ => ?_) (fun q => absurd rfl q)
  exact ih s2 hI2
set_option maxHeartbeats 2000000 in
set_option maxRecDepth 20000 in
theorem lc_later {l : Launch} {b L : Nat} {xs : Nat → Int32} {Inv : Nat → ST → Prop} {k : Nat} (hL : L ≤ 3072) (hk : 6 * k + 6 ≤ L) (hok : ok_later Inv k) (ih : ∀ s : ST, Inv (k + 1) s → LW l b L xs 1127 [some (.ref 1000007), some (.ref 0), some (.ref 65), some (.int (nI (6 * k)))] [] (hp s) 150 23754) (s : ST) (hI : Inv k s) : LW l b L xs 658 [some (.ref 1000007), some (.ref 0), some (.ref 65), some (.int (nI (6 * k)))] [] (hp s) 150 23754 := by
  obtain ⟨r, s1, s2, h1, h2, hI2⟩ := hok s (xs (6 * k + 1)) (xs (6 * k + 2)) hI
  refine LW.blk (pc' := 663) [(.aload_n 1, 0, 0, 0), (.aload_n 0, 0, 0, 0), (.iload_n 3, 0, 0, 0), (.iconst 1, 0, 0, 0), (.iadd, 0, 0, 0)] (by decide +kernel) trivial rfl ?_
  show LW l b L xs 663 [some (.ref 1000007), some (.ref 0), some (.ref 65), some (.int (nI (6 * k)))] [.int (nI (6 * k) + Int32.ofInt 1), .ref 1000007, .ref 0] (hp s) 150 23754
  refine LW.scrLd (i := nI (6 * k) + Int32.ofInt 1) (lw_idx (j := 1) hk (by decide) hL).1 (by decide +kernel) ?_
  rw [show (nI (6 * k) + Int32.ofInt 1).toNatClampNeg = 6 * k + 1 from (lw_idx (j := 1) hk (by decide) hL).2]
  show LW l b L xs 664 [some (.ref 1000007), some (.ref 0), some (.ref 65), some (.int (nI (6 * k)))] [.int (xs (6 * k + 1)), .ref 0] (hp s) 150 23754
  refine LW.blk (pc' := 668) [(.aload_n 0, 0, 0, 0), (.iload_n 3, 0, 0, 0), (.iconst 2, 0, 0, 0), (.iadd, 0, 0, 0)] (by decide +kernel) trivial rfl ?_
  show LW l b L xs 668 [some (.ref 1000007), some (.ref 0), some (.ref 65), some (.int (nI (6 * k)))] [.int (nI (6 * k) + Int32.ofInt 2), .ref 1000007, .int (xs (6 * k + 1)), .ref 0] (hp s) 150 23754
  refine LW.scrLd (i := nI (6 * k) + Int32.ofInt 2) (lw_idx (j := 2) hk (by decide) hL).1 (by decide +kernel) ?_
  rw [show (nI (6 * k) + Int32.ofInt 2).toNatClampNeg = 6 * k + 2 from (lw_idx (j := 2) hk (by decide) hL).2]
  show LW l b L xs 669 [some (.ref 1000007), some (.ref 0), some (.ref 65), some (.int (nI (6 * k)))] [.int (xs (6 * k + 2)), .int (xs (6 * k + 1)), .ref 0] (hp s) 150 23754
  refine LW.callV (M' := mi_X9_later) (o := 0) (d' := 1000) (As := [.int (xs (6 * k + 1)), .int (xs (6 * k + 2))]) (rest := []) (r' := (some (.int r), hp s1)) (e_X9_later (d := 1000) (by decide) (xs (6 * k + 1)) (xs (6 * k + 2)) s (r, s1) h1) (Nat.le_refl _) wm_X9_later wi_X9_later wv_X9_later kL_84 (kc rfl rfl) (Nat.le_of_ble_eq_true rfl) rfl rfl rfl (Nat.le_of_ble_eq_true rfl) ⟨Nat.le_of_ble_eq_true rfl, Nat.le_of_ble_eq_true rfl⟩ (by decide +kernel) ?_
  show LW l b L xs 672 [some (.ref 1000007), some (.ref 0), some (.ref 65), some (.int (nI (6 * k)))] [.int r] (hp s1) 150 23754
  refine LW.blk (pc' := 677) [(.aload_n 2, 0, 0, 0), (.aload_n 0, 0, 0, 0), (.iload_n 3, 0, 0, 0), (.iconst 1, 0, 0, 0), (.iadd, 0, 0, 0)] (by decide +kernel) trivial rfl ?_
  show LW l b L xs 677 [some (.ref 1000007), some (.ref 0), some (.ref 65), some (.int (nI (6 * k)))] [.int (nI (6 * k) + Int32.ofInt 1), .ref 1000007, .ref 65, .int r] (hp s1) 150 23754
  refine LW.scrLd (i := nI (6 * k) + Int32.ofInt 1) (lw_idx (j := 1) hk (by decide) hL).1 (by decide +kernel) ?_
  rw [show (nI (6 * k) + Int32.ofInt 1).toNatClampNeg = 6 * k + 1 from (lw_idx (j := 1) hk (by decide) hL).2]
  show LW l b L xs 678 [some (.ref 1000007), some (.ref 0), some (.ref 65), some (.int (nI (6 * k)))] [.int (xs (6 * k + 1)), .ref 65, .int r] (hp s1) 150 23754
  refine LW.blk (pc' := 682) [(.aload_n 0, 0, 0, 0), (.iload_n 3, 0, 0, 0), (.iconst 2, 0, 0, 0), (.iadd, 0, 0, 0)] (by decide +kernel) trivial rfl ?_
  show LW l b L xs 682 [some (.ref 1000007), some (.ref 0), some (.ref 65), some (.int (nI (6 * k)))] [.int (nI (6 * k) + Int32.ofInt 2), .ref 1000007, .int (xs (6 * k + 1)), .ref 65, .int r] (hp s1) 150 23754
  refine LW.scrLd (i := nI (6 * k) + Int32.ofInt 2) (lw_idx (j := 2) hk (by decide) hL).1 (by decide +kernel) ?_
  rw [show (nI (6 * k) + Int32.ofInt 2).toNatClampNeg = 6 * k + 2 from (lw_idx (j := 2) hk (by decide) hL).2]
  show LW l b L xs 683 [some (.ref 1000007), some (.ref 0), some (.ref 65), some (.int (nI (6 * k)))] [.int (xs (6 * k + 2)), .int (xs (6 * k + 1)), .ref 65, .int r] (hp s1) 150 23754
  refine LW.callV (M' := mi_X10_later) (o := 65) (d' := 1000) (As := [.int (xs (6 * k + 1)), .int (xs (6 * k + 2))]) (rest := [.int r]) (r' := (some (.int r), hp s2)) (e_X10_later (d := 1000) (by decide) (xs (6 * k + 1)) (xs (6 * k + 2)) s1 (r, s2) h2) (Nat.le_refl _) wm_X10_later wi_X10_later wv_X10_later kL_87 (kc rfl rfl) (Nat.le_of_ble_eq_true rfl) rfl rfl rfl (Nat.le_of_ble_eq_true rfl) ⟨Nat.le_of_ble_eq_true rfl, Nat.le_of_ble_eq_true rfl⟩ (by decide +kernel) ?_
  show LW l b L xs 686 [some (.ref 1000007), some (.ref 0), some (.ref 65), some (.int (nI (6 * k)))] [.int r, .int r] (hp s2) 150 23754
  refine LW.icmp_eq (off := 441) (tgt := 1127) (by decide +kernel) (by decide) (fun _ => ?_) (fun q => absurd rfl q)
  exact ih s2 hI2
set_option maxHeartbeats 2000000 in
set_option maxRecDepth 20000 in
theorem lc_crop {l : Launch} {b L : Nat} {xs : Nat → Int32} {Inv : Nat → ST → Prop} {k : Nat} (hL : L ≤ 3072) (hk : 6 * k + 6 ≤ L) (hok : ok_crop Inv k) (ih : ∀ s : ST, Inv (k + 1) s → LW l b L xs 1127 [some (.ref 1000007), some (.ref 0), some (.ref 65), some (.int (nI (6 * k)))] [] (hp s) 150 23754) (s : ST) (hI : Inv k s) : LW l b L xs 691 [some (.ref 1000007), some (.ref 0), some (.ref 65), some (.int (nI (6 * k)))] [] (hp s) 150 23754 := by
  obtain ⟨r, s1, s2, h1, h2, hI2⟩ := hok s (xs (6 * k + 1)) (xs (6 * k + 2)) hI
  refine LW.blk (pc' := 696) [(.aload_n 1, 0, 0, 0), (.aload_n 0, 0, 0, 0), (.iload_n 3, 0, 0, 0), (.iconst 1, 0, 0, 0), (.iadd, 0, 0, 0)] (by decide +kernel) trivial rfl ?_
  show LW l b L xs 696 [some (.ref 1000007), some (.ref 0), some (.ref 65), some (.int (nI (6 * k)))] [.int (nI (6 * k) + Int32.ofInt 1), .ref 1000007, .ref 0] (hp s) 150 23754
  refine LW.scrLd (i := nI (6 * k) + Int32.ofInt 1) (lw_idx (j := 1) hk (by decide) hL).1 (by decide +kernel) ?_
  rw [show (nI (6 * k) + Int32.ofInt 1).toNatClampNeg = 6 * k + 1 from (lw_idx (j := 1) hk (by decide) hL).2]
  show LW l b L xs 697 [some (.ref 1000007), some (.ref 0), some (.ref 65), some (.int (nI (6 * k)))] [.int (xs (6 * k + 1)), .ref 0] (hp s) 150 23754
  refine LW.blk (pc' := 701) [(.aload_n 0, 0, 0, 0), (.iload_n 3, 0, 0, 0), (.iconst 2, 0, 0, 0), (.iadd, 0, 0, 0)] (by decide +kernel) trivial rfl ?_
  show LW l b L xs 701 [some (.ref 1000007), some (.ref 0), some (.ref 65), some (.int (nI (6 * k)))] [.int (nI (6 * k) + Int32.ofInt 2), .ref 1000007, .int (xs (6 * k + 1)), .ref 0] (hp s) 150 23754
  refine LW.scrLd (i := nI (6 * k) + Int32.ofInt 2) (lw_idx (j := 2) hk (by decide) hL).1 (by decide +kernel) ?_
  rw [show (nI (6 * k) + Int32.ofInt 2).toNatClampNeg = 6 * k + 2 from (lw_idx (j := 2) hk (by decide) hL).2]
  show LW l b L xs 702 [some (.ref 1000007), some (.ref 0), some (.ref 65), some (.int (nI (6 * k)))] [.int (xs (6 * k + 2)), .int (xs (6 * k + 1)), .ref 0] (hp s) 150 23754
  refine LW.callV (M' := mi_X9_crop) (o := 0) (d' := 1000) (As := [.int (xs (6 * k + 1)), .int (xs (6 * k + 2))]) (rest := []) (r' := (some (.int r), hp s1)) (e_X9_crop (d := 1000) (by decide) (xs (6 * k + 1)) (xs (6 * k + 2)) s (r, s1) h1) (Nat.le_refl _) wm_X9_crop wi_X9_crop wv_X9_crop kL_88 (kc rfl rfl) (Nat.le_of_ble_eq_true rfl) rfl rfl rfl (Nat.le_of_ble_eq_true rfl) ⟨Nat.le_of_ble_eq_true rfl, Nat.le_of_ble_eq_true rfl⟩ (by decide +kernel) ?_
  show LW l b L xs 705 [some (.ref 1000007), some (.ref 0), some (.ref 65), some (.int (nI (6 * k)))] [.int r] (hp s1) 150 23754
  refine LW.blk (pc' := 710) [(.aload_n 2, 0, 0, 0), (.aload_n 0, 0, 0, 0), (.iload_n 3, 0, 0, 0), (.iconst 1, 0, 0, 0), (.iadd, 0, 0, 0)] (by decide +kernel) trivial rfl ?_
  show LW l b L xs 710 [some (.ref 1000007), some (.ref 0), some (.ref 65), some (.int (nI (6 * k)))] [.int (nI (6 * k) + Int32.ofInt 1), .ref 1000007, .ref 65, .int r] (hp s1) 150 23754
  refine LW.scrLd (i := nI (6 * k) + Int32.ofInt 1) (lw_idx (j := 1) hk (by decide) hL).1 (by decide +kernel) ?_
  rw [show (nI (6 * k) + Int32.ofInt 1).toNatClampNeg = 6 * k + 1 from (lw_idx (j := 1) hk (by decide) hL).2]
  show LW l b L xs 711 [some (.ref 1000007), some (.ref 0), some (.ref 65), some (.int (nI (6 * k)))] [.int (xs (6 * k + 1)), .ref 65, .int r] (hp s1) 150 23754
  refine LW.blk (pc' := 715) [(.aload_n 0, 0, 0, 0), (.iload_n 3, 0, 0, 0), (.iconst 2, 0, 0, 0), (.iadd, 0, 0, 0)] (by decide +kernel) trivial rfl ?_
  show LW l b L xs 715 [some (.ref 1000007), some (.ref 0), some (.ref 65), some (.int (nI (6 * k)))] [.int (nI (6 * k) + Int32.ofInt 2), .ref 1000007, .int (xs (6 * k + 1)), .ref 65, .int r] (hp s1) 150 23754
  refine LW.scrLd (i := nI (6 * k) + Int32.ofInt 2) (lw_idx (j := 2) hk (by decide) hL).1 (by decide +kernel) ?_
  rw [show (nI (6 * k) + Int32.ofInt 2).toNatClampNeg = 6 * k + 2 from (lw_idx (j := 2) hk (by decide) hL).2]
  show LW l b L xs 716 [some (.ref 1000007), some (.ref 0), some (.ref 65), some (.int (nI (6 * k)))] [.int (xs (6 * k + 2)), .int (xs (6 * k + 1)), .ref 65, .int r] (hp s1) 150 23754
  refine LW.callV (M' := mi_X10_crop) (o := 65) (d' := 1000) (As := [.int (xs (6 * k + 1)), .int (xs (6 * k + 2))]) (rest := [.int r]) (r' := (some (.int r), hp s2)) (e_X10_crop (d := 1000) (by decide) (xs (6 * k + 1)) (xs (6 * k + 2)) s1 (r, s2) h2) (Nat.le_refl _) wm_X10_crop wi_X10_crop wv_X10_crop kL_91 (kc rfl rfl) (Nat.le_of_ble_eq_true rfl) rfl rfl rfl (Nat.le_of_ble_eq_true rfl) ⟨Nat.le_of_ble_eq_true rfl, Nat.le_of_ble_eq_true rfl⟩ (by decide +kernel) ?_
  show LW l b L xs 719 [some (.ref 1000007), some (.ref 0), some (.ref 65), some (.int (nI (6 * k)))] [.int r, .int r] (hp s2) 150 23754
  refine LW.icmp_eq (off := 408) (tgt := 1127) (by decide +kernel) (by decide) (fun _ => ?_) (fun q => absurd rfl q)
  exact ih s2 hI2
set_option maxHeartbeats 2000000 in
set_option maxRecDepth 20000 in
theorem lc_spare {l : Launch} {b L : Nat} {xs : Nat → Int32} {Inv : Nat → ST → Prop} {k : Nat} (hL : L ≤ 3072) (hk : 6 * k + 6 ≤ L) (hok : ok_spare Inv k) (ih : ∀ s : ST, Inv (k + 1) s → LW l b L xs 1127 [some (.ref 1000007), some (.ref 0), some (.ref 65), some (.int (nI (6 * k)))] [] (hp s) 150 23754) (s : ST) (hI : Inv k s) : LW l b L xs 724 [some (.ref 1000007), some (.ref 0), some (.ref 65), some (.int (nI (6 * k)))] [] (hp s) 150 23754 := by
  obtain ⟨r, s1, s2, h1, h2, hI2⟩ := hok s (xs (6 * k + 1)) (xs (6 * k + 2)) (xs (6 * k + 3)) hI
  refine LW.blk (pc' := 729) [(.aload_n 1, 0, 0, 0), (.aload_n 0, 0, 0, 0), (.iload_n 3, 0, 0, 0), (.iconst 1, 0, 0, 0), (.iadd, 0, 0, 0)] (by decide +kernel) trivial rfl ?_
  show LW l b L xs 729 [some (.ref 1000007), some (.ref 0), some (.ref 65), some (.int (nI (6 * k)))] [.int (nI (6 * k) + Int32.ofInt 1), .ref 1000007, .ref 0] (hp s) 150 23754
  refine LW.scrLd (i := nI (6 * k) + Int32.ofInt 1) (lw_idx (j := 1) hk (by decide) hL).1 (by decide +kernel) ?_
  rw [show (nI (6 * k) + Int32.ofInt 1).toNatClampNeg = 6 * k + 1 from (lw_idx (j := 1) hk (by decide) hL).2]
  show LW l b L xs 730 [some (.ref 1000007), some (.ref 0), some (.ref 65), some (.int (nI (6 * k)))] [.int (xs (6 * k + 1)), .ref 0] (hp s) 150 23754
  refine LW.blk (pc' := 734) [(.aload_n 0, 0, 0, 0), (.iload_n 3, 0, 0, 0), (.iconst 2, 0, 0, 0), (.iadd, 0, 0, 0)] (by decide +kernel) trivial rfl ?_
  show LW l b L xs 734 [some (.ref 1000007), some (.ref 0), some (.ref 65), some (.int (nI (6 * k)))] [.int (nI (6 * k) + Int32.ofInt 2), .ref 1000007, .int (xs (6 * k + 1)), .ref 0] (hp s) 150 23754
  refine LW.scrLd (i := nI (6 * k) + Int32.ofInt 2) (lw_idx (j := 2) hk (by decide) hL).1 (by decide +kernel) ?_
  rw [show (nI (6 * k) + Int32.ofInt 2).toNatClampNeg = 6 * k + 2 from (lw_idx (j := 2) hk (by decide) hL).2]
  show LW l b L xs 735 [some (.ref 1000007), some (.ref 0), some (.ref 65), some (.int (nI (6 * k)))] [.int (xs (6 * k + 2)), .int (xs (6 * k + 1)), .ref 0] (hp s) 150 23754
  refine LW.blk (pc' := 739) [(.aload_n 0, 0, 0, 0), (.iload_n 3, 0, 0, 0), (.iconst 3, 0, 0, 0), (.iadd, 0, 0, 0)] (by decide +kernel) trivial rfl ?_
  show LW l b L xs 739 [some (.ref 1000007), some (.ref 0), some (.ref 65), some (.int (nI (6 * k)))] [.int (nI (6 * k) + Int32.ofInt 3), .ref 1000007, .int (xs (6 * k + 2)), .int (xs (6 * k + 1)), .ref 0] (hp s) 150 23754
  refine LW.scrLd (i := nI (6 * k) + Int32.ofInt 3) (lw_idx (j := 3) hk (by decide) hL).1 (by decide +kernel) ?_
  rw [show (nI (6 * k) + Int32.ofInt 3).toNatClampNeg = 6 * k + 3 from (lw_idx (j := 3) hk (by decide) hL).2]
  show LW l b L xs 740 [some (.ref 1000007), some (.ref 0), some (.ref 65), some (.int (nI (6 * k)))] [.int (xs (6 * k + 3)), .int (xs (6 * k + 2)), .int (xs (6 * k + 1)), .ref 0] (hp s) 150 23754
  refine LW.callV (M' := mi_X9_spare) (o := 0) (d' := 1000) (As := [.int (xs (6 * k + 1)), .int (xs (6 * k + 2)), .int (xs (6 * k + 3))]) (rest := []) (r' := (some (.int r), hp s1)) (e_X9_spare (d := 1000) (by decide) (xs (6 * k + 1)) (xs (6 * k + 2)) (xs (6 * k + 3)) s (r, s1) h1) (Nat.le_refl _) wm_X9_spare wi_X9_spare wv_X9_spare kL_92 (kc rfl rfl) (Nat.le_of_ble_eq_true rfl) rfl rfl rfl (Nat.le_of_ble_eq_true rfl) ⟨Nat.le_of_ble_eq_true rfl, Nat.le_of_ble_eq_true rfl⟩ (by decide +kernel) ?_
  show LW l b L xs 743 [some (.ref 1000007), some (.ref 0), some (.ref 65), some (.int (nI (6 * k)))] [.int r] (hp s1) 150 23754
  refine LW.blk (pc' := 748) [(.aload_n 2, 0, 0, 0), (.aload_n 0, 0, 0, 0), (.iload_n 3, 0, 0, 0), (.iconst 1, 0, 0, 0), (.iadd, 0, 0, 0)] (by decide +kernel) trivial rfl ?_
  show LW l b L xs 748 [some (.ref 1000007), some (.ref 0), some (.ref 65), some (.int (nI (6 * k)))] [.int (nI (6 * k) + Int32.ofInt 1), .ref 1000007, .ref 65, .int r] (hp s1) 150 23754
  refine LW.scrLd (i := nI (6 * k) + Int32.ofInt 1) (lw_idx (j := 1) hk (by decide) hL).1 (by decide +kernel) ?_
  rw [show (nI (6 * k) + Int32.ofInt 1).toNatClampNeg = 6 * k + 1 from (lw_idx (j := 1) hk (by decide) hL).2]
  show LW l b L xs 749 [some (.ref 1000007), some (.ref 0), some (.ref 65), some (.int (nI (6 * k)))] [.int (xs (6 * k + 1)), .ref 65, .int r] (hp s1) 150 23754
  refine LW.blk (pc' := 753) [(.aload_n 0, 0, 0, 0), (.iload_n 3, 0, 0, 0), (.iconst 2, 0, 0, 0), (.iadd, 0, 0, 0)] (by decide +kernel) trivial rfl ?_
  show LW l b L xs 753 [some (.ref 1000007), some (.ref 0), some (.ref 65), some (.int (nI (6 * k)))] [.int (nI (6 * k) + Int32.ofInt 2), .ref 1000007, .int (xs (6 * k + 1)), .ref 65, .int r] (hp s1) 150 23754
  refine LW.scrLd (i := nI (6 * k) + Int32.ofInt 2) (lw_idx (j := 2) hk (by decide) hL).1 (by decide +kernel) ?_
  rw [show (nI (6 * k) + Int32.ofInt 2).toNatClampNeg = 6 * k + 2 from (lw_idx (j := 2) hk (by decide) hL).2]
  show LW l b L xs 754 [some (.ref 1000007), some (.ref 0), some (.ref 65), some (.int (nI (6 * k)))] [.int (xs (6 * k + 2)), .int (xs (6 * k + 1)), .ref 65, .int r] (hp s1) 150 23754
  refine LW.blk (pc' := 758) [(.aload_n 0, 0, 0, 0), (.iload_n 3, 0, 0, 0), (.iconst 3, 0, 0, 0), (.iadd, 0, 0, 0)] (by decide +kernel) trivial rfl ?_
  show LW l b L xs 758 [some (.ref 1000007), some (.ref 0), some (.ref 65), some (.int (nI (6 * k)))] [.int (nI (6 * k) + Int32.ofInt 3), .ref 1000007, .int (xs (6 * k + 2)), .int (xs (6 * k + 1)), .ref 65, .int r] (hp s1) 150 23754
  refine LW.scrLd (i := nI (6 * k) + Int32.ofInt 3) (lw_idx (j := 3) hk (by decide) hL).1 (by decide +kernel) ?_
  rw [show (nI (6 * k) + Int32.ofInt 3).toNatClampNeg = 6 * k + 3 from (lw_idx (j := 3) hk (by decide) hL).2]
  show LW l b L xs 759 [some (.ref 1000007), some (.ref 0), some (.ref 65), some (.int (nI (6 * k)))] [.int (xs (6 * k + 3)), .int (xs (6 * k + 2)), .int (xs (6 * k + 1)), .ref 65, .int r] (hp s1) 150 23754
  refine LW.callV (M' := mi_X10_spare) (o := 65) (d' := 1000) (As := [.int (xs (6 * k + 1)), .int (xs (6 * k + 2)), .int (xs (6 * k + 3))]) (rest := [.int r]) (r' := (some (.int r), hp s2)) (e_X10_spare (d := 1000) (by decide) (xs (6 * k + 1)) (xs (6 * k + 2)) (xs (6 * k + 3)) s1 (r, s2) h2) (Nat.le_refl _) wm_X10_spare wi_X10_spare wv_X10_spare kL_95 (kc rfl rfl) (Nat.le_of_ble_eq_true rfl) rfl rfl rfl (Nat.le_of_ble_eq_true rfl) ⟨Nat.le_of_ble_eq_true rfl, Nat.le_of_ble_eq_true rfl⟩ (by decide +kernel) ?_
  show LW l b L xs 762 [some (.ref 1000007), some (.ref 0), some (.ref 65), some (.int (nI (6 * k)))] [.int r, .int r] (hp s2) 150 23754
  refine LW.icmp_eq (off := 365) (tgt := 1127) (by decide +kernel) (by decide) (fun _ => ?_) (fun q => absurd rfl q)
  exact ih s2 hI2
set_option maxHeartbeats 2000000 in
set_option maxRecDepth 20000 in
theorem lc_sow {l : Launch} {b L : Nat} {xs : Nat → Int32} {Inv : Nat → ST → Prop} {k : Nat} (hL : L ≤ 3072) (hk : 6 * k + 6 ≤ L) (hok : ok_sow Inv k) (ih : ∀ s : ST, Inv (k + 1) s → LW l b L xs 1127 [some (.ref 1000007), some (.ref 0), some (.ref 65), some (.int (nI (6 * k)))] [] (hp s) 150 23754) (s : ST) (hI : Inv k s) : LW l b L xs 767 [some (.ref 1000007), some (.ref 0), some (.ref 65), some (.int (nI (6 * k)))] [] (hp s) 150 23754 := by
  obtain ⟨r, s1, s2, h1, h2, hI2⟩ := hok s (xs (6 * k + 1)) (xs (6 * k + 2)) hI
  refine LW.blk (pc' := 772) [(.aload_n 1, 0, 0, 0), (.aload_n 0, 0, 0, 0), (.iload_n 3, 0, 0, 0), (.iconst 1, 0, 0, 0), (.iadd, 0, 0, 0)] (by decide +kernel) trivial rfl ?_
  show LW l b L xs 772 [some (.ref 1000007), some (.ref 0), some (.ref 65), some (.int (nI (6 * k)))] [.int (nI (6 * k) + Int32.ofInt 1), .ref 1000007, .ref 0] (hp s) 150 23754
  refine LW.scrLd (i := nI (6 * k) + Int32.ofInt 1) (lw_idx (j := 1) hk (by decide) hL).1 (by decide +kernel) ?_
  rw [show (nI (6 * k) + Int32.ofInt 1).toNatClampNeg = 6 * k + 1 from (lw_idx (j := 1) hk (by decide) hL).2]
  show LW l b L xs 773 [some (.ref 1000007), some (.ref 0), some (.ref 65), some (.int (nI (6 * k)))] [.int (xs (6 * k + 1)), .ref 0] (hp s) 150 23754
  refine LW.blk (pc' := 777) [(.aload_n 0, 0, 0, 0), (.iload_n 3, 0, 0, 0), (.iconst 2, 0, 0, 0), (.iadd, 0, 0, 0)] (by decide +kernel) trivial rfl ?_
  show LW l b L xs 777 [some (.ref 1000007), some (.ref 0), some (.ref 65), some (.int (nI (6 * k)))] [.int (nI (6 * k) + Int32.ofInt 2), .ref 1000007, .int (xs (6 * k + 1)), .ref 0] (hp s) 150 23754
  refine LW.scrLd (i := nI (6 * k) + Int32.ofInt 2) (lw_idx (j := 2) hk (by decide) hL).1 (by decide +kernel) ?_
  rw [show (nI (6 * k) + Int32.ofInt 2).toNatClampNeg = 6 * k + 2 from (lw_idx (j := 2) hk (by decide) hL).2]
  show LW l b L xs 778 [some (.ref 1000007), some (.ref 0), some (.ref 65), some (.int (nI (6 * k)))] [.int (xs (6 * k + 2)), .int (xs (6 * k + 1)), .ref 0] (hp s) 150 23754
  refine LW.callV (M' := mi_X9_sow) (o := 0) (d' := 1000) (As := [.int (xs (6 * k + 1)), .int (xs (6 * k + 2))]) (rest := []) (r' := (some (.int r), hp s1)) (e_X9_sow (d := 1000) (by decide) (xs (6 * k + 1)) (xs (6 * k + 2)) s (r, s1) h1) (Nat.le_refl _) wm_X9_sow wi_X9_sow wv_X9_sow kL_96 (kc rfl rfl) (Nat.le_of_ble_eq_true rfl) rfl rfl rfl (Nat.le_of_ble_eq_true rfl) ⟨Nat.le_of_ble_eq_true rfl, Nat.le_of_ble_eq_true rfl⟩ (by decide +kernel) ?_
  show LW l b L xs 781 [some (.ref 1000007), some (.ref 0), some (.ref 65), some (.int (nI (6 * k)))] [.int r] (hp s1) 150 23754
  refine LW.blk (pc' := 786) [(.aload_n 2, 0, 0, 0), (.aload_n 0, 0, 0, 0), (.iload_n 3, 0, 0, 0), (.iconst 1, 0, 0, 0), (.iadd, 0, 0, 0)] (by decide +kernel) trivial rfl ?_
  show LW l b L xs 786 [some (.ref 1000007), some (.ref 0), some (.ref 65), some (.int (nI (6 * k)))] [.int (nI (6 * k) + Int32.ofInt 1), .ref 1000007, .ref 65, .int r] (hp s1) 150 23754
  refine LW.scrLd (i := nI (6 * k) + Int32.ofInt 1) (lw_idx (j := 1) hk (by decide) hL).1 (by decide +kernel) ?_
  rw [show (nI (6 * k) + Int32.ofInt 1).toNatClampNeg = 6 * k + 1 from (lw_idx (j := 1) hk (by decide) hL).2]
  show LW l b L xs 787 [some (.ref 1000007), some (.ref 0), some (.ref 65), some (.int (nI (6 * k)))] [.int (xs (6 * k + 1)), .ref 65, .int r] (hp s1) 150 23754
  refine LW.blk (pc' := 791) [(.aload_n 0, 0, 0, 0), (.iload_n 3, 0, 0, 0), (.iconst 2, 0, 0, 0), (.iadd, 0, 0, 0)] (by decide +kernel) trivial rfl ?_
  show LW l b L xs 791 [some (.ref 1000007), some (.ref 0), some (.ref 65), some (.int (nI (6 * k)))] [.int (nI (6 * k) + Int32.ofInt 2), .ref 1000007, .int (xs (6 * k + 1)), .ref 65, .int r] (hp s1) 150 23754
  refine LW.scrLd (i := nI (6 * k) + Int32.ofInt 2) (lw_idx (j := 2) hk (by decide) hL).1 (by decide +kernel) ?_
  rw [show (nI (6 * k) + Int32.ofInt 2).toNatClampNeg = 6 * k + 2 from (lw_idx (j := 2) hk (by decide) hL).2]
  show LW l b L xs 792 [some (.ref 1000007), some (.ref 0), some (.ref 65), some (.int (nI (6 * k)))] [.int (xs (6 * k + 2)), .int (xs (6 * k + 1)), .ref 65, .int r] (hp s1) 150 23754
  refine LW.callV (M' := mi_X10_sow) (o := 65) (d' := 1000) (As := [.int (xs (6 * k + 1)), .int (xs (6 * k + 2))]) (rest := [.int r]) (r' := (some (.int r), hp s2)) (e_X10_sow (d := 1000) (by decide) (xs (6 * k + 1)) (xs (6 * k + 2)) s1 (r, s2) h2) (Nat.le_refl _) wm_X10_sow wi_X10_sow wv_X10_sow kL_99 (kc rfl rfl) (Nat.le_of_ble_eq_true rfl) rfl rfl rfl (Nat.le_of_ble_eq_true rfl) ⟨Nat.le_of_ble_eq_true rfl, Nat.le_of_ble_eq_true rfl⟩ (by decide +kernel) ?_
  show LW l b L xs 795 [some (.ref 1000007), some (.ref 0), some (.ref 65), some (.int (nI (6 * k)))] [.int r, .int r] (hp s2) 150 23754
  refine LW.icmp_eq (off := 332) (tgt := 1127) (by decide +kernel) (by decide) (fun _ => ?_) (fun q => absurd rfl q)
  exact ih s2 hI2
set_option maxHeartbeats 2000000 in
set_option maxRecDepth 20000 in
theorem lc_deeper {l : Launch} {b L : Nat} {xs : Nat → Int32} {Inv : Nat → ST → Prop} {k : Nat} (hL : L ≤ 3072) (hk : 6 * k + 6 ≤ L) (hok : ok_deeper Inv k) (ih : ∀ s : ST, Inv (k + 1) s → LW l b L xs 1127 [some (.ref 1000007), some (.ref 0), some (.ref 65), some (.int (nI (6 * k)))] [] (hp s) 150 23754) (s : ST) (hI : Inv k s) : LW l b L xs 800 [some (.ref 1000007), some (.ref 0), some (.ref 65), some (.int (nI (6 * k)))] [] (hp s) 150 23754 := by
  obtain ⟨r, s1, s2, h1, h2, hI2⟩ := hok s (xs (6 * k + 1)) (xs (6 * k + 2)) (xs (6 * k + 3)) hI
  refine LW.blk (pc' := 805) [(.aload_n 1, 0, 0, 0), (.aload_n 0, 0, 0, 0), (.iload_n 3, 0, 0, 0), (.iconst 1, 0, 0, 0), (.iadd, 0, 0, 0)] (by decide +kernel) trivial rfl ?_
  show LW l b L xs 805 [some (.ref 1000007), some (.ref 0), some (.ref 65), some (.int (nI (6 * k)))] [.int (nI (6 * k) + Int32.ofInt 1), .ref 1000007, .ref 0] (hp s) 150 23754
  refine LW.scrLd (i := nI (6 * k) + Int32.ofInt 1) (lw_idx (j := 1) hk (by decide) hL).1 (by decide +kernel) ?_
  rw [show (nI (6 * k) + Int32.ofInt 1).toNatClampNeg = 6 * k + 1 from (lw_idx (j := 1) hk (by decide) hL).2]
  show LW l b L xs 806 [some (.ref 1000007), some (.ref 0), some (.ref 65), some (.int (nI (6 * k)))] [.int (xs (6 * k + 1)), .ref 0] (hp s) 150 23754
  refine LW.blk (pc' := 810) [(.aload_n 0, 0, 0, 0), (.iload_n 3, 0, 0, 0), (.iconst 2, 0, 0, 0), (.iadd, 0, 0, 0)] (by decide +kernel) trivial rfl ?_
  show LW l b L xs 810 [some (.ref 1000007), some (.ref 0), some (.ref 65), some (.int (nI (6 * k)))] [.int (nI (6 * k) + Int32.ofInt 2), .ref 1000007, .int (xs (6 * k + 1)), .ref 0] (hp s) 150 23754
  refine LW.scrLd (i := nI (6 * k) + Int32.ofInt 2) (lw_idx (j := 2) hk (by decide) hL).1 (by decide +kernel) ?_
  rw [show (nI (6 * k) + Int32.ofInt 2).toNatClampNeg = 6 * k + 2 from (lw_idx (j := 2) hk (by decide) hL).2]
  show LW l b L xs 811 [some (.ref 1000007), some (.ref 0), some (.ref 65), some (.int (nI (6 * k)))] [.int (xs (6 * k + 2)), .int (xs (6 * k + 1)), .ref 0] (hp s) 150 23754
  refine LW.blk (pc' := 815) [(.aload_n 0, 0, 0, 0), (.iload_n 3, 0, 0, 0), (.iconst 3, 0, 0, 0), (.iadd, 0, 0, 0)] (by decide +kernel) trivial rfl ?_
  show LW l b L xs 815 [some (.ref 1000007), some (.ref 0), some (.ref 65), some (.int (nI (6 * k)))] [.int (nI (6 * k) + Int32.ofInt 3), .ref 1000007, .int (xs (6 * k + 2)), .int (xs (6 * k + 1)), .ref 0] (hp s) 150 23754
  refine LW.scrLd (i := nI (6 * k) + Int32.ofInt 3) (lw_idx (j := 3) hk (by decide) hL).1 (by decide +kernel) ?_
  rw [show (nI (6 * k) + Int32.ofInt 3).toNatClampNeg = 6 * k + 3 from (lw_idx (j := 3) hk (by decide) hL).2]
  show LW l b L xs 816 [some (.ref 1000007), some (.ref 0), some (.ref 65), some (.int (nI (6 * k)))] [.int (xs (6 * k + 3)), .int (xs (6 * k + 2)), .int (xs (6 * k + 1)), .ref 0] (hp s) 150 23754
  refine LW.callV (M' := mi_X9_deeper) (o := 0) (d' := 1000) (As := [.int (xs (6 * k + 1)), .int (xs (6 * k + 2)), .int (xs (6 * k + 3))]) (rest := []) (r' := (some (.long r), hp s1)) (e_X9_deeper (d := 1000) (by decide) (xs (6 * k + 1)) (xs (6 * k + 2)) (xs (6 * k + 3)) s (r, s1) h1) (Nat.le_refl _) wm_X9_deeper wi_X9_deeper wv_X9_deeper kL_100 (kc rfl rfl) (Nat.le_of_ble_eq_true rfl) rfl rfl rfl (Nat.le_of_ble_eq_true rfl) ⟨Nat.le_of_ble_eq_true rfl, Nat.le_of_ble_eq_true rfl⟩ (by decide +kernel) ?_
  show LW l b L xs 819 [some (.ref 1000007), some (.ref 0), some (.ref 65), some (.int (nI (6 * k)))] [.long r] (hp s1) 150 23754
  refine LW.blk (pc' := 824) [(.aload_n 2, 0, 0, 0), (.aload_n 0, 0, 0, 0), (.iload_n 3, 0, 0, 0), (.iconst 1, 0, 0, 0), (.iadd, 0, 0, 0)] (by decide +kernel) trivial rfl ?_
  show LW l b L xs 824 [some (.ref 1000007), some (.ref 0), some (.ref 65), some (.int (nI (6 * k)))] [.int (nI (6 * k) + Int32.ofInt 1), .ref 1000007, .ref 65, .long r] (hp s1) 150 23754
  refine LW.scrLd (i := nI (6 * k) + Int32.ofInt 1) (lw_idx (j := 1) hk (by decide) hL).1 (by decide +kernel) ?_
  rw [show (nI (6 * k) + Int32.ofInt 1).toNatClampNeg = 6 * k + 1 from (lw_idx (j := 1) hk (by decide) hL).2]
  show LW l b L xs 825 [some (.ref 1000007), some (.ref 0), some (.ref 65), some (.int (nI (6 * k)))] [.int (xs (6 * k + 1)), .ref 65, .long r] (hp s1) 150 23754
  refine LW.blk (pc' := 829) [(.aload_n 0, 0, 0, 0), (.iload_n 3, 0, 0, 0), (.iconst 2, 0, 0, 0), (.iadd, 0, 0, 0)] (by decide +kernel) trivial rfl ?_
  show LW l b L xs 829 [some (.ref 1000007), some (.ref 0), some (.ref 65), some (.int (nI (6 * k)))] [.int (nI (6 * k) + Int32.ofInt 2), .ref 1000007, .int (xs (6 * k + 1)), .ref 65, .long r] (hp s1) 150 23754
  refine LW.scrLd (i := nI (6 * k) + Int32.ofInt 2) (lw_idx (j := 2) hk (by decide) hL).1 (by decide +kernel) ?_
  rw [show (nI (6 * k) + Int32.ofInt 2).toNatClampNeg = 6 * k + 2 from (lw_idx (j := 2) hk (by decide) hL).2]
  show LW l b L xs 830 [some (.ref 1000007), some (.ref 0), some (.ref 65), some (.int (nI (6 * k)))] [.int (xs (6 * k + 2)), .int (xs (6 * k + 1)), .ref 65, .long r] (hp s1) 150 23754
  refine LW.blk (pc' := 834) [(.aload_n 0, 0, 0, 0), (.iload_n 3, 0, 0, 0), (.iconst 3, 0, 0, 0), (.iadd, 0, 0, 0)] (by decide +kernel) trivial rfl ?_
  show LW l b L xs 834 [some (.ref 1000007), some (.ref 0), some (.ref 65), some (.int (nI (6 * k)))] [.int (nI (6 * k) + Int32.ofInt 3), .ref 1000007, .int (xs (6 * k + 2)), .int (xs (6 * k + 1)), .ref 65, .long r] (hp s1) 150 23754
  refine LW.scrLd (i := nI (6 * k) + Int32.ofInt 3) (lw_idx (j := 3) hk (by decide) hL).1 (by decide +kernel) ?_
  rw [show (nI (6 * k) + Int32.ofInt 3).toNatClampNeg = 6 * k + 3 from (lw_idx (j := 3) hk (by decide) hL).2]
  show LW l b L xs 835 [some (.ref 1000007), some (.ref 0), some (.ref 65), some (.int (nI (6 * k)))] [.int (xs (6 * k + 3)), .int (xs (6 * k + 2)), .int (xs (6 * k + 1)), .ref 65, .long r] (hp s1) 150 23754
  refine LW.callV (M' := mi_X10_deeper) (o := 65) (d' := 1000) (As := [.int (xs (6 * k + 1)), .int (xs (6 * k + 2)), .int (xs (6 * k + 3))]) (rest := [.long r]) (r' := (some (.long r), hp s2)) (e_X10_deeper (d := 1000) (by decide) (xs (6 * k + 1)) (xs (6 * k + 2)) (xs (6 * k + 3)) s1 (r, s2) h2) (Nat.le_refl _) wm_X10_deeper wi_X10_deeper wv_X10_deeper kL_104 (kc rfl rfl) (Nat.le_of_ble_eq_true rfl) rfl rfl rfl (Nat.le_of_ble_eq_true rfl) ⟨Nat.le_of_ble_eq_true rfl, Nat.le_of_ble_eq_true rfl⟩ (by decide +kernel) ?_
  show LW l b L xs 838 [some (.ref 1000007), some (.ref 0), some (.ref 65), some (.int (nI (6 * k)))] [.long r, .long r] (hp s2) 150 23754
  refine LW.blk (pc' := 839) [(.lcmp, 0, 0, 0)] (by decide +kernel) trivial rfl ?_
  show LW l b L xs 839 [some (.ref 1000007), some (.ref 0), some (.ref 65), some (.int (nI (6 * k)))] [.int (lg_cmp r r)] (hp s2) 150 23754
  refine LW.if_eq (off := 288) (tgt := 1127) (by decide +kernel) (by decide) (fun _ => ?_) (fun q => absurd (by simp [lg_cmp]) q)
  exact ih s2 hI2
set_option maxHeartbeats 2000000 in
set_option maxRecDepth 20000 in
theorem lc_see {l : Launch} {b L : Nat} {xs : Nat → Int32} {Inv : Nat → ST → Prop} {k : Nat} (hL : L ≤ 3072) (hk : 6 * k + 6 ≤ L) (hok : ok_see Inv k) (ih : ∀ s : ST, Inv (k + 1) s → LW l b L xs 1127 [some (.ref 1000007), some (.ref 0), some (.ref 65), some (.int (nI (6 * k)))] [] (hp s) 150 23754) (s : ST) (hI : Inv k s) : LW l b L xs 844 [some (.ref 1000007), some (.ref 0), some (.ref 65), some (.int (nI (6 * k)))] [] (hp s) 150 23754 := by
  obtain ⟨r, s1, s2, h1, h2, hI2⟩ := hok s hI
  refine LW.blk (pc' := 845) [(.aload_n 1, 0, 0, 0)] (by decide +kernel) trivial rfl ?_
  show LW l b L xs 845 [some (.ref 1000007), some (.ref 0), some (.ref 65), some (.int (nI (6 * k)))] [.ref 0] (hp s) 150 23754
  refine LW.callV (M' := mi_X9_see) (o := 0) (d' := 1000) (As := []) (rest := []) (r' := (some (.int r), hp s1)) (e_X9_see (d := 1000) (by decide) s (r, s1) h1) (Nat.le_refl _) wm_X9_see wi_X9_see wv_X9_see kL_105 (kc rfl rfl) (Nat.le_of_ble_eq_true rfl) rfl rfl rfl (Nat.le_of_ble_eq_true rfl) ⟨Nat.le_of_ble_eq_true rfl, Nat.le_of_ble_eq_true rfl⟩ (by decide +kernel) ?_
  show LW l b L xs 848 [some (.ref 1000007), some (.ref 0), some (.ref 65), some (.int (nI (6 * k)))] [.int r] (hp s1) 150 23754
  refine LW.blk (pc' := 849) [(.aload_n 2, 0, 0, 0)] (by decide +kernel) trivial rfl ?_
  show LW l b L xs 849 [some (.ref 1000007), some (.ref 0), some (.ref 65), some (.int (nI (6 * k)))] [.ref 65, .int r] (hp s1) 150 23754
  refine LW.callV (M' := mi_X10_see) (o := 65) (d' := 1000) (As := []) (rest := [.int r]) (r' := (some (.int r), hp s2)) (e_X10_see (d := 1000) (by decide) s1 (r, s2) h2) (Nat.le_refl _) wm_X10_see wi_X10_see wv_X10_see kL_108 (kc rfl rfl) (Nat.le_of_ble_eq_true rfl) rfl rfl rfl (Nat.le_of_ble_eq_true rfl) ⟨Nat.le_of_ble_eq_true rfl, Nat.le_of_ble_eq_true rfl⟩ (by decide +kernel) ?_
  show LW l b L xs 852 [some (.ref 1000007), some (.ref 0), some (.ref 65), some (.int (nI (6 * k)))] [.int r, .int r] (hp s2) 150 23754
  refine LW.icmp_eq (off := 275) (tgt := 1127) (by decide +kernel) (by decide) (fun _ => ?_) (fun q => absurd rfl q)
  exact ih s2 hI2
set_option maxHeartbeats 2000000 in
set_option maxRecDepth 20000 in
theorem lc_played {l : Launch} {b L : Nat} {xs : Nat → Int32} {Inv : Nat → ST → Prop} {k : Nat} (hL : L ≤ 3072) (hk : 6 * k + 6 ≤ L) (hok : ok_played Inv k) (ih : ∀ s : ST, Inv (k + 1) s → LW l b L xs 1127 [some (.ref 1000007), some (.ref 0), some (.ref 65), some (.int (nI (6 * k)))] [] (hp s) 150 23754) (s : ST) (hI : Inv k s) : LW l b L xs 857 [some (.ref 1000007), some (.ref 0), some (.ref 65), some (.int (nI (6 * k)))] [] (hp s) 150 23754 := by
  obtain ⟨r, s1, s2, h1, h2, hI2⟩ := hok s (xs (6 * k + 1)) hI
  refine LW.blk (pc' := 862) [(.aload_n 1, 0, 0, 0), (.aload_n 0, 0, 0, 0), (.iload_n 3, 0, 0, 0), (.iconst 1, 0, 0, 0), (.iadd, 0, 0, 0)] (by decide +kernel) trivial rfl ?_
  show LW l b L xs 862 [some (.ref 1000007), some (.ref 0), some (.ref 65), some (.int (nI (6 * k)))] [.int (nI (6 * k) + Int32.ofInt 1), .ref 1000007, .ref 0] (hp s) 150 23754
  refine LW.scrLd (i := nI (6 * k) + Int32.ofInt 1) (lw_idx (j := 1) hk (by decide) hL).1 (by decide +kernel) ?_
  rw [show (nI (6 * k) + Int32.ofInt 1).toNatClampNeg = 6 * k + 1 from (lw_idx (j := 1) hk (by decide) hL).2]
  show LW l b L xs 863 [some (.ref 1000007), some (.ref 0), some (.ref 65), some (.int (nI (6 * k)))] [.int (xs (6 * k + 1)), .ref 0] (hp s) 150 23754
  refine LW.callV (M' := mi_X9_played) (o := 0) (d' := 1000) (As := [.int (xs (6 * k + 1))]) (rest := []) (r' := (some (.int r), hp s1)) (e_X9_played (d := 1000) (by decide) (xs (6 * k + 1)) s (r, s1) h1) (Nat.le_refl _) wm_X9_played wi_X9_played wv_X9_played kL_109 (kc rfl rfl) (Nat.le_of_ble_eq_true rfl) rfl rfl rfl (Nat.le_of_ble_eq_true rfl) ⟨Nat.le_of_ble_eq_true rfl, Nat.le_of_ble_eq_true rfl⟩ (by decide +kernel) ?_
  show LW l b L xs 866 [some (.ref 1000007), some (.ref 0), some (.ref 65), some (.int (nI (6 * k)))] [.int r] (hp s1) 150 23754
  refine LW.blk (pc' := 871) [(.aload_n 2, 0, 0, 0), (.aload_n 0, 0, 0, 0), (.iload_n 3, 0, 0, 0), (.iconst 1, 0, 0, 0), (.iadd, 0, 0, 0)] (by decide +kernel) trivial rfl ?_
  show LW l b L xs 871 [some (.ref 1000007), some (.ref 0), some (.ref 65), some (.int (nI (6 * k)))] [.int (nI (6 * k) + Int32.ofInt 1), .ref 1000007, .ref 65, .int r] (hp s1) 150 23754
  refine LW.scrLd (i := nI (6 * k) + Int32.ofInt 1) (lw_idx (j := 1) hk (by decide) hL).1 (by decide +kernel) ?_
  rw [show (nI (6 * k) + Int32.ofInt 1).toNatClampNeg = 6 * k + 1 from (lw_idx (j := 1) hk (by decide) hL).2]
  show LW l b L xs 872 [some (.ref 1000007), some (.ref 0), some (.ref 65), some (.int (nI (6 * k)))] [.int (xs (6 * k + 1)), .ref 65, .int r] (hp s1) 150 23754
  refine LW.callV (M' := mi_X10_played) (o := 65) (d' := 1000) (As := [.int (xs (6 * k + 1))]) (rest := [.int r]) (r' := (some (.int r), hp s2)) (e_X10_played (d := 1000) (by decide) (xs (6 * k + 1)) s1 (r, s2) h2) (Nat.le_refl _) wm_X10_played wi_X10_played wv_X10_played kL_112 (kc rfl rfl) (Nat.le_of_ble_eq_true rfl) rfl rfl rfl (Nat.le_of_ble_eq_true rfl) ⟨Nat.le_of_ble_eq_true rfl, Nat.le_of_ble_eq_true rfl⟩ (by decide +kernel) ?_
  show LW l b L xs 875 [some (.ref 1000007), some (.ref 0), some (.ref 65), some (.int (nI (6 * k)))] [.int r, .int r] (hp s2) 150 23754
  refine LW.icmp_eq (off := 252) (tgt := 1127) (by decide +kernel) (by decide) (fun _ => ?_) (fun q => absurd rfl q)
  exact ih s2 hI2
set_option maxHeartbeats 2000000 in
set_option maxRecDepth 20000 in
theorem lc_reached {l : Launch} {b L : Nat} {xs : Nat → Int32} {Inv : Nat → ST → Prop} {k : Nat} (hL : L ≤ 3072) (hk : 6 * k + 6 ≤ L) (hok : ok_reached Inv k) (ih : ∀ s : ST, Inv (k + 1) s → LW l b L xs 1127 [some (.ref 1000007), some (.ref 0), some (.ref 65), some (.int (nI (6 * k)))] [] (hp s) 150 23754) (s : ST) (hI : Inv k s) : LW l b L xs 880 [some (.ref 1000007), some (.ref 0), some (.ref 65), some (.int (nI (6 * k)))] [] (hp s) 150 23754 := by
  obtain ⟨r, s1, s2, h1, h2, hI2⟩ := hok s (xs (6 * k + 1)) hI
  refine LW.blk (pc' := 885) [(.aload_n 1, 0, 0, 0), (.aload_n 0, 0, 0, 0), (.iload_n 3, 0, 0, 0), (.iconst 1, 0, 0, 0), (.iadd, 0, 0, 0)] (by decide +kernel) trivial rfl ?_
  show LW l b L xs 885 [some (.ref 1000007), some (.ref 0), some (.ref 65), some (.int (nI (6 * k)))] [.int (nI (6 * k) + Int32.ofInt 1), .ref 1000007, .ref 0] (hp s) 150 23754
  refine LW.scrLd (i := nI (6 * k) + Int32.ofInt 1) (lw_idx (j := 1) hk (by decide) hL).1 (by decide +kernel) ?_
  rw [show (nI (6 * k) + Int32.ofInt 1).toNatClampNeg = 6 * k + 1 from (lw_idx (j := 1) hk (by decide) hL).2]
  show LW l b L xs 886 [some (.ref 1000007), some (.ref 0), some (.ref 65), some (.int (nI (6 * k)))] [.int (xs (6 * k + 1)), .ref 0] (hp s) 150 23754
  refine LW.callV (M' := mi_X9_reached) (o := 0) (d' := 1000) (As := [.int (xs (6 * k + 1))]) (rest := []) (r' := (some (.int r), hp s1)) (e_X9_reached (d := 1000) (by decide) (xs (6 * k + 1)) s (r, s1) h1) (Nat.le_refl _) wm_X9_reached wi_X9_reached wv_X9_reached kL_113 (kc rfl rfl) (Nat.le_of_ble_eq_true rfl) rfl rfl rfl (Nat.le_of_ble_eq_true rfl) ⟨Nat.le_of_ble_eq_true rfl, Nat.le_of_ble_eq_true rfl⟩ (by decide +kernel) ?_
  show LW l b L xs 889 [some (.ref 1000007), some (.ref 0), some (.ref 65), some (.int (nI (6 * k)))] [.int r] (hp s1) 150 23754
  refine LW.blk (pc' := 894) [(.aload_n 2, 0, 0, 0), (.aload_n 0, 0, 0, 0), (.iload_n 3, 0, 0, 0), (.iconst 1, 0, 0, 0), (.iadd, 0, 0, 0)] (by decide +kernel) trivial rfl ?_
  show LW l b L xs 894 [some (.ref 1000007), some (.ref 0), some (.ref 65), some (.int (nI (6 * k)))] [.int (nI (6 * k) + Int32.ofInt 1), .ref 1000007, .ref 65, .int r] (hp s1) 150 23754
  refine LW.scrLd (i := nI (6 * k) + Int32.ofInt 1) (lw_idx (j := 1) hk (by decide) hL).1 (by decide +kernel) ?_
  rw [show (nI (6 * k) + Int32.ofInt 1).toNatClampNeg = 6 * k + 1 from (lw_idx (j := 1) hk (by decide) hL).2]
  show LW l b L xs 895 [some (.ref 1000007), some (.ref 0), some (.ref 65), some (.int (nI (6 * k)))] [.int (xs (6 * k + 1)), .ref 65, .int r] (hp s1) 150 23754
  refine LW.callV (M' := mi_X10_reached) (o := 65) (d' := 1000) (As := [.int (xs (6 * k + 1))]) (rest := [.int r]) (r' := (some (.int r), hp s2)) (e_X10_reached (d := 1000) (by decide) (xs (6 * k + 1)) s1 (r, s2) h2) (Nat.le_refl _) wm_X10_reached wi_X10_reached wv_X10_reached kL_116 (kc rfl rfl) (Nat.le_of_ble_eq_true rfl) rfl rfl rfl (Nat.le_of_ble_eq_true rfl) ⟨Nat.le_of_ble_eq_true rfl, Nat.le_of_ble_eq_true rfl⟩ (by decide +kernel) ?_
  show LW l b L xs 898 [some (.ref 1000007), some (.ref 0), some (.ref 65), some (.int (nI (6 * k)))] [.int r, .int r] (hp s2) 150 23754
  refine LW.icmp_eq (off := 229) (tgt := 1127) (by decide +kernel) (by decide) (fun _ => ?_) (fun q => absurd rfl q)
  exact ih s2 hI2
set_option maxHeartbeats 2000000 in
set_option maxRecDepth 20000 in
theorem lc_play {l : Launch} {b L : Nat} {xs : Nat → Int32} {Inv : Nat → ST → Prop} {k : Nat} (hL : L ≤ 3072) (hk : 6 * k + 6 ≤ L) (hok : ok_play Inv k) (ih : ∀ s : ST, Inv (k + 1) s → LW l b L xs 1127 [some (.ref 1000007), some (.ref 0), some (.ref 65), some (.int (nI (6 * k)))] [] (hp s) 150 23754) (s : ST) (hI : Inv k s) : LW l b L xs 903 [some (.ref 1000007), some (.ref 0), some (.ref 65), some (.int (nI (6 * k)))] [] (hp s) 150 23754 := by
  obtain ⟨r, s1, s2, h1, h2, hI2⟩ := hok s (xs (6 * k + 1)) hI
  refine LW.blk (pc' := 908) [(.aload_n 1, 0, 0, 0), (.aload_n 0, 0, 0, 0), (.iload_n 3, 0, 0, 0), (.iconst 1, 0, 0, 0), (.iadd, 0, 0, 0)] (by decide +kernel) trivial rfl ?_
  show LW l b L xs 908 [some (.ref 1000007), some (.ref 0), some (.ref 65), some (.int (nI (6 * k)))] [.int (nI (6 * k) + Int32.ofInt 1), .ref 1000007, .ref 0] (hp s) 150 23754
  refine LW.scrLd (i := nI (6 * k) + Int32.ofInt 1) (lw_idx (j := 1) hk (by decide) hL).1 (by decide +kernel) ?_
  rw [show (nI (6 * k) + Int32.ofInt 1).toNatClampNeg = 6 * k + 1 from (lw_idx (j := 1) hk (by decide) hL).2]
  show LW l b L xs 909 [some (.ref 1000007), some (.ref 0), some (.ref 65), some (.int (nI (6 * k)))] [.int (xs (6 * k + 1)), .ref 0] (hp s) 150 23754
  refine LW.callV (M' := mi_X9_play) (o := 0) (d' := 1000) (As := [.int (xs (6 * k + 1))]) (rest := []) (r' := (some (.int r), hp s1)) (e_X9_play (d := 1000) (by decide) (xs (6 * k + 1)) s (r, s1) h1) (Nat.le_refl _) wm_X9_play wi_X9_play wv_X9_play kL_117 (kc rfl rfl) (Nat.le_of_ble_eq_true rfl) rfl rfl rfl (Nat.le_of_ble_eq_true rfl) ⟨Nat.le_of_ble_eq_true rfl, Nat.le_of_ble_eq_true rfl⟩ (by decide +kernel) ?_
  show LW l b L xs 912 [some (.ref 1000007), some (.ref 0), some (.ref 65), some (.int (nI (6 * k)))] [.int r] (hp s1) 150 23754
  refine LW.blk (pc' := 917) [(.aload_n 2, 0, 0, 0), (.aload_n 0, 0, 0, 0), (.iload_n 3, 0, 0, 0), (.iconst 1, 0, 0, 0), (.iadd, 0, 0, 0)] (by decide +kernel) trivial rfl ?_
  show LW l b L xs 917 [some (.ref 1000007), some (.ref 0), some (.ref 65), some (.int (nI (6 * k)))] [.int (nI (6 * k) + Int32.ofInt 1), .ref 1000007, .ref 65, .int r] (hp s1) 150 23754
  refine LW.scrLd (i := nI (6 * k) + Int32.ofInt 1) (lw_idx (j := 1) hk (by decide) hL).1 (by decide +kernel) ?_
  rw [show (nI (6 * k) + Int32.ofInt 1).toNatClampNeg = 6 * k + 1 from (lw_idx (j := 1) hk (by decide) hL).2]
  show LW l b L xs 918 [some (.ref 1000007), some (.ref 0), some (.ref 65), some (.int (nI (6 * k)))] [.int (xs (6 * k + 1)), .ref 65, .int r] (hp s1) 150 23754
  refine LW.callV (M' := mi_X10_play) (o := 65) (d' := 1000) (As := [.int (xs (6 * k + 1))]) (rest := [.int r]) (r' := (some (.int r), hp s2)) (e_X10_play (d := 1000) (by decide) (xs (6 * k + 1)) s1 (r, s2) h2) (Nat.le_refl _) wm_X10_play wi_X10_play wv_X10_play kL_120 (kc rfl rfl) (Nat.le_of_ble_eq_true rfl) rfl rfl rfl (Nat.le_of_ble_eq_true rfl) ⟨Nat.le_of_ble_eq_true rfl, Nat.le_of_ble_eq_true rfl⟩ (by decide +kernel) ?_
  show LW l b L xs 921 [some (.ref 1000007), some (.ref 0), some (.ref 65), some (.int (nI (6 * k)))] [.int r, .int r] (hp s2) 150 23754
  refine LW.icmp_eq (off := 206) (tgt := 1127) (by decide +kernel) (by decide) (fun _ => ?_) (fun q => absurd rfl q)
  exact ih s2 hI2
set_option maxHeartbeats 2000000 in
set_option maxRecDepth 20000 in
theorem lc_tend {l : Launch} {b L : Nat} {xs : Nat → Int32} {Inv : Nat → ST → Prop} {k : Nat} (hL : L ≤ 3072) (hk : 6 * k + 6 ≤ L) (hok : ok_tend Inv k) (ih : ∀ s : ST, Inv (k + 1) s → LW l b L xs 1127 [some (.ref 1000007), some (.ref 0), some (.ref 65), some (.int (nI (6 * k)))] [] (hp s) 150 23754) (s : ST) (hI : Inv k s) : LW l b L xs 926 [some (.ref 1000007), some (.ref 0), some (.ref 65), some (.int (nI (6 * k)))] [] (hp s) 150 23754 := by
  obtain ⟨r, s1, s2, h1, h2, hI2⟩ := hok s (xs (6 * k + 1)) (xs (6 * k + 2)) hI
  refine LW.blk (pc' := 931) [(.aload_n 1, 0, 0, 0), (.aload_n 0, 0, 0, 0), (.iload_n 3, 0, 0, 0), (.iconst 1, 0, 0, 0), (.iadd, 0, 0, 0)] (by decide +kernel) trivial rfl ?_
  show LW l b L xs 931 [some (.ref 1000007), some (.ref 0), some (.ref 65), some (.int (nI (6 * k)))] [.int (nI (6 * k) + Int32.ofInt 1), .ref 1000007, .ref 0] (hp s) 150 23754
  refine LW.scrLd (i := nI (6 * k) + Int32.ofInt 1) (lw_idx (j := 1) hk (by decide) hL).1 (by decide +kernel) ?_
  rw [show (nI (6 * k) + Int32.ofInt 1).toNatClampNeg = 6 * k + 1 from (lw_idx (j := 1) hk (by decide) hL).2]
  show LW l b L xs 932 [some (.ref 1000007), some (.ref 0), some (.ref 65), some (.int (nI (6 * k)))] [.int (xs (6 * k + 1)), .ref 0] (hp s) 150 23754
  refine LW.blk (pc' := 936) [(.aload_n 0, 0, 0, 0), (.iload_n 3, 0, 0, 0), (.iconst 2, 0, 0, 0), (.iadd, 0, 0, 0)] (by decide +kernel) trivial rfl ?_
  show LW l b L xs 936 [some (.ref 1000007), some (.ref 0), some (.ref 65), some (.int (nI (6 * k)))] [.int (nI (6 * k) + Int32.ofInt 2), .ref 1000007, .int (xs (6 * k + 1)), .ref 0] (hp s) 150 23754
  refine LW.scrLd (i := nI (6 * k) + Int32.ofInt 2) (lw_idx (j := 2) hk (by decide) hL).1 (by decide +kernel) ?_
  rw [show (nI (6 * k) + Int32.ofInt 2).toNatClampNeg = 6 * k + 2 from (lw_idx (j := 2) hk (by decide) hL).2]
  show LW l b L xs 937 [some (.ref 1000007), some (.ref 0), some (.ref 65), some (.int (nI (6 * k)))] [.int (xs (6 * k + 2)), .int (xs (6 * k + 1)), .ref 0] (hp s) 150 23754
  refine LW.callV (M' := mi_X9_tend) (o := 0) (d' := 1000) (As := [.int (xs (6 * k + 1)), .int (xs (6 * k + 2))]) (rest := []) (r' := (some (.int r), hp s1)) (e_X9_tend (d := 1000) (by decide) (xs (6 * k + 1)) (xs (6 * k + 2)) s (r, s1) h1) (Nat.le_refl _) wm_X9_tend wi_X9_tend wv_X9_tend kL_121 (kc rfl rfl) (Nat.le_of_ble_eq_true rfl) rfl rfl rfl (Nat.le_of_ble_eq_true rfl) ⟨Nat.le_of_ble_eq_true rfl, Nat.le_of_ble_eq_true rfl⟩ (by decide +kernel) ?_
  show LW l b L xs 940 [some (.ref 1000007), some (.ref 0), some (.ref 65), some (.int (nI (6 * k)))] [.int r] (hp s1) 150 23754
  refine LW.blk (pc' := 945) [(.aload_n 2, 0, 0, 0), (.aload_n 0, 0, 0, 0), (.iload_n 3, 0, 0, 0), (.iconst 1, 0, 0, 0), (.iadd, 0, 0, 0)] (by decide +kernel) trivial rfl ?_
  show LW l b L xs 945 [some (.ref 1000007), some (.ref 0), some (.ref 65), some (.int (nI (6 * k)))] [.int (nI (6 * k) + Int32.ofInt 1), .ref 1000007, .ref 65, .int r] (hp s1) 150 23754
  refine LW.scrLd (i := nI (6 * k) + Int32.ofInt 1) (lw_idx (j := 1) hk (by decide) hL).1 (by decide +kernel) ?_
  rw [show (nI (6 * k) + Int32.ofInt 1).toNatClampNeg = 6 * k + 1 from (lw_idx (j := 1) hk (by decide) hL).2]
  show LW l b L xs 946 [some (.ref 1000007), some (.ref 0), some (.ref 65), some (.int (nI (6 * k)))] [.int (xs (6 * k + 1)), .ref 65, .int r] (hp s1) 150 23754
  refine LW.blk (pc' := 950) [(.aload_n 0, 0, 0, 0), (.iload_n 3, 0, 0, 0), (.iconst 2, 0, 0, 0), (.iadd, 0, 0, 0)] (by decide +kernel) trivial rfl ?_
  show LW l b L xs 950 [some (.ref 1000007), some (.ref 0), some (.ref 65), some (.int (nI (6 * k)))] [.int (nI (6 * k) + Int32.ofInt 2), .ref 1000007, .int (xs (6 * k + 1)), .ref 65, .int r] (hp s1) 150 23754
  refine LW.scrLd (i := nI (6 * k) + Int32.ofInt 2) (lw_idx (j := 2) hk (by decide) hL).1 (by decide +kernel) ?_
  rw [show (nI (6 * k) + Int32.ofInt 2).toNatClampNeg = 6 * k + 2 from (lw_idx (j := 2) hk (by decide) hL).2]
  show LW l b L xs 951 [some (.ref 1000007), some (.ref 0), some (.ref 65), some (.int (nI (6 * k)))] [.int (xs (6 * k + 2)), .int (xs (6 * k + 1)), .ref 65, .int r] (hp s1) 150 23754
  refine LW.callV (M' := mi_X10_tend) (o := 65) (d' := 1000) (As := [.int (xs (6 * k + 1)), .int (xs (6 * k + 2))]) (rest := [.int r]) (r' := (some (.int r), hp s2)) (e_X10_tend (d := 1000) (by decide) (xs (6 * k + 1)) (xs (6 * k + 2)) s1 (r, s2) h2) (Nat.le_refl _) wm_X10_tend wi_X10_tend wv_X10_tend kL_124 (kc rfl rfl) (Nat.le_of_ble_eq_true rfl) rfl rfl rfl (Nat.le_of_ble_eq_true rfl) ⟨Nat.le_of_ble_eq_true rfl, Nat.le_of_ble_eq_true rfl⟩ (by decide +kernel) ?_
  show LW l b L xs 954 [some (.ref 1000007), some (.ref 0), some (.ref 65), some (.int (nI (6 * k)))] [.int r, .int r] (hp s2) 150 23754
  refine LW.icmp_eq (off := 173) (tgt := 1127) (by decide +kernel) (by decide) (fun _ => ?_) (fun q => absurd rfl q)
  exact ih s2 hI2
set_option maxHeartbeats 2000000 in
set_option maxRecDepth 20000 in
theorem lc_days {l : Launch} {b L : Nat} {xs : Nat → Int32} {Inv : Nat → ST → Prop} {k : Nat} (hL : L ≤ 3072) (hk : 6 * k + 6 ≤ L) (hok : ok_days Inv k) (ih : ∀ s : ST, Inv (k + 1) s → LW l b L xs 1127 [some (.ref 1000007), some (.ref 0), some (.ref 65), some (.int (nI (6 * k)))] [] (hp s) 150 23754) (s : ST) (hI : Inv k s) : LW l b L xs 959 [some (.ref 1000007), some (.ref 0), some (.ref 65), some (.int (nI (6 * k)))] [] (hp s) 150 23754 := by
  obtain ⟨r, s1, s2, h1, h2, hI2⟩ := hok s (xs (6 * k + 1)) hI
  refine LW.blk (pc' := 964) [(.aload_n 1, 0, 0, 0), (.aload_n 0, 0, 0, 0), (.iload_n 3, 0, 0, 0), (.iconst 1, 0, 0, 0), (.iadd, 0, 0, 0)] (by decide +kernel) trivial rfl ?_
  show LW l b L xs 964 [some (.ref 1000007), some (.ref 0), some (.ref 65), some (.int (nI (6 * k)))] [.int (nI (6 * k) + Int32.ofInt 1), .ref 1000007, .ref 0] (hp s) 150 23754
  refine LW.scrLd (i := nI (6 * k) + Int32.ofInt 1) (lw_idx (j := 1) hk (by decide) hL).1 (by decide +kernel) ?_
  rw [show (nI (6 * k) + Int32.ofInt 1).toNatClampNeg = 6 * k + 1 from (lw_idx (j := 1) hk (by decide) hL).2]
  show LW l b L xs 965 [some (.ref 1000007), some (.ref 0), some (.ref 65), some (.int (nI (6 * k)))] [.int (xs (6 * k + 1)), .ref 0] (hp s) 150 23754
  refine LW.callV (M' := mi_X9_days) (o := 0) (d' := 1000) (As := [.int (xs (6 * k + 1))]) (rest := []) (r' := (some (.int r), hp s1)) (e_X9_days (d := 1000) (by decide) (xs (6 * k + 1)) s (r, s1) h1) (Nat.le_refl _) wm_X9_days wi_X9_days wv_X9_days kL_125 (kc rfl rfl) (Nat.le_of_ble_eq_true rfl) rfl rfl rfl (Nat.le_of_ble_eq_true rfl) ⟨Nat.le_of_ble_eq_true rfl, Nat.le_of_ble_eq_true rfl⟩ (by decide +kernel) ?_
  show LW l b L xs 968 [some (.ref 1000007), some (.ref 0), some (.ref 65), some (.int (nI (6 * k)))] [.int r] (hp s1) 150 23754
  refine LW.blk (pc' := 973) [(.aload_n 2, 0, 0, 0), (.aload_n 0, 0, 0, 0), (.iload_n 3, 0, 0, 0), (.iconst 1, 0, 0, 0), (.iadd, 0, 0, 0)] (by decide +kernel) trivial rfl ?_
  show LW l b L xs 973 [some (.ref 1000007), some (.ref 0), some (.ref 65), some (.int (nI (6 * k)))] [.int (nI (6 * k) + Int32.ofInt 1), .ref 1000007, .ref 65, .int r] (hp s1) 150 23754
  refine LW.scrLd (i := nI (6 * k) + Int32.ofInt 1) (lw_idx (j := 1) hk (by decide) hL).1 (by decide +kernel) ?_
  rw [show (nI (6 * k) + Int32.ofInt 1).toNatClampNeg = 6 * k + 1 from (lw_idx (j := 1) hk (by decide) hL).2]
  show LW l b L xs 974 [some (.ref 1000007), some (.ref 0), some (.ref 65), some (.int (nI (6 * k)))] [.int (xs (6 * k + 1)), .ref 65, .int r] (hp s1) 150 23754
  refine LW.callV (M' := mi_X10_days) (o := 65) (d' := 1000) (As := [.int (xs (6 * k + 1))]) (rest := [.int r]) (r' := (some (.int r), hp s2)) (e_X10_days (d := 1000) (by decide) (xs (6 * k + 1)) s1 (r, s2) h2) (Nat.le_refl _) wm_X10_days wi_X10_days wv_X10_days kL_128 (kc rfl rfl) (Nat.le_of_ble_eq_true rfl) rfl rfl rfl (Nat.le_of_ble_eq_true rfl) ⟨Nat.le_of_ble_eq_true rfl, Nat.le_of_ble_eq_true rfl⟩ (by decide +kernel) ?_
  show LW l b L xs 977 [some (.ref 1000007), some (.ref 0), some (.ref 65), some (.int (nI (6 * k)))] [.int r, .int r] (hp s2) 150 23754
  refine LW.icmp_eq (off := 150) (tgt := 1127) (by decide +kernel) (by decide) (fun _ => ?_) (fun q => absurd rfl q)
  exact ih s2 hI2
set_option maxHeartbeats 2000000 in
set_option maxRecDepth 20000 in
theorem lc_chance {l : Launch} {b L : Nat} {xs : Nat → Int32} {Inv : Nat → ST → Prop} {k : Nat} (hL : L ≤ 3072) (hk : 6 * k + 6 ≤ L) (hok : ok_chance Inv k) (ih : ∀ s : ST, Inv (k + 1) s → LW l b L xs 1127 [some (.ref 1000007), some (.ref 0), some (.ref 65), some (.int (nI (6 * k)))] [] (hp s) 150 23754) (s : ST) (hI : Inv k s) : LW l b L xs 982 [some (.ref 1000007), some (.ref 0), some (.ref 65), some (.int (nI (6 * k)))] [] (hp s) 150 23754 := by
  obtain ⟨r, s1, s2, h1, h2, hI2⟩ := hok s (xs (6 * k + 1)) hI
  refine LW.blk (pc' := 987) [(.aload_n 1, 0, 0, 0), (.aload_n 0, 0, 0, 0), (.iload_n 3, 0, 0, 0), (.iconst 1, 0, 0, 0), (.iadd, 0, 0, 0)] (by decide +kernel) trivial rfl ?_
  show LW l b L xs 987 [some (.ref 1000007), some (.ref 0), some (.ref 65), some (.int (nI (6 * k)))] [.int (nI (6 * k) + Int32.ofInt 1), .ref 1000007, .ref 0] (hp s) 150 23754
  refine LW.scrLd (i := nI (6 * k) + Int32.ofInt 1) (lw_idx (j := 1) hk (by decide) hL).1 (by decide +kernel) ?_
  rw [show (nI (6 * k) + Int32.ofInt 1).toNatClampNeg = 6 * k + 1 from (lw_idx (j := 1) hk (by decide) hL).2]
  show LW l b L xs 988 [some (.ref 1000007), some (.ref 0), some (.ref 65), some (.int (nI (6 * k)))] [.int (xs (6 * k + 1)), .ref 0] (hp s) 150 23754
  refine LW.callV (M' := mi_X9_chance) (o := 0) (d' := 1000) (As := [.int (xs (6 * k + 1))]) (rest := []) (r' := (some (.int r), hp s1)) (e_X9_chance (d := 1000) (by decide) (xs (6 * k + 1)) s (r, s1) h1) (Nat.le_refl _) wm_X9_chance wi_X9_chance wv_X9_chance kL_129 (kc rfl rfl) (Nat.le_of_ble_eq_true rfl) rfl rfl rfl (Nat.le_of_ble_eq_true rfl) ⟨Nat.le_of_ble_eq_true rfl, Nat.le_of_ble_eq_true rfl⟩ (by decide +kernel) ?_
  show LW l b L xs 991 [some (.ref 1000007), some (.ref 0), some (.ref 65), some (.int (nI (6 * k)))] [.int r] (hp s1) 150 23754
  refine LW.blk (pc' := 996) [(.aload_n 2, 0, 0, 0), (.aload_n 0, 0, 0, 0), (.iload_n 3, 0, 0, 0), (.iconst 1, 0, 0, 0), (.iadd, 0, 0, 0)] (by decide +kernel) trivial rfl ?_
  show LW l b L xs 996 [some (.ref 1000007), some (.ref 0), some (.ref 65), some (.int (nI (6 * k)))] [.int (nI (6 * k) + Int32.ofInt 1), .ref 1000007, .ref 65, .int r] (hp s1) 150 23754
  refine LW.scrLd (i := nI (6 * k) + Int32.ofInt 1) (lw_idx (j := 1) hk (by decide) hL).1 (by decide +kernel) ?_
  rw [show (nI (6 * k) + Int32.ofInt 1).toNatClampNeg = 6 * k + 1 from (lw_idx (j := 1) hk (by decide) hL).2]
  show LW l b L xs 997 [some (.ref 1000007), some (.ref 0), some (.ref 65), some (.int (nI (6 * k)))] [.int (xs (6 * k + 1)), .ref 65, .int r] (hp s1) 150 23754
  refine LW.callV (M' := mi_X10_chance) (o := 65) (d' := 1000) (As := [.int (xs (6 * k + 1))]) (rest := [.int r]) (r' := (some (.int r), hp s2)) (e_X10_chance (d := 1000) (by decide) (xs (6 * k + 1)) s1 (r, s2) h2) (Nat.le_refl _) wm_X10_chance wi_X10_chance wv_X10_chance kL_132 (kc rfl rfl) (Nat.le_of_ble_eq_true rfl) rfl rfl rfl (Nat.le_of_ble_eq_true rfl) ⟨Nat.le_of_ble_eq_true rfl, Nat.le_of_ble_eq_true rfl⟩ (by decide +kernel) ?_
  show LW l b L xs 1000 [some (.ref 1000007), some (.ref 0), some (.ref 65), some (.int (nI (6 * k)))] [.int r, .int r] (hp s2) 150 23754
  refine LW.icmp_eq (off := 127) (tgt := 1127) (by decide +kernel) (by decide) (fun _ => ?_) (fun q => absurd rfl q)
  exact ih s2 hI2
set_option maxHeartbeats 2000000 in
set_option maxRecDepth 20000 in
theorem lc_undo {l : Launch} {b L : Nat} {xs : Nat → Int32} {Inv : Nat → ST → Prop} {k : Nat} (hL : L ≤ 3072) (hk : 6 * k + 6 ≤ L) (hok : ok_undo Inv k) (ih : ∀ s : ST, Inv (k + 1) s → LW l b L xs 1127 [some (.ref 1000007), some (.ref 0), some (.ref 65), some (.int (nI (6 * k)))] [] (hp s) 150 23754) (s : ST) (hI : Inv k s) : LW l b L xs 1005 [some (.ref 1000007), some (.ref 0), some (.ref 65), some (.int (nI (6 * k)))] [] (hp s) 150 23754 := by
  obtain ⟨r, s1, s2, h1, h2, hI2⟩ := hok s hI
  refine LW.blk (pc' := 1006) [(.aload_n 1, 0, 0, 0)] (by decide +kernel) trivial rfl ?_
  show LW l b L xs 1006 [some (.ref 1000007), some (.ref 0), some (.ref 65), some (.int (nI (6 * k)))] [.ref 0] (hp s) 150 23754
  refine LW.callV (M' := mi_X9_undo) (o := 0) (d' := 1000) (As := []) (rest := []) (r' := (some (.int r), hp s1)) (e_X9_undo (d := 1000) (by decide) s (r, s1) h1) (Nat.le_refl _) wm_X9_undo wi_X9_undo wv_X9_undo kL_133 (kc rfl rfl) (Nat.le_of_ble_eq_true rfl) rfl rfl rfl (Nat.le_of_ble_eq_true rfl) ⟨Nat.le_of_ble_eq_true rfl, Nat.le_of_ble_eq_true rfl⟩ (by decide +kernel) ?_
  show LW l b L xs 1009 [some (.ref 1000007), some (.ref 0), some (.ref 65), some (.int (nI (6 * k)))] [.int r] (hp s1) 150 23754
  refine LW.blk (pc' := 1010) [(.aload_n 2, 0, 0, 0)] (by decide +kernel) trivial rfl ?_
  show LW l b L xs 1010 [some (.ref 1000007), some (.ref 0), some (.ref 65), some (.int (nI (6 * k)))] [.ref 65, .int r] (hp s1) 150 23754
  refine LW.callV (M' := mi_X10_undo) (o := 65) (d' := 1000) (As := []) (rest := [.int r]) (r' := (some (.int r), hp s2)) (e_X10_undo (d := 1000) (by decide) s1 (r, s2) h2) (Nat.le_refl _) wm_X10_undo wi_X10_undo wv_X10_undo kL_137 (kc rfl rfl) (Nat.le_of_ble_eq_true rfl) rfl rfl rfl (Nat.le_of_ble_eq_true rfl) ⟨Nat.le_of_ble_eq_true rfl, Nat.le_of_ble_eq_true rfl⟩ (by decide +kernel) ?_
  show LW l b L xs 1013 [some (.ref 1000007), some (.ref 0), some (.ref 65), some (.int (nI (6 * k)))] [.int r, .int r] (hp s2) 150 23754
  refine LW.icmp_eq (off := 114) (tgt := 1127) (by decide +kernel) (by decide) (fun _ => ?_) (fun q => absurd rfl q)
  exact ih s2 hI2
set_option maxHeartbeats 2000000 in
set_option maxRecDepth 20000 in
theorem lc_seed {l : Launch} {b L : Nat} {xs : Nat → Int32} {Inv : Nat → ST → Prop} {k : Nat} (hL : L ≤ 3072) (hk : 6 * k + 6 ≤ L) (hok : ok_seed Inv k) (ih : ∀ s : ST, Inv (k + 1) s → LW l b L xs 1127 [some (.ref 1000007), some (.ref 0), some (.ref 65), some (.int (nI (6 * k)))] [] (hp s) 150 23754) (s : ST) (hI : Inv k s) : LW l b L xs 1018 [some (.ref 1000007), some (.ref 0), some (.ref 65), some (.int (nI (6 * k)))] [] (hp s) 150 23754 := by
  obtain ⟨r, s1, s2, h1, h2, hI2⟩ := hok s (xs (6 * k + 1)) hI
  refine LW.blk (pc' := 1023) [(.aload_n 1, 0, 0, 0), (.aload_n 0, 0, 0, 0), (.iload_n 3, 0, 0, 0), (.iconst 1, 0, 0, 0), (.iadd, 0, 0, 0)] (by decide +kernel) trivial rfl ?_
  show LW l b L xs 1023 [some (.ref 1000007), some (.ref 0), some (.ref 65), some (.int (nI (6 * k)))] [.int (nI (6 * k) + Int32.ofInt 1), .ref 1000007, .ref 0] (hp s) 150 23754
  refine LW.scrLd (i := nI (6 * k) + Int32.ofInt 1) (lw_idx (j := 1) hk (by decide) hL).1 (by decide +kernel) ?_
  rw [show (nI (6 * k) + Int32.ofInt 1).toNatClampNeg = 6 * k + 1 from (lw_idx (j := 1) hk (by decide) hL).2]
  show LW l b L xs 1024 [some (.ref 1000007), some (.ref 0), some (.ref 65), some (.int (nI (6 * k)))] [.int (xs (6 * k + 1)), .ref 0] (hp s) 150 23754
  refine LW.callV (M' := mi_X9_seed) (o := 0) (d' := 1000) (As := [.int (xs (6 * k + 1))]) (rest := []) (r' := (some (.int r), hp s1)) (e_X9_seed (d := 1000) (by decide) (xs (6 * k + 1)) s (r, s1) h1) (Nat.le_refl _) wm_X9_seed wi_X9_seed wv_X9_seed kL_138 (kc rfl rfl) (Nat.le_of_ble_eq_true rfl) rfl rfl rfl (Nat.le_of_ble_eq_true rfl) ⟨Nat.le_of_ble_eq_true rfl, Nat.le_of_ble_eq_true rfl⟩ (by decide +kernel) ?_
  show LW l b L xs 1027 [some (.ref 1000007), some (.ref 0), some (.ref 65), some (.int (nI (6 * k)))] [.int r] (hp s1) 150 23754
  refine LW.blk (pc' := 1032) [(.aload_n 2, 0, 0, 0), (.aload_n 0, 0, 0, 0), (.iload_n 3, 0, 0, 0), (.iconst 1, 0, 0, 0), (.iadd, 0, 0, 0)] (by decide +kernel) trivial rfl ?_
  show LW l b L xs 1032 [some (.ref 1000007), some (.ref 0), some (.ref 65), some (.int (nI (6 * k)))] [.int (nI (6 * k) + Int32.ofInt 1), .ref 1000007, .ref 65, .int r] (hp s1) 150 23754
  refine LW.scrLd (i := nI (6 * k) + Int32.ofInt 1) (lw_idx (j := 1) hk (by decide) hL).1 (by decide +kernel) ?_
  rw [show (nI (6 * k) + Int32.ofInt 1).toNatClampNeg = 6 * k + 1 from (lw_idx (j := 1) hk (by decide) hL).2]
  show LW l b L xs 1033 [some (.ref 1000007), some (.ref 0), some (.ref 65), some (.int (nI (6 * k)))] [.int (xs (6 * k + 1)), .ref 65, .int r] (hp s1) 150 23754
  refine LW.callV (M' := mi_X10_seed) (o := 65) (d' := 1000) (As := [.int (xs (6 * k + 1))]) (rest := [.int r]) (r' := (some (.int r), hp s2)) (e_X10_seed (d := 1000) (by decide) (xs (6 * k + 1)) s1 (r, s2) h2) (Nat.le_refl _) wm_X10_seed wi_X10_seed wv_X10_seed kL_141 (kc rfl rfl) (Nat.le_of_ble_eq_true rfl) rfl rfl rfl (Nat.le_of_ble_eq_true rfl) ⟨Nat.le_of_ble_eq_true rfl, Nat.le_of_ble_eq_true rfl⟩ (by decide +kernel) ?_
  show LW l b L xs 1036 [some (.ref 1000007), some (.ref 0), some (.ref 65), some (.int (nI (6 * k)))] [.int r, .int r] (hp s2) 150 23754
  refine LW.icmp_eq (off := 91) (tgt := 1127) (by decide +kernel) (by decide) (fun _ => ?_) (fun q => absurd rfl q)
  exact ih s2 hI2
set_option maxHeartbeats 2000000 in
set_option maxRecDepth 20000 in
theorem lc_ask {l : Launch} {b L : Nat} {xs : Nat → Int32} {Inv : Nat → ST → Prop} {k : Nat} (hL : L ≤ 3072) (hk : 6 * k + 6 ≤ L) (hok : ok_ask Inv k) (ih : ∀ s : ST, Inv (k + 1) s → LW l b L xs 1127 [some (.ref 1000007), some (.ref 0), some (.ref 65), some (.int (nI (6 * k)))] [] (hp s) 150 23754) (s : ST) (hI : Inv k s) : LW l b L xs 1041 [some (.ref 1000007), some (.ref 0), some (.ref 65), some (.int (nI (6 * k)))] [] (hp s) 150 23754 := by
  obtain ⟨r, s1, s2, h1, h2, hI2⟩ := hok s hI
  refine LW.blk (pc' := 1042) [(.aload_n 1, 0, 0, 0)] (by decide +kernel) trivial rfl ?_
  show LW l b L xs 1042 [some (.ref 1000007), some (.ref 0), some (.ref 65), some (.int (nI (6 * k)))] [.ref 0] (hp s) 150 23754
  refine LW.callV (M' := mi_X9_ask) (o := 0) (d' := 1000) (As := []) (rest := []) (r' := (some (.long r), hp s1)) (e_X9_ask (d := 1000) (by decide) s (r, s1) h1) (Nat.le_refl _) wm_X9_ask wi_X9_ask wv_X9_ask kL_142 (kc rfl rfl) (Nat.le_of_ble_eq_true rfl) rfl rfl rfl (Nat.le_of_ble_eq_true rfl) ⟨Nat.le_of_ble_eq_true rfl, Nat.le_of_ble_eq_true rfl⟩ (by decide +kernel) ?_
  show LW l b L xs 1045 [some (.ref 1000007), some (.ref 0), some (.ref 65), some (.int (nI (6 * k)))] [.long r] (hp s1) 150 23754
  refine LW.blk (pc' := 1046) [(.aload_n 2, 0, 0, 0)] (by decide +kernel) trivial rfl ?_
  show LW l b L xs 1046 [some (.ref 1000007), some (.ref 0), some (.ref 65), some (.int (nI (6 * k)))] [.ref 65, .long r] (hp s1) 150 23754
  refine LW.callV (M' := mi_X10_ask) (o := 65) (d' := 1000) (As := []) (rest := [.long r]) (r' := (some (.long r), hp s2)) (e_X10_ask (d := 1000) (by decide) s1 (r, s2) h2) (Nat.le_refl _) wm_X10_ask wi_X10_ask wv_X10_ask kL_146 (kc rfl rfl) (Nat.le_of_ble_eq_true rfl) rfl rfl rfl (Nat.le_of_ble_eq_true rfl) ⟨Nat.le_of_ble_eq_true rfl, Nat.le_of_ble_eq_true rfl⟩ (by decide +kernel) ?_
  show LW l b L xs 1049 [some (.ref 1000007), some (.ref 0), some (.ref 65), some (.int (nI (6 * k)))] [.long r, .long r] (hp s2) 150 23754
  refine LW.blk (pc' := 1050) [(.lcmp, 0, 0, 0)] (by decide +kernel) trivial rfl ?_
  show LW l b L xs 1050 [some (.ref 1000007), some (.ref 0), some (.ref 65), some (.int (nI (6 * k)))] [.int (lg_cmp r r)] (hp s2) 150 23754
  refine LW.if_eq (off := 77) (tgt := 1127) (by decide +kernel) (by decide) (fun _ => ?_) (fun q => absurd (by simp [lg_cmp]) q)
  exact ih s2 hI2
set_option maxHeartbeats 2000000 in
set_option maxRecDepth 20000 in
theorem lc_image {l : Launch} {b L : Nat} {xs : Nat → Int32} {Inv : Nat → ST → Prop} {k : Nat} (hL : L ≤ 3072) (hk : 6 * k + 6 ≤ L) (hok : ok_image Inv k) (ih : ∀ s : ST, Inv (k + 1) s → LW l b L xs 1127 [some (.ref 1000007), some (.ref 0), some (.ref 65), some (.int (nI (6 * k)))] [] (hp s) 150 23754) (s : ST) (hI : Inv k s) : LW l b L xs 1055 [some (.ref 1000007), some (.ref 0), some (.ref 65), some (.int (nI (6 * k)))] [] (hp s) 150 23754 := by
  obtain ⟨r, s1, s2, h1, h2, hI2⟩ := hok s hI
  refine LW.blk (pc' := 1056) [(.aload_n 1, 0, 0, 0)] (by decide +kernel) trivial rfl ?_
  show LW l b L xs 1056 [some (.ref 1000007), some (.ref 0), some (.ref 65), some (.int (nI (6 * k)))] [.ref 0] (hp s) 150 23754
  refine LW.callV (M' := mi_X9_image) (o := 0) (d' := 1000) (As := []) (rest := []) (r' := (some (.int r), hp s1)) (e_X9_image (d := 1000) (by decide) s (r, s1) h1) (Nat.le_refl _) wm_X9_image wi_X9_image wv_X9_image kL_147 (kc rfl rfl) (Nat.le_of_ble_eq_true rfl) rfl rfl rfl (Nat.le_of_ble_eq_true rfl) ⟨Nat.le_of_ble_eq_true rfl, Nat.le_of_ble_eq_true rfl⟩ (by decide +kernel) ?_
  show LW l b L xs 1059 [some (.ref 1000007), some (.ref 0), some (.ref 65), some (.int (nI (6 * k)))] [.int r] (hp s1) 150 23754
  refine LW.blk (pc' := 1060) [(.aload_n 2, 0, 0, 0)] (by decide +kernel) trivial rfl ?_
  show LW l b L xs 1060 [some (.ref 1000007), some (.ref 0), some (.ref 65), some (.int (nI (6 * k)))] [.ref 65, .int r] (hp s1) 150 23754
  refine LW.callV (M' := mi_X10_image) (o := 65) (d' := 1000) (As := []) (rest := [.int r]) (r' := (some (.int r), hp s2)) (e_X10_image (d := 1000) (by decide) s1 (r, s2) h2) (Nat.le_refl _) wm_X10_image wi_X10_image wv_X10_image kL_150 (kc rfl rfl) (Nat.le_of_ble_eq_true rfl) rfl rfl rfl (Nat.le_of_ble_eq_true rfl) ⟨Nat.le_of_ble_eq_true rfl, Nat.le_of_ble_eq_true rfl⟩ (by decide +kernel) ?_
  show LW l b L xs 1063 [some (.ref 1000007), some (.ref 0), some (.ref 65), some (.int (nI (6 * k)))] [.int r, .int r] (hp s2) 150 23754
  refine LW.icmp_eq (off := 64) (tgt := 1127) (by decide +kernel) (by decide) (fun _ => ?_) (fun q => absurd rfl q)
  exact ih s2 hI2
set_option maxHeartbeats 2000000 in
set_option maxRecDepth 20000 in
theorem lc_octet {l : Launch} {b L : Nat} {xs : Nat → Int32} {Inv : Nat → ST → Prop} {k : Nat} (hL : L ≤ 3072) (hk : 6 * k + 6 ≤ L) (hok : ok_octet Inv k) (ih : ∀ s : ST, Inv (k + 1) s → LW l b L xs 1127 [some (.ref 1000007), some (.ref 0), some (.ref 65), some (.int (nI (6 * k)))] [] (hp s) 150 23754) (s : ST) (hI : Inv k s) : LW l b L xs 1068 [some (.ref 1000007), some (.ref 0), some (.ref 65), some (.int (nI (6 * k)))] [] (hp s) 150 23754 := by
  obtain ⟨r, s1, s2, h1, h2, hI2⟩ := hok s (xs (6 * k + 1)) hI
  refine LW.blk (pc' := 1073) [(.aload_n 1, 0, 0, 0), (.aload_n 0, 0, 0, 0), (.iload_n 3, 0, 0, 0), (.iconst 1, 0, 0, 0), (.iadd, 0, 0, 0)] (by decide +kernel) trivial rfl ?_
  show LW l b L xs 1073 [some (.ref 1000007), some (.ref 0), some (.ref 65), some (.int (nI (6 * k)))] [.int (nI (6 * k) + Int32.ofInt 1), .ref 1000007, .ref 0] (hp s) 150 23754
  refine LW.scrLd (i := nI (6 * k) + Int32.ofInt 1) (lw_idx (j := 1) hk (by decide) hL).1 (by decide +kernel) ?_
  rw [show (nI (6 * k) + Int32.ofInt 1).toNatClampNeg = 6 * k + 1 from (lw_idx (j := 1) hk (by decide) hL).2]
  show LW l b L xs 1074 [some (.ref 1000007), some (.ref 0), some (.ref 65), some (.int (nI (6 * k)))] [.int (xs (6 * k + 1)), .ref 0] (hp s) 150 23754
  refine LW.callV (M' := mi_X9_octet) (o := 0) (d' := 1000) (As := [.int (xs (6 * k + 1))]) (rest := []) (r' := (some (.int r), hp s1)) (e_X9_octet (d := 1000) (by decide) (xs (6 * k + 1)) s (r, s1) h1) (Nat.le_refl _) wm_X9_octet wi_X9_octet wv_X9_octet kL_151 (kc rfl rfl) (Nat.le_of_ble_eq_true rfl) rfl rfl rfl (Nat.le_of_ble_eq_true rfl) ⟨Nat.le_of_ble_eq_true rfl, Nat.le_of_ble_eq_true rfl⟩ (by decide +kernel) ?_
  show LW l b L xs 1077 [some (.ref 1000007), some (.ref 0), some (.ref 65), some (.int (nI (6 * k)))] [.int r] (hp s1) 150 23754
  refine LW.blk (pc' := 1082) [(.aload_n 2, 0, 0, 0), (.aload_n 0, 0, 0, 0), (.iload_n 3, 0, 0, 0), (.iconst 1, 0, 0, 0), (.iadd, 0, 0, 0)] (by decide +kernel) trivial rfl ?_
  show LW l b L xs 1082 [some (.ref 1000007), some (.ref 0), some (.ref 65), some (.int (nI (6 * k)))] [.int (nI (6 * k) + Int32.ofInt 1), .ref 1000007, .ref 65, .int r] (hp s1) 150 23754
  refine LW.scrLd (i := nI (6 * k) + Int32.ofInt 1) (lw_idx (j := 1) hk (by decide) hL).1 (by decide +kernel) ?_
  rw [show (nI (6 * k) + Int32.ofInt 1).toNatClampNeg = 6 * k + 1 from (lw_idx (j := 1) hk (by decide) hL).2]
  show LW l b L xs 1083 [some (.ref 1000007), some (.ref 0), some (.ref 65), some (.int (nI (6 * k)))] [.int (xs (6 * k + 1)), .ref 65, .int r] (hp s1) 150 23754
  refine LW.callV (M' := mi_X10_octet) (o := 65) (d' := 1000) (As := [.int (xs (6 * k + 1))]) (rest := [.int r]) (r' := (some (.int r), hp s2)) (e_X10_octet (d := 1000) (by decide) (xs (6 * k + 1)) s1 (r, s2) h2) (Nat.le_refl _) wm_X10_octet wi_X10_octet wv_X10_octet kL_154 (kc rfl rfl) (Nat.le_of_ble_eq_true rfl) rfl rfl rfl (Nat.le_of_ble_eq_true rfl) ⟨Nat.le_of_ble_eq_true rfl, Nat.le_of_ble_eq_true rfl⟩ (by decide +kernel) ?_
  show LW l b L xs 1086 [some (.ref 1000007), some (.ref 0), some (.ref 65), some (.int (nI (6 * k)))] [.int r, .int r] (hp s2) 150 23754
  refine LW.icmp_eq (off := 41) (tgt := 1127) (by decide +kernel) (by decide) (fun _ => ?_) (fun q => absurd rfl q)
  exact ih s2 hI2
set_option maxHeartbeats 2000000 in
set_option maxRecDepth 20000 in
theorem lc_on {l : Launch} {b L : Nat} {xs : Nat → Int32} {Inv : Nat → ST → Prop} {k : Nat} (hL : L ≤ 3072) (hk : 6 * k + 6 ≤ L) (hok : ok_on Inv k) (ih : ∀ s : ST, Inv (k + 1) s → LW l b L xs 1127 [some (.ref 1000007), some (.ref 0), some (.ref 65), some (.int (nI (6 * k)))] [] (hp s) 150 23754) (s : ST) (hI : Inv k s) : LW l b L xs 1091 [some (.ref 1000007), some (.ref 0), some (.ref 65), some (.int (nI (6 * k)))] [] (hp s) 150 23754 := by
  obtain ⟨r, s1, s2, h1, h2, hI2⟩ := hok s hI
  refine LW.blk (pc' := 1092) [(.aload_n 1, 0, 0, 0)] (by decide +kernel) trivial rfl ?_
  show LW l b L xs 1092 [some (.ref 1000007), some (.ref 0), some (.ref 65), some (.int (nI (6 * k)))] [.ref 0] (hp s) 150 23754
  refine LW.callV (M' := mi_X9_on) (o := 0) (d' := 1000) (As := []) (rest := []) (r' := (some (.int r), hp s1)) (e_X9_on (d := 1000) (by decide) s (r, s1) h1) (Nat.le_refl _) wm_X9_on wi_X9_on wv_X9_on kL_155 (kc rfl rfl) (Nat.le_of_ble_eq_true rfl) rfl rfl rfl (Nat.le_of_ble_eq_true rfl) ⟨Nat.le_of_ble_eq_true rfl, Nat.le_of_ble_eq_true rfl⟩ (by decide +kernel) ?_
  show LW l b L xs 1095 [some (.ref 1000007), some (.ref 0), some (.ref 65), some (.int (nI (6 * k)))] [.int r] (hp s1) 150 23754
  refine LW.blk (pc' := 1096) [(.aload_n 2, 0, 0, 0)] (by decide +kernel) trivial rfl ?_
  show LW l b L xs 1096 [some (.ref 1000007), some (.ref 0), some (.ref 65), some (.int (nI (6 * k)))] [.ref 65, .int r] (hp s1) 150 23754
  refine LW.callV (M' := mi_X10_on) (o := 65) (d' := 1000) (As := []) (rest := [.int r]) (r' := (some (.int r), hp s2)) (e_X10_on (d := 1000) (by decide) s1 (r, s2) h2) (Nat.le_refl _) wm_X10_on wi_X10_on wv_X10_on kL_158 (kc rfl rfl) (Nat.le_of_ble_eq_true rfl) rfl rfl rfl (Nat.le_of_ble_eq_true rfl) ⟨Nat.le_of_ble_eq_true rfl, Nat.le_of_ble_eq_true rfl⟩ (by decide +kernel) ?_
  show LW l b L xs 1099 [some (.ref 1000007), some (.ref 0), some (.ref 65), some (.int (nI (6 * k)))] [.int r, .int r] (hp s2) 150 23754
  refine LW.icmp_eq (off := 28) (tgt := 1127) (by decide +kernel) (by decide) (fun _ => ?_) (fun q => absurd rfl q)
  exact ih s2 hI2
set_option maxHeartbeats 2000000 in
set_option maxRecDepth 20000 in
theorem lc_status {l : Launch} {b L : Nat} {xs : Nat → Int32} {Inv : Nat → ST → Prop} {k : Nat} (hL : L ≤ 3072) (hk : 6 * k + 6 ≤ L) (hok : ok_status Inv k) (ih : ∀ s : ST, Inv (k + 1) s → LW l b L xs 1127 [some (.ref 1000007), some (.ref 0), some (.ref 65), some (.int (nI (6 * k)))] [] (hp s) 150 23754) (s : ST) (hI : Inv k s) : LW l b L xs 1104 [some (.ref 1000007), some (.ref 0), some (.ref 65), some (.int (nI (6 * k)))] [] (hp s) 150 23754 := by
  obtain ⟨r, s1, s2, h1, h2, hI2⟩ := hok s (xs (6 * k + 1)) hI
  refine LW.blk (pc' := 1109) [(.aload_n 1, 0, 0, 0), (.aload_n 0, 0, 0, 0), (.iload_n 3, 0, 0, 0), (.iconst 1, 0, 0, 0), (.iadd, 0, 0, 0)] (by decide +kernel) trivial rfl ?_
  show LW l b L xs 1109 [some (.ref 1000007), some (.ref 0), some (.ref 65), some (.int (nI (6 * k)))] [.int (nI (6 * k) + Int32.ofInt 1), .ref 1000007, .ref 0] (hp s) 150 23754
  refine LW.scrLd (i := nI (6 * k) + Int32.ofInt 1) (lw_idx (j := 1) hk (by decide) hL).1 (by decide +kernel) ?_
  rw [show (nI (6 * k) + Int32.ofInt 1).toNatClampNeg = 6 * k + 1 from (lw_idx (j := 1) hk (by decide) hL).2]
  show LW l b L xs 1110 [some (.ref 1000007), some (.ref 0), some (.ref 65), some (.int (nI (6 * k)))] [.int (xs (6 * k + 1)), .ref 0] (hp s) 150 23754
  refine LW.callV (M' := mi_X9_status) (o := 0) (d' := 1000) (As := [.int (xs (6 * k + 1))]) (rest := []) (r' := (some (.int r), hp s1)) (e_X9_status (d := 1000) (by decide) (xs (6 * k + 1)) s (r, s1) h1) (Nat.le_refl _) wm_X9_status wi_X9_status wv_X9_status kL_159 (kc rfl rfl) (Nat.le_of_ble_eq_true rfl) rfl rfl rfl (Nat.le_of_ble_eq_true rfl) ⟨Nat.le_of_ble_eq_true rfl, Nat.le_of_ble_eq_true rfl⟩ (by decide +kernel) ?_
  show LW l b L xs 1113 [some (.ref 1000007), some (.ref 0), some (.ref 65), some (.int (nI (6 * k)))] [.int r] (hp s1) 150 23754
  refine LW.blk (pc' := 1118) [(.aload_n 2, 0, 0, 0), (.aload_n 0, 0, 0, 0), (.iload_n 3, 0, 0, 0), (.iconst 1, 0, 0, 0), (.iadd, 0, 0, 0)] (by decide +kernel) trivial rfl ?_
  show LW l b L xs 1118 [some (.ref 1000007), some (.ref 0), some (.ref 65), some (.int (nI (6 * k)))] [.int (nI (6 * k) + Int32.ofInt 1), .ref 1000007, .ref 65, .int r] (hp s1) 150 23754
  refine LW.scrLd (i := nI (6 * k) + Int32.ofInt 1) (lw_idx (j := 1) hk (by decide) hL).1 (by decide +kernel) ?_
  rw [show (nI (6 * k) + Int32.ofInt 1).toNatClampNeg = 6 * k + 1 from (lw_idx (j := 1) hk (by decide) hL).2]
  show LW l b L xs 1119 [some (.ref 1000007), some (.ref 0), some (.ref 65), some (.int (nI (6 * k)))] [.int (xs (6 * k + 1)), .ref 65, .int r] (hp s1) 150 23754
  refine LW.callV (M' := mi_X10_status) (o := 65) (d' := 1000) (As := [.int (xs (6 * k + 1))]) (rest := [.int r]) (r' := (some (.int r), hp s2)) (e_X10_status (d := 1000) (by decide) (xs (6 * k + 1)) s1 (r, s2) h2) (Nat.le_refl _) wm_X10_status wi_X10_status wv_X10_status kL_162 (kc rfl rfl) (Nat.le_of_ble_eq_true rfl) rfl rfl rfl (Nat.le_of_ble_eq_true rfl) ⟨Nat.le_of_ble_eq_true rfl, Nat.le_of_ble_eq_true rfl⟩ (by decide +kernel) ?_
  show LW l b L xs 1122 [some (.ref 1000007), some (.ref 0), some (.ref 65), some (.int (nI (6 * k)))] [.int r, .int r] (hp s2) 150 23754
  refine LW.icmp_eq (off := 5) (tgt := 1127) (by decide +kernel) (by decide) (fun _ => ?_) (fun q => absurd rfl q)
  exact ih s2 hI2
