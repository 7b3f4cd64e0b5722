/-! WORDS of the tables, by their places -/
theorem sg_1 {i : Nat} {w : Cond} (h : tables_1_1[i]? = some w) (g : goodWord w = true) : w ∈ sm_Tg := by
  have hm := List.mem_of_getElem? h
  exact List.mem_filter.mpr ⟨List.mem_append_right _ (show w ∈ tables_1 from List.mem_append_left _ hm), g⟩
theorem sg_2 {i : Nat} {w : Cond} (h : tables_1_2[i]? = some w) (g : goodWord w = true) : w ∈ sm_Tg := by
  have hm := List.mem_of_getElem? h
  exact List.mem_filter.mpr ⟨List.mem_append_right _ (show w ∈ tables_1 from List.mem_append_right _ (List.mem_append_left _ hm)), g⟩
theorem sg_3 {i : Nat} {w : Cond} (h : tables_1_3[i]? = some w) (g : goodWord w = true) : w ∈ sm_Tg := by
  have hm := List.mem_of_getElem? h
  exact List.mem_filter.mpr ⟨List.mem_append_right _ (show w ∈ tables_1 from List.mem_append_right _ (List.mem_append_right _ (List.mem_append_left _ hm))), g⟩
theorem sg_4 {i : Nat} {w : Cond} (h : tables_1_4[i]? = some w) (g : goodWord w = true) : w ∈ sm_Tg := by
  have hm := List.mem_of_getElem? h
  exact List.mem_filter.mpr ⟨List.mem_append_right _ (show w ∈ tables_1 from List.mem_append_right _ (List.mem_append_right _ (List.mem_append_right _ (List.mem_append_left _ hm)))), g⟩
theorem sg_5 {i : Nat} {w : Cond} (h : tables_1_5[i]? = some w) (g : goodWord w = true) : w ∈ sm_Tg := by
  have hm := List.mem_of_getElem? h
  exact List.mem_filter.mpr ⟨List.mem_append_right _ (show w ∈ tables_1 from List.mem_append_right _ (List.mem_append_right _ (List.mem_append_right _ (List.mem_append_right _ (List.mem_append_left _ hm))))), g⟩
theorem sg_6 {i : Nat} {w : Cond} (h : tables_1_6[i]? = some w) (g : goodWord w = true) : w ∈ sm_Tg := by
  have hm := List.mem_of_getElem? h
  exact List.mem_filter.mpr ⟨List.mem_append_right _ (show w ∈ tables_1 from List.mem_append_right _ (List.mem_append_right _ (List.mem_append_right _ (List.mem_append_right _ (List.mem_append_right _ (List.mem_append_left _ hm)))))), g⟩
theorem sg_7 {i : Nat} {w : Cond} (h : tables_1_7[i]? = some w) (g : goodWord w = true) : w ∈ sm_Tg := by
  have hm := List.mem_of_getElem? h
  exact List.mem_filter.mpr ⟨List.mem_append_right _ (show w ∈ tables_1 from List.mem_append_right _ (List.mem_append_right _ (List.mem_append_right _ (List.mem_append_right _ (List.mem_append_right _ (List.mem_append_right _ (List.mem_append_left _ hm))))))), g⟩
theorem sg_8 {i : Nat} {w : Cond} (h : tables_1_8[i]? = some w) (g : goodWord w = true) : w ∈ sm_Tg := by
  have hm := List.mem_of_getElem? h
  exact List.mem_filter.mpr ⟨List.mem_append_right _ (show w ∈ tables_1 from List.mem_append_right _ (List.mem_append_right _ (List.mem_append_right _ (List.mem_append_right _ (List.mem_append_right _ (List.mem_append_right _ (List.mem_append_right _ (List.mem_append_left _ hm)))))))), g⟩
theorem sg_9 {i : Nat} {w : Cond} (h : tables_1_9[i]? = some w) (g : goodWord w = true) : w ∈ sm_Tg := by
  have hm := List.mem_of_getElem? h
  exact List.mem_filter.mpr ⟨List.mem_append_right _ (show w ∈ tables_1 from List.mem_append_right _ (List.mem_append_right _ (List.mem_append_right _ (List.mem_append_right _ (List.mem_append_right _ (List.mem_append_right _ (List.mem_append_right _ (List.mem_append_right _ (hm))))))))), g⟩
theorem sg_P {i : Nat} {w : Cond} (h : (k2_sels lw_privs)[i]? = some w) (g : goodWord w = true) : w ∈ sm_Tg := List.mem_filter.mpr ⟨List.mem_append_left _ (List.mem_of_getElem? h), g⟩
theorem sm_n1 {i : Nat} {w : Cond} (h : tables_1_1[i]? = some w) (g : sm_isNest w = true) : w ∈ sm_nest := by
  have hm := List.mem_of_getElem? h
  exact List.mem_filter.mpr ⟨List.mem_append_right _ (show w ∈ tables_1 from List.mem_append_left _ hm), g⟩
theorem sm_n2 {i : Nat} {w : Cond} (h : tables_1_2[i]? = some w) (g : sm_isNest w = true) : w ∈ sm_nest := by
  have hm := List.mem_of_getElem? h
  exact List.mem_filter.mpr ⟨List.mem_append_right _ (show w ∈ tables_1 from List.mem_append_right _ (List.mem_append_left _ hm)), g⟩
theorem sm_n3 {i : Nat} {w : Cond} (h : tables_1_3[i]? = some w) (g : sm_isNest w = true) : w ∈ sm_nest := by
  have hm := List.mem_of_getElem? h
  exact List.mem_filter.mpr ⟨List.mem_append_right _ (show w ∈ tables_1 from List.mem_append_right _ (List.mem_append_right _ (List.mem_append_left _ hm))), g⟩
theorem sm_n4 {i : Nat} {w : Cond} (h : tables_1_4[i]? = some w) (g : sm_isNest w = true) : w ∈ sm_nest := by
  have hm := List.mem_of_getElem? h
  exact List.mem_filter.mpr ⟨List.mem_append_right _ (show w ∈ tables_1 from List.mem_append_right _ (List.mem_append_right _ (List.mem_append_right _ (List.mem_append_left _ hm)))), g⟩
theorem sm_n5 {i : Nat} {w : Cond} (h : tables_1_5[i]? = some w) (g : sm_isNest w = true) : w ∈ sm_nest := by
  have hm := List.mem_of_getElem? h
  exact List.mem_filter.mpr ⟨List.mem_append_right _ (show w ∈ tables_1 from List.mem_append_right _ (List.mem_append_right _ (List.mem_append_right _ (List.mem_append_right _ (List.mem_append_left _ hm))))), g⟩
theorem sm_n6 {i : Nat} {w : Cond} (h : tables_1_6[i]? = some w) (g : sm_isNest w = true) : w ∈ sm_nest := by
  have hm := List.mem_of_getElem? h
  exact List.mem_filter.mpr ⟨List.mem_append_right _ (show w ∈ tables_1 from List.mem_append_right _ (List.mem_append_right _ (List.mem_append_right _ (List.mem_append_right _ (List.mem_append_right _ (List.mem_append_left _ hm)))))), g⟩
theorem sm_n7 {i : Nat} {w : Cond} (h : tables_1_7[i]? = some w) (g : sm_isNest w = true) : w ∈ sm_nest := by
  have hm := List.mem_of_getElem? h
  exact List.mem_filter.mpr ⟨List.mem_append_right _ (show w ∈ tables_1 from List.mem_append_right _ (List.mem_append_right _ (List.mem_append_right _ (List.mem_append_right _ (List.mem_append_right _ (List.mem_append_right _ (List.mem_append_left _ hm))))))), g⟩
theorem sm_n8 {i : Nat} {w : Cond} (h : tables_1_8[i]? = some w) (g : sm_isNest w = true) : w ∈ sm_nest := by
  have hm := List.mem_of_getElem? h
  exact List.mem_filter.mpr ⟨List.mem_append_right _ (show w ∈ tables_1 from List.mem_append_right _ (List.mem_append_right _ (List.mem_append_right _ (List.mem_append_right _ (List.mem_append_right _ (List.mem_append_right _ (List.mem_append_right _ (List.mem_append_left _ hm)))))))), g⟩
theorem sm_n9 {i : Nat} {w : Cond} (h : tables_1_9[i]? = some w) (g : sm_isNest w = true) : w ∈ sm_nest := by
  have hm := List.mem_of_getElem? h
  exact List.mem_filter.mpr ⟨List.mem_append_right _ (show w ∈ tables_1 from List.mem_append_right _ (List.mem_append_right _ (List.mem_append_right _ (List.mem_append_right _ (List.mem_append_right _ (List.mem_append_right _ (List.mem_append_right _ (List.mem_append_right _ (hm))))))))), g⟩
theorem kf_9_12 : sm_fl 9 12 9 0 := ⟨⟨Nat.le_of_ble_eq_true rfl, Nat.le_of_ble_eq_true rfl⟩, sg_2 (i := 127) rfl rfl⟩
theorem kf_9_21 : sm_fl 9 21 9 1 := ⟨⟨Nat.le_of_ble_eq_true rfl, Nat.le_of_ble_eq_true rfl⟩, sg_2 (i := 128) rfl rfl⟩
theorem kf_9_30 : sm_fl 9 30 9 2 := ⟨⟨Nat.le_of_ble_eq_true rfl, Nat.le_of_ble_eq_true rfl⟩, sg_2 (i := 129) rfl rfl⟩
theorem kf_9_37 : sm_fl 9 37 9 3 := ⟨⟨Nat.le_of_ble_eq_true rfl, Nat.le_of_ble_eq_true rfl⟩, sg_2 (i := 130) rfl rfl⟩
theorem kf_9_41 : sm_fl 9 41 9 4 := ⟨⟨Nat.le_of_ble_eq_true rfl, Nat.le_of_ble_eq_true rfl⟩, sg_2 (i := 131) rfl rfl⟩
theorem kf_9_47 : sm_fl 9 47 9 5 := ⟨⟨Nat.le_of_ble_eq_true rfl, Nat.le_of_ble_eq_true rfl⟩, sg_2 (i := 132) rfl rfl⟩
theorem kf_9_56 : sm_fl 9 56 9 6 := ⟨⟨Nat.le_of_ble_eq_true rfl, Nat.le_of_ble_eq_true rfl⟩, sg_2 (i := 133) rfl rfl⟩
theorem kf_9_60 : sm_fl 9 60 9 7 := ⟨⟨Nat.le_of_ble_eq_true rfl, Nat.le_of_ble_eq_true rfl⟩, sg_2 (i := 134) rfl rfl⟩
theorem kf_9_66 : sm_fl 9 66 9 8 := ⟨⟨Nat.le_of_ble_eq_true rfl, Nat.le_of_ble_eq_true rfl⟩, sg_2 (i := 135) rfl rfl⟩
theorem kf_9_70 : sm_fl 9 70 9 9 := ⟨⟨Nat.le_of_ble_eq_true rfl, Nat.le_of_ble_eq_true rfl⟩, sg_2 (i := 136) rfl rfl⟩
theorem kf_9_74 : sm_fl 9 74 9 10 := ⟨⟨Nat.le_of_ble_eq_true rfl, Nat.le_of_ble_eq_true rfl⟩, sg_2 (i := 137) rfl rfl⟩
theorem kf_9_77 : sm_fl 9 77 9 11 := ⟨⟨Nat.le_of_ble_eq_true rfl, Nat.le_of_ble_eq_true rfl⟩, sg_2 (i := 138) rfl rfl⟩
theorem kf_9_81 : sm_fl 9 81 9 12 := ⟨⟨Nat.le_of_ble_eq_true rfl, Nat.le_of_ble_eq_true rfl⟩, sg_2 (i := 139) rfl rfl⟩
theorem kf_9_84 : sm_fl 9 84 9 13 := ⟨⟨Nat.le_of_ble_eq_true rfl, Nat.le_of_ble_eq_true rfl⟩, sg_2 (i := 140) rfl rfl⟩
theorem kf_9_87 : sm_fl 9 87 9 14 := ⟨⟨Nat.le_of_ble_eq_true rfl, Nat.le_of_ble_eq_true rfl⟩, sg_2 (i := 141) rfl rfl⟩
theorem kf_9_90 : sm_fl 9 90 9 15 := ⟨⟨Nat.le_of_ble_eq_true rfl, Nat.le_of_ble_eq_true rfl⟩, sg_2 (i := 142) rfl rfl⟩
theorem kf_9_93 : sm_fl 9 93 9 16 := ⟨⟨Nat.le_of_ble_eq_true rfl, Nat.le_of_ble_eq_true rfl⟩, sg_2 (i := 143) rfl rfl⟩
theorem kf_9_96 : sm_fl 9 96 9 17 := ⟨⟨Nat.le_of_ble_eq_true rfl, Nat.le_of_ble_eq_true rfl⟩, sg_2 (i := 144) rfl rfl⟩
theorem kf_9_99 : sm_fl 9 99 9 18 := ⟨⟨Nat.le_of_ble_eq_true rfl, Nat.le_of_ble_eq_true rfl⟩, sg_2 (i := 145) rfl rfl⟩
theorem kf_9_102 : sm_fl 9 102 9 19 := ⟨⟨Nat.le_of_ble_eq_true rfl, Nat.le_of_ble_eq_true rfl⟩, sg_2 (i := 146) rfl rfl⟩
theorem kf_9_105 : sm_fl 9 105 7 1 := ⟨⟨Nat.le_of_ble_eq_true rfl, Nat.le_of_ble_eq_true rfl⟩, sg_1 (i := 37) rfl rfl⟩
theorem kf_9_129 : sm_fl 9 129 4 0 := ⟨⟨Nat.le_of_ble_eq_true rfl, Nat.le_of_ble_eq_true rfl⟩, sg_1 (i := 136) rfl rfl⟩
theorem kf_9_132 : sm_fl 9 132 4 1 := ⟨⟨Nat.le_of_ble_eq_true rfl, Nat.le_of_ble_eq_true rfl⟩, sg_1 (i := 140) rfl rfl⟩
theorem kf_9_135 : sm_fl 9 135 4 3 := ⟨⟨Nat.le_of_ble_eq_true rfl, Nat.le_of_ble_eq_true rfl⟩, sg_1 (i := 147) rfl rfl⟩
theorem kf_9_138 : sm_fl 9 138 4 8 := ⟨⟨Nat.le_of_ble_eq_true rfl, Nat.le_of_ble_eq_true rfl⟩, sg_1 (i := 165) rfl rfl⟩
theorem kf_9_141 : sm_fl 9 141 4 12 := ⟨⟨Nat.le_of_ble_eq_true rfl, Nat.le_of_ble_eq_true rfl⟩, sg_1 (i := 180) rfl rfl⟩
theorem kf_9_144 : sm_fl 9 144 3 1 := ⟨⟨Nat.le_of_ble_eq_true rfl, Nat.le_of_ble_eq_true rfl⟩, sg_2 (i := 56) rfl rfl⟩
theorem kf_9_147 : sm_fl 9 147 3 2 := ⟨⟨Nat.le_of_ble_eq_true rfl, Nat.le_of_ble_eq_true rfl⟩, sg_2 (i := 59) rfl rfl⟩
theorem kf_9_167 : sm_fl 9 167 0 3 := ⟨⟨Nat.le_of_ble_eq_true rfl, Nat.le_of_ble_eq_true rfl⟩, sg_2 (i := 117) rfl rfl⟩
theorem kf_9_170 : sm_fl 9 170 4 15 := ⟨⟨Nat.le_of_ble_eq_true rfl, Nat.le_of_ble_eq_true rfl⟩, sg_1 (i := 190) rfl rfl⟩
theorem kf_9_177 : sm_fl 9 177 4 4 := ⟨⟨Nat.le_of_ble_eq_true rfl, Nat.le_of_ble_eq_true rfl⟩, sg_1 (i := 150) rfl rfl⟩
theorem kf_9_180 : sm_fl 9 180 4 5 := ⟨⟨Nat.le_of_ble_eq_true rfl, Nat.le_of_ble_eq_true rfl⟩, sg_1 (i := 154) rfl rfl⟩
theorem kf_9_183 : sm_fl 9 183 4 6 := ⟨⟨Nat.le_of_ble_eq_true rfl, Nat.le_of_ble_eq_true rfl⟩, sg_1 (i := 158) rfl rfl⟩
theorem kf_9_186 : sm_fl 9 186 4 7 := ⟨⟨Nat.le_of_ble_eq_true rfl, Nat.le_of_ble_eq_true rfl⟩, sg_1 (i := 162) rfl rfl⟩
theorem kf_9_189 : sm_fl 9 189 3 4 := ⟨⟨Nat.le_of_ble_eq_true rfl, Nat.le_of_ble_eq_true rfl⟩, sg_2 (i := 64) rfl rfl⟩
theorem kf_9_192 : sm_fl 9 192 4 9 := ⟨⟨Nat.le_of_ble_eq_true rfl, Nat.le_of_ble_eq_true rfl⟩, sg_1 (i := 170) rfl rfl⟩
theorem kf_9_195 : sm_fl 9 195 4 10 := ⟨⟨Nat.le_of_ble_eq_true rfl, Nat.le_of_ble_eq_true rfl⟩, sg_1 (i := 174) rfl rfl⟩
theorem kf_9_210 : sm_fl 9 210 4 13 := ⟨⟨Nat.le_of_ble_eq_true rfl, Nat.le_of_ble_eq_true rfl⟩, sg_1 (i := 184) rfl rfl⟩
theorem kf_9_213 : sm_fl 9 213 3 5 := ⟨⟨Nat.le_of_ble_eq_true rfl, Nat.le_of_ble_eq_true rfl⟩, sg_2 (i := 67) rfl rfl⟩
theorem kf_9_220 : sm_fl 9 220 3 6 := ⟨⟨Nat.le_of_ble_eq_true rfl, Nat.le_of_ble_eq_true rfl⟩, sg_2 (i := 69) rfl rfl⟩
theorem kf_9_242 : sm_fl 9 242 3 13 := ⟨⟨Nat.le_of_ble_eq_true rfl, Nat.le_of_ble_eq_true rfl⟩, sg_2 (i := 77) rfl rfl⟩
theorem kf_9_292 : sm_fl 9 292 3 3 := ⟨⟨Nat.le_of_ble_eq_true rfl, Nat.le_of_ble_eq_true rfl⟩, sg_2 (i := 61) rfl rfl⟩
theorem kf_9_323 : sm_fl 9 323 4 19 := ⟨⟨Nat.le_of_ble_eq_true rfl, Nat.le_of_ble_eq_true rfl⟩, sg_1 (i := 203) rfl rfl⟩
theorem kf_9_352 : sm_fl 9 352 5 5 := ⟨⟨Nat.le_of_ble_eq_true rfl, Nat.le_of_ble_eq_true rfl⟩, sg_1 (i := 64) rfl rfl⟩
theorem kf_9_353 : sm_fl 9 353 5 6 := ⟨⟨Nat.le_of_ble_eq_true rfl, Nat.le_of_ble_eq_true rfl⟩, sg_1 (i := 66) rfl rfl⟩
theorem kf_0_9 : sm_fl 0 9 0 0 := ⟨⟨Nat.le_of_ble_eq_true rfl, Nat.le_of_ble_eq_true rfl⟩, sg_2 (i := 113) rfl rfl⟩
theorem kf_0_15 : sm_fl 0 15 0 1 := ⟨⟨Nat.le_of_ble_eq_true rfl, Nat.le_of_ble_eq_true rfl⟩, sg_2 (i := 114) rfl rfl⟩
theorem kf_0_19 : sm_fl 0 19 0 2 := ⟨⟨Nat.le_of_ble_eq_true rfl, Nat.le_of_ble_eq_true rfl⟩, sg_2 (i := 115) rfl rfl⟩
theorem kf_0_22 : sm_fl 0 22 0 3 := ⟨⟨Nat.le_of_ble_eq_true rfl, Nat.le_of_ble_eq_true rfl⟩, sg_2 (i := 116) rfl rfl⟩
theorem kf_0_48 : sm_fl 0 48 3 1 := ⟨⟨Nat.le_of_ble_eq_true rfl, Nat.le_of_ble_eq_true rfl⟩, sg_2 (i := 55) rfl rfl⟩
theorem kf_0_53 : sm_fl 0 53 3 2 := ⟨⟨Nat.le_of_ble_eq_true rfl, Nat.le_of_ble_eq_true rfl⟩, sg_2 (i := 58) rfl rfl⟩
theorem kf_0_56 : sm_fl 0 56 3 4 := ⟨⟨Nat.le_of_ble_eq_true rfl, Nat.le_of_ble_eq_true rfl⟩, sg_2 (i := 63) rfl rfl⟩
theorem kf_0_59 : sm_fl 0 59 3 5 := ⟨⟨Nat.le_of_ble_eq_true rfl, Nat.le_of_ble_eq_true rfl⟩, sg_2 (i := 66) rfl rfl⟩
theorem kf_1_9 : sm_fl 1 9 1 1 := ⟨⟨Nat.le_of_ble_eq_true rfl, Nat.le_of_ble_eq_true rfl⟩, sg_1 (i := 95) rfl rfl⟩
theorem kf_1_15 : sm_fl 1 15 1 2 := ⟨⟨Nat.le_of_ble_eq_true rfl, Nat.le_of_ble_eq_true rfl⟩, sg_1 (i := 96) rfl rfl⟩
theorem kf_1_19 : sm_fl 1 19 1 0 := ⟨⟨Nat.le_of_ble_eq_true rfl, Nat.le_of_ble_eq_true rfl⟩, sg_1 (i := 94) rfl rfl⟩
theorem kf_1_23 : sm_fl 1 23 2 1 := ⟨⟨Nat.le_of_ble_eq_true rfl, Nat.le_of_ble_eq_true rfl⟩, sg_1 (i := 126) rfl rfl⟩
theorem kf_1_49 : sm_fl 1 49 5 3 := ⟨⟨Nat.le_of_ble_eq_true rfl, Nat.le_of_ble_eq_true rfl⟩, sg_1 (i := 58) rfl rfl⟩
theorem kf_1_74 : sm_fl 1 74 5 4 := ⟨⟨Nat.le_of_ble_eq_true rfl, Nat.le_of_ble_eq_true rfl⟩, sg_1 (i := 61) rfl rfl⟩
theorem kf_1_83 : sm_fl 1 83 5 1 := ⟨⟨Nat.le_of_ble_eq_true rfl, Nat.le_of_ble_eq_true rfl⟩, sg_1 (i := 54) rfl rfl⟩
theorem kf_2_9 : sm_fl 2 9 2 0 := ⟨⟨Nat.le_of_ble_eq_true rfl, Nat.le_of_ble_eq_true rfl⟩, sg_1 (i := 123) rfl rfl⟩
theorem kf_2_15 : sm_fl 2 15 2 1 := ⟨⟨Nat.le_of_ble_eq_true rfl, Nat.le_of_ble_eq_true rfl⟩, sg_1 (i := 125) rfl rfl⟩
theorem kf_3_9 : sm_fl 3 9 3 1 := ⟨⟨Nat.le_of_ble_eq_true rfl, Nat.le_of_ble_eq_true rfl⟩, sg_2 (i := 54) rfl rfl⟩
theorem kf_3_15 : sm_fl 3 15 3 2 := ⟨⟨Nat.le_of_ble_eq_true rfl, Nat.le_of_ble_eq_true rfl⟩, sg_2 (i := 57) rfl rfl⟩
theorem kf_3_18 : sm_fl 3 18 3 3 := ⟨⟨Nat.le_of_ble_eq_true rfl, Nat.le_of_ble_eq_true rfl⟩, sg_2 (i := 60) rfl rfl⟩
theorem kf_3_22 : sm_fl 3 22 3 4 := ⟨⟨Nat.le_of_ble_eq_true rfl, Nat.le_of_ble_eq_true rfl⟩, sg_2 (i := 62) rfl rfl⟩
theorem kf_3_25 : sm_fl 3 25 3 5 := ⟨⟨Nat.le_of_ble_eq_true rfl, Nat.le_of_ble_eq_true rfl⟩, sg_2 (i := 65) rfl rfl⟩
theorem kf_3_28 : sm_fl 3 28 3 6 := ⟨⟨Nat.le_of_ble_eq_true rfl, Nat.le_of_ble_eq_true rfl⟩, sg_2 (i := 68) rfl rfl⟩
theorem kf_3_31 : sm_fl 3 31 3 7 := ⟨⟨Nat.le_of_ble_eq_true rfl, Nat.le_of_ble_eq_true rfl⟩, sg_2 (i := 70) rfl rfl⟩
theorem kf_3_34 : sm_fl 3 34 3 8 := ⟨⟨Nat.le_of_ble_eq_true rfl, Nat.le_of_ble_eq_true rfl⟩, sg_2 (i := 71) rfl rfl⟩
theorem kf_3_37 : sm_fl 3 37 3 9 := ⟨⟨Nat.le_of_ble_eq_true rfl, Nat.le_of_ble_eq_true rfl⟩, sg_2 (i := 72) rfl rfl⟩
theorem kf_3_43 : sm_fl 3 43 3 10 := ⟨⟨Nat.le_of_ble_eq_true rfl, Nat.le_of_ble_eq_true rfl⟩, sg_2 (i := 73) rfl rfl⟩
theorem kf_3_47 : sm_fl 3 47 3 11 := ⟨⟨Nat.le_of_ble_eq_true rfl, Nat.le_of_ble_eq_true rfl⟩, sg_2 (i := 74) rfl rfl⟩
theorem kf_3_50 : sm_fl 3 50 3 12 := ⟨⟨Nat.le_of_ble_eq_true rfl, Nat.le_of_ble_eq_true rfl⟩, sg_2 (i := 75) rfl rfl⟩
theorem kf_3_53 : sm_fl 3 53 3 13 := ⟨⟨Nat.le_of_ble_eq_true rfl, Nat.le_of_ble_eq_true rfl⟩, sg_2 (i := 76) rfl rfl⟩
theorem kf_3_56 : sm_fl 3 56 3 0 := ⟨⟨Nat.le_of_ble_eq_true rfl, Nat.le_of_ble_eq_true rfl⟩, sg_2 (i := 53) rfl rfl⟩
theorem kf_3_63 : sm_fl 3 63 4 2 := ⟨⟨Nat.le_of_ble_eq_true rfl, Nat.le_of_ble_eq_true rfl⟩, sg_1 (i := 143) rfl rfl⟩
theorem kf_3_66 : sm_fl 3 66 4 8 := ⟨⟨Nat.le_of_ble_eq_true rfl, Nat.le_of_ble_eq_true rfl⟩, sg_1 (i := 164) rfl rfl⟩
theorem kf_3_69 : sm_fl 3 69 4 11 := ⟨⟨Nat.le_of_ble_eq_true rfl, Nat.le_of_ble_eq_true rfl⟩, sg_1 (i := 176) rfl rfl⟩
theorem kf_3_72 : sm_fl 3 72 4 12 := ⟨⟨Nat.le_of_ble_eq_true rfl, Nat.le_of_ble_eq_true rfl⟩, sg_1 (i := 179) rfl rfl⟩
theorem kf_3_75 : sm_fl 3 75 4 14 := ⟨⟨Nat.le_of_ble_eq_true rfl, Nat.le_of_ble_eq_true rfl⟩, sg_1 (i := 187) rfl rfl⟩
theorem kf_3_106 : sm_fl 3 106 4 10 := ⟨⟨Nat.le_of_ble_eq_true rfl, Nat.le_of_ble_eq_true rfl⟩, sg_1 (i := 172) rfl rfl⟩
theorem kf_3_109 : sm_fl 3 109 4 6 := ⟨⟨Nat.le_of_ble_eq_true rfl, Nat.le_of_ble_eq_true rfl⟩, sg_1 (i := 159) rfl rfl⟩
theorem kf_3_112 : sm_fl 3 112 4 9 := ⟨⟨Nat.le_of_ble_eq_true rfl, Nat.le_of_ble_eq_true rfl⟩, sg_1 (i := 169) rfl rfl⟩
theorem kf_3_115 : sm_fl 3 115 4 4 := ⟨⟨Nat.le_of_ble_eq_true rfl, Nat.le_of_ble_eq_true rfl⟩, sg_1 (i := 151) rfl rfl⟩
theorem kf_3_118 : sm_fl 3 118 4 5 := ⟨⟨Nat.le_of_ble_eq_true rfl, Nat.le_of_ble_eq_true rfl⟩, sg_1 (i := 155) rfl rfl⟩
theorem kf_3_137 : sm_fl 3 137 4 0 := ⟨⟨Nat.le_of_ble_eq_true rfl, Nat.le_of_ble_eq_true rfl⟩, sg_1 (i := 137) rfl rfl⟩
theorem kf_3_140 : sm_fl 3 140 4 1 := ⟨⟨Nat.le_of_ble_eq_true rfl, Nat.le_of_ble_eq_true rfl⟩, sg_1 (i := 141) rfl rfl⟩
theorem kf_3_234 : sm_fl 3 234 4 17 := ⟨⟨Nat.le_of_ble_eq_true rfl, Nat.le_of_ble_eq_true rfl⟩, sg_1 (i := 197) rfl rfl⟩
theorem kf_3_237 : sm_fl 3 237 6 0 := ⟨⟨Nat.le_of_ble_eq_true rfl, Nat.le_of_ble_eq_true rfl⟩, sg_2 (i := 20) rfl rfl⟩
theorem kf_3_243 : sm_fl 3 243 4 16 := ⟨⟨Nat.le_of_ble_eq_true rfl, Nat.le_of_ble_eq_true rfl⟩, sg_1 (i := 194) rfl rfl⟩
theorem kf_3_251 : sm_fl 3 251 4 13 := ⟨⟨Nat.le_of_ble_eq_true rfl, Nat.le_of_ble_eq_true rfl⟩, sg_1 (i := 185) rfl rfl⟩
theorem kf_3_257 : sm_fl 3 257 4 18 := ⟨⟨Nat.le_of_ble_eq_true rfl, Nat.le_of_ble_eq_true rfl⟩, sg_1 (i := 200) rfl rfl⟩
theorem kf_3_263 : sm_fl 3 263 6 1 := ⟨⟨Nat.le_of_ble_eq_true rfl, Nat.le_of_ble_eq_true rfl⟩, sg_2 (i := 22) rfl rfl⟩
theorem kf_4_9 : sm_fl 4 9 4 0 := ⟨⟨Nat.le_of_ble_eq_true rfl, Nat.le_of_ble_eq_true rfl⟩, sg_1 (i := 134) rfl rfl⟩
theorem kf_4_15 : sm_fl 4 15 4 1 := ⟨⟨Nat.le_of_ble_eq_true rfl, Nat.le_of_ble_eq_true rfl⟩, sg_1 (i := 138) rfl rfl⟩
theorem kf_4_18 : sm_fl 4 18 4 2 := ⟨⟨Nat.le_of_ble_eq_true rfl, Nat.le_of_ble_eq_true rfl⟩, sg_1 (i := 142) rfl rfl⟩
theorem kf_4_22 : sm_fl 4 22 4 3 := ⟨⟨Nat.le_of_ble_eq_true rfl, Nat.le_of_ble_eq_true rfl⟩, sg_1 (i := 145) rfl rfl⟩
theorem kf_4_25 : sm_fl 4 25 4 4 := ⟨⟨Nat.le_of_ble_eq_true rfl, Nat.le_of_ble_eq_true rfl⟩, sg_1 (i := 148) rfl rfl⟩
theorem kf_4_28 : sm_fl 4 28 4 5 := ⟨⟨Nat.le_of_ble_eq_true rfl, Nat.le_of_ble_eq_true rfl⟩, sg_1 (i := 152) rfl rfl⟩
theorem kf_4_31 : sm_fl 4 31 4 6 := ⟨⟨Nat.le_of_ble_eq_true rfl, Nat.le_of_ble_eq_true rfl⟩, sg_1 (i := 156) rfl rfl⟩
theorem kf_4_34 : sm_fl 4 34 4 7 := ⟨⟨Nat.le_of_ble_eq_true rfl, Nat.le_of_ble_eq_true rfl⟩, sg_1 (i := 160) rfl rfl⟩
theorem kf_4_37 : sm_fl 4 37 4 8 := ⟨⟨Nat.le_of_ble_eq_true rfl, Nat.le_of_ble_eq_true rfl⟩, sg_1 (i := 163) rfl rfl⟩
theorem kf_4_40 : sm_fl 4 40 4 9 := ⟨⟨Nat.le_of_ble_eq_true rfl, Nat.le_of_ble_eq_true rfl⟩, sg_1 (i := 167) rfl rfl⟩
theorem kf_4_43 : sm_fl 4 43 4 10 := ⟨⟨Nat.le_of_ble_eq_true rfl, Nat.le_of_ble_eq_true rfl⟩, sg_1 (i := 171) rfl rfl⟩
theorem kf_4_46 : sm_fl 4 46 4 11 := ⟨⟨Nat.le_of_ble_eq_true rfl, Nat.le_of_ble_eq_true rfl⟩, sg_1 (i := 175) rfl rfl⟩
theorem kf_4_49 : sm_fl 4 49 4 12 := ⟨⟨Nat.le_of_ble_eq_true rfl, Nat.le_of_ble_eq_true rfl⟩, sg_1 (i := 178) rfl rfl⟩
theorem kf_4_52 : sm_fl 4 52 4 13 := ⟨⟨Nat.le_of_ble_eq_true rfl, Nat.le_of_ble_eq_true rfl⟩, sg_1 (i := 182) rfl rfl⟩
theorem kf_4_55 : sm_fl 4 55 4 14 := ⟨⟨Nat.le_of_ble_eq_true rfl, Nat.le_of_ble_eq_true rfl⟩, sg_1 (i := 186) rfl rfl⟩
theorem kf_4_58 : sm_fl 4 58 4 15 := ⟨⟨Nat.le_of_ble_eq_true rfl, Nat.le_of_ble_eq_true rfl⟩, sg_1 (i := 189) rfl rfl⟩
theorem kf_4_64 : sm_fl 4 64 4 16 := ⟨⟨Nat.le_of_ble_eq_true rfl, Nat.le_of_ble_eq_true rfl⟩, sg_1 (i := 192) rfl rfl⟩
theorem kf_4_68 : sm_fl 4 68 4 17 := ⟨⟨Nat.le_of_ble_eq_true rfl, Nat.le_of_ble_eq_true rfl⟩, sg_1 (i := 195) rfl rfl⟩
theorem kf_4_71 : sm_fl 4 71 4 18 := ⟨⟨Nat.le_of_ble_eq_true rfl, Nat.le_of_ble_eq_true rfl⟩, sg_1 (i := 198) rfl rfl⟩
theorem kf_4_74 : sm_fl 4 74 4 19 := ⟨⟨Nat.le_of_ble_eq_true rfl, Nat.le_of_ble_eq_true rfl⟩, sg_1 (i := 201) rfl rfl⟩
theorem kf_5_9 : sm_fl 5 9 5 1 := ⟨⟨Nat.le_of_ble_eq_true rfl, Nat.le_of_ble_eq_true rfl⟩, sg_1 (i := 52) rfl rfl⟩
theorem kf_5_15 : sm_fl 5 15 5 2 := ⟨⟨Nat.le_of_ble_eq_true rfl, Nat.le_of_ble_eq_true rfl⟩, sg_1 (i := 55) rfl rfl⟩
theorem kf_5_18 : sm_fl 5 18 5 3 := ⟨⟨Nat.le_of_ble_eq_true rfl, Nat.le_of_ble_eq_true rfl⟩, sg_1 (i := 56) rfl rfl⟩
theorem kf_5_21 : sm_fl 5 21 5 4 := ⟨⟨Nat.le_of_ble_eq_true rfl, Nat.le_of_ble_eq_true rfl⟩, sg_1 (i := 59) rfl rfl⟩
theorem kf_5_24 : sm_fl 5 24 5 5 := ⟨⟨Nat.le_of_ble_eq_true rfl, Nat.le_of_ble_eq_true rfl⟩, sg_1 (i := 62) rfl rfl⟩
theorem kf_5_27 : sm_fl 5 27 5 6 := ⟨⟨Nat.le_of_ble_eq_true rfl, Nat.le_of_ble_eq_true rfl⟩, sg_1 (i := 65) rfl rfl⟩
theorem kf_5_30 : sm_fl 5 30 5 0 := ⟨⟨Nat.le_of_ble_eq_true rfl, Nat.le_of_ble_eq_true rfl⟩, sg_1 (i := 51) rfl rfl⟩
theorem kf_5_41 : sm_fl 5 41 7 1 := ⟨⟨Nat.le_of_ble_eq_true rfl, Nat.le_of_ble_eq_true rfl⟩, sg_1 (i := 38) rfl rfl⟩
theorem kf_5_71 : sm_fl 5 71 7 0 := ⟨⟨Nat.le_of_ble_eq_true rfl, Nat.le_of_ble_eq_true rfl⟩, sg_1 (i := 35) rfl rfl⟩
theorem kf_6_9 : sm_fl 6 9 6 0 := ⟨⟨Nat.le_of_ble_eq_true rfl, Nat.le_of_ble_eq_true rfl⟩, sg_2 (i := 19) rfl rfl⟩
theorem kf_6_15 : sm_fl 6 15 6 1 := ⟨⟨Nat.le_of_ble_eq_true rfl, Nat.le_of_ble_eq_true rfl⟩, sg_2 (i := 21) rfl rfl⟩
theorem kf_6_18 : sm_fl 6 18 6 2 := ⟨⟨Nat.le_of_ble_eq_true rfl, Nat.le_of_ble_eq_true rfl⟩, sg_2 (i := 23) rfl rfl⟩
theorem kf_6_21 : sm_fl 6 21 6 3 := ⟨⟨Nat.le_of_ble_eq_true rfl, Nat.le_of_ble_eq_true rfl⟩, sg_2 (i := 24) rfl rfl⟩
theorem kf_6_25 : sm_fl 6 25 2 1 := ⟨⟨Nat.le_of_ble_eq_true rfl, Nat.le_of_ble_eq_true rfl⟩, sg_1 (i := 127) rfl rfl⟩
theorem kf_6_30 : sm_fl 6 30 2 0 := ⟨⟨Nat.le_of_ble_eq_true rfl, Nat.le_of_ble_eq_true rfl⟩, sg_1 (i := 124) rfl rfl⟩
theorem kf_7_9 : sm_fl 7 9 7 0 := ⟨⟨Nat.le_of_ble_eq_true rfl, Nat.le_of_ble_eq_true rfl⟩, sg_1 (i := 34) rfl rfl⟩
theorem kf_7_15 : sm_fl 7 15 7 1 := ⟨⟨Nat.le_of_ble_eq_true rfl, Nat.le_of_ble_eq_true rfl⟩, sg_1 (i := 36) rfl rfl⟩
theorem kf_8_9 : sm_fl 8 9 8 0 := ⟨⟨Nat.le_of_ble_eq_true rfl, Nat.le_of_ble_eq_true rfl⟩, sg_1 (i := 104) rfl rfl⟩
theorem kf_8_20 : sm_fl 8 20 8 1 := ⟨⟨Nat.le_of_ble_eq_true rfl, Nat.le_of_ble_eq_true rfl⟩, sg_1 (i := 105) rfl rfl⟩
theorem kf_8_34 : sm_fl 8 34 5 3 := ⟨⟨Nat.le_of_ble_eq_true rfl, Nat.le_of_ble_eq_true rfl⟩, sg_1 (i := 57) rfl rfl⟩
theorem kf_8_38 : sm_fl 8 38 5 5 := ⟨⟨Nat.le_of_ble_eq_true rfl, Nat.le_of_ble_eq_true rfl⟩, sg_1 (i := 63) rfl rfl⟩
theorem kf_8_41 : sm_fl 8 41 5 1 := ⟨⟨Nat.le_of_ble_eq_true rfl, Nat.le_of_ble_eq_true rfl⟩, sg_1 (i := 53) rfl rfl⟩
theorem kf_8_70 : sm_fl 8 70 4 0 := ⟨⟨Nat.le_of_ble_eq_true rfl, Nat.le_of_ble_eq_true rfl⟩, sg_1 (i := 135) rfl rfl⟩
theorem kf_8_73 : sm_fl 8 73 4 1 := ⟨⟨Nat.le_of_ble_eq_true rfl, Nat.le_of_ble_eq_true rfl⟩, sg_1 (i := 139) rfl rfl⟩
theorem kf_8_76 : sm_fl 8 76 4 2 := ⟨⟨Nat.le_of_ble_eq_true rfl, Nat.le_of_ble_eq_true rfl⟩, sg_1 (i := 144) rfl rfl⟩
theorem kf_8_80 : sm_fl 8 80 5 4 := ⟨⟨Nat.le_of_ble_eq_true rfl, Nat.le_of_ble_eq_true rfl⟩, sg_1 (i := 60) rfl rfl⟩
theorem kf_8_92 : sm_fl 8 92 4 17 := ⟨⟨Nat.le_of_ble_eq_true rfl, Nat.le_of_ble_eq_true rfl⟩, sg_1 (i := 196) rfl rfl⟩
theorem kf_8_99 : sm_fl 8 99 4 16 := ⟨⟨Nat.le_of_ble_eq_true rfl, Nat.le_of_ble_eq_true rfl⟩, sg_1 (i := 193) rfl rfl⟩
theorem kf_8_113 : sm_fl 8 113 4 18 := ⟨⟨Nat.le_of_ble_eq_true rfl, Nat.le_of_ble_eq_true rfl⟩, sg_1 (i := 199) rfl rfl⟩
theorem kf_8_116 : sm_fl 8 116 4 19 := ⟨⟨Nat.le_of_ble_eq_true rfl, Nat.le_of_ble_eq_true rfl⟩, sg_1 (i := 202) rfl rfl⟩
theorem kf_8_119 : sm_fl 8 119 4 3 := ⟨⟨Nat.le_of_ble_eq_true rfl, Nat.le_of_ble_eq_true rfl⟩, sg_1 (i := 146) rfl rfl⟩
theorem kf_8_126 : sm_fl 8 126 4 4 := ⟨⟨Nat.le_of_ble_eq_true rfl, Nat.le_of_ble_eq_true rfl⟩, sg_1 (i := 149) rfl rfl⟩
theorem kf_8_129 : sm_fl 8 129 4 5 := ⟨⟨Nat.le_of_ble_eq_true rfl, Nat.le_of_ble_eq_true rfl⟩, sg_1 (i := 153) rfl rfl⟩
theorem kf_8_132 : sm_fl 8 132 4 6 := ⟨⟨Nat.le_of_ble_eq_true rfl, Nat.le_of_ble_eq_true rfl⟩, sg_1 (i := 157) rfl rfl⟩
theorem kf_8_139 : sm_fl 8 139 4 7 := ⟨⟨Nat.le_of_ble_eq_true rfl, Nat.le_of_ble_eq_true rfl⟩, sg_1 (i := 161) rfl rfl⟩
theorem kf_8_142 : sm_fl 8 142 4 8 := ⟨⟨Nat.le_of_ble_eq_true rfl, Nat.le_of_ble_eq_true rfl⟩, sg_1 (i := 166) rfl rfl⟩
theorem kf_8_145 : sm_fl 8 145 4 9 := ⟨⟨Nat.le_of_ble_eq_true rfl, Nat.le_of_ble_eq_true rfl⟩, sg_1 (i := 168) rfl rfl⟩
theorem kf_8_152 : sm_fl 8 152 4 10 := ⟨⟨Nat.le_of_ble_eq_true rfl, Nat.le_of_ble_eq_true rfl⟩, sg_1 (i := 173) rfl rfl⟩
theorem kf_8_158 : sm_fl 8 158 4 11 := ⟨⟨Nat.le_of_ble_eq_true rfl, Nat.le_of_ble_eq_true rfl⟩, sg_1 (i := 177) rfl rfl⟩
theorem kf_8_161 : sm_fl 8 161 4 12 := ⟨⟨Nat.le_of_ble_eq_true rfl, Nat.le_of_ble_eq_true rfl⟩, sg_1 (i := 181) rfl rfl⟩
theorem kf_8_164 : sm_fl 8 164 4 13 := ⟨⟨Nat.le_of_ble_eq_true rfl, Nat.le_of_ble_eq_true rfl⟩, sg_1 (i := 183) rfl rfl⟩
theorem kf_8_167 : sm_fl 8 167 4 14 := ⟨⟨Nat.le_of_ble_eq_true rfl, Nat.le_of_ble_eq_true rfl⟩, sg_1 (i := 188) rfl rfl⟩
theorem kf_8_177 : sm_fl 8 177 4 15 := ⟨⟨Nat.le_of_ble_eq_true rfl, Nat.le_of_ble_eq_true rfl⟩, sg_1 (i := 191) rfl rfl⟩
theorem kf_10_7 : sm_fl 10 7 10 0 := ⟨⟨Nat.le_of_ble_eq_true rfl, Nat.le_of_ble_eq_true rfl⟩, sg_5 (i := 195) rfl rfl⟩
theorem kf_10_13 : sm_fl 10 13 10 8 := ⟨⟨Nat.le_of_ble_eq_true rfl, Nat.le_of_ble_eq_true rfl⟩, sg_5 (i := 203) rfl rfl⟩
theorem kf_10_17 : sm_fl 10 17 10 9 := ⟨⟨Nat.le_of_ble_eq_true rfl, Nat.le_of_ble_eq_true rfl⟩, sg_5 (i := 204) rfl rfl⟩
theorem kf_10_20 : sm_fl 10 20 10 11 := ⟨⟨Nat.le_of_ble_eq_true rfl, Nat.le_of_ble_eq_true rfl⟩, sg_5 (i := 206) rfl rfl⟩
theorem kf_10_24 : sm_fl 10 24 10 12 := ⟨⟨Nat.le_of_ble_eq_true rfl, Nat.le_of_ble_eq_true rfl⟩, sg_5 (i := 207) rfl rfl⟩
theorem kf_10_27 : sm_fl 10 27 10 13 := ⟨⟨Nat.le_of_ble_eq_true rfl, Nat.le_of_ble_eq_true rfl⟩, sg_5 (i := 208) rfl rfl⟩
theorem kf_10_30 : sm_fl 10 30 10 14 := ⟨⟨Nat.le_of_ble_eq_true rfl, Nat.le_of_ble_eq_true rfl⟩, sg_5 (i := 209) rfl rfl⟩
theorem kf_10_33 : sm_fl 10 33 10 15 := ⟨⟨Nat.le_of_ble_eq_true rfl, Nat.le_of_ble_eq_true rfl⟩, sg_5 (i := 210) rfl rfl⟩
theorem kf_10_36 : sm_fl 10 36 10 16 := ⟨⟨Nat.le_of_ble_eq_true rfl, Nat.le_of_ble_eq_true rfl⟩, sg_5 (i := 211) rfl rfl⟩
theorem kf_10_39 : sm_fl 10 39 10 17 := ⟨⟨Nat.le_of_ble_eq_true rfl, Nat.le_of_ble_eq_true rfl⟩, sg_5 (i := 212) rfl rfl⟩
theorem kf_10_42 : sm_fl 10 42 10 18 := ⟨⟨Nat.le_of_ble_eq_true rfl, Nat.le_of_ble_eq_true rfl⟩, sg_5 (i := 213) rfl rfl⟩
theorem kf_10_45 : sm_fl 10 45 10 19 := ⟨⟨Nat.le_of_ble_eq_true rfl, Nat.le_of_ble_eq_true rfl⟩, sg_5 (i := 214) rfl rfl⟩
theorem kf_10_48 : sm_fl 10 48 10 20 := ⟨⟨Nat.le_of_ble_eq_true rfl, Nat.le_of_ble_eq_true rfl⟩, sg_5 (i := 215) rfl rfl⟩
theorem kf_10_51 : sm_fl 10 51 10 21 := ⟨⟨Nat.le_of_ble_eq_true rfl, Nat.le_of_ble_eq_true rfl⟩, sg_5 (i := 216) rfl rfl⟩
theorem kf_10_54 : sm_fl 10 54 10 22 := ⟨⟨Nat.le_of_ble_eq_true rfl, Nat.le_of_ble_eq_true rfl⟩, sg_5 (i := 217) rfl rfl⟩
theorem kf_10_57 : sm_fl 10 57 10 23 := ⟨⟨Nat.le_of_ble_eq_true rfl, Nat.le_of_ble_eq_true rfl⟩, sg_5 (i := 218) rfl rfl⟩
theorem kf_10_60 : sm_fl 10 60 10 24 := ⟨⟨Nat.le_of_ble_eq_true rfl, Nat.le_of_ble_eq_true rfl⟩, sg_5 (i := 219) rfl rfl⟩
theorem kf_10_63 : sm_fl 10 63 10 25 := ⟨⟨Nat.le_of_ble_eq_true rfl, Nat.le_of_ble_eq_true rfl⟩, sg_5 (i := 220) rfl rfl⟩
theorem kf_10_66 : sm_fl 10 66 10 26 := ⟨⟨Nat.le_of_ble_eq_true rfl, Nat.le_of_ble_eq_true rfl⟩, sg_5 (i := 221) rfl rfl⟩
theorem kf_10_69 : sm_fl 10 69 10 27 := ⟨⟨Nat.le_of_ble_eq_true rfl, Nat.le_of_ble_eq_true rfl⟩, sg_5 (i := 222) rfl rfl⟩
theorem kf_10_72 : sm_fl 10 72 10 28 := ⟨⟨Nat.le_of_ble_eq_true rfl, Nat.le_of_ble_eq_true rfl⟩, sg_5 (i := 223) rfl rfl⟩
theorem kf_10_75 : sm_fl 10 75 10 29 := ⟨⟨Nat.le_of_ble_eq_true rfl, Nat.le_of_ble_eq_true rfl⟩, sg_5 (i := 224) rfl rfl⟩
theorem kf_10_78 : sm_fl 10 78 10 30 := ⟨⟨Nat.le_of_ble_eq_true rfl, Nat.le_of_ble_eq_true rfl⟩, sg_5 (i := 225) rfl rfl⟩
theorem kf_10_81 : sm_fl 10 81 10 31 := ⟨⟨Nat.le_of_ble_eq_true rfl, Nat.le_of_ble_eq_true rfl⟩, sg_5 (i := 226) rfl rfl⟩
theorem kf_10_84 : sm_fl 10 84 10 32 := ⟨⟨Nat.le_of_ble_eq_true rfl, Nat.le_of_ble_eq_true rfl⟩, sg_5 (i := 227) rfl rfl⟩
theorem kf_10_87 : sm_fl 10 87 10 33 := ⟨⟨Nat.le_of_ble_eq_true rfl, Nat.le_of_ble_eq_true rfl⟩, sg_5 (i := 228) rfl rfl⟩
theorem kf_10_90 : sm_fl 10 90 10 34 := ⟨⟨Nat.le_of_ble_eq_true rfl, Nat.le_of_ble_eq_true rfl⟩, sg_5 (i := 229) rfl rfl⟩
theorem kf_10_93 : sm_fl 10 93 10 35 := ⟨⟨Nat.le_of_ble_eq_true rfl, Nat.le_of_ble_eq_true rfl⟩, sg_5 (i := 230) rfl rfl⟩
theorem kf_10_96 : sm_fl 10 96 10 36 := ⟨⟨Nat.le_of_ble_eq_true rfl, Nat.le_of_ble_eq_true rfl⟩, sg_5 (i := 231) rfl rfl⟩
theorem kf_10_99 : sm_fl 10 99 10 37 := ⟨⟨Nat.le_of_ble_eq_true rfl, Nat.le_of_ble_eq_true rfl⟩, sg_5 (i := 232) rfl rfl⟩
theorem kf_10_102 : sm_fl 10 102 10 38 := ⟨⟨Nat.le_of_ble_eq_true rfl, Nat.le_of_ble_eq_true rfl⟩, sg_5 (i := 233) rfl rfl⟩
theorem kf_10_105 : sm_fl 10 105 10 39 := ⟨⟨Nat.le_of_ble_eq_true rfl, Nat.le_of_ble_eq_true rfl⟩, sg_5 (i := 234) rfl rfl⟩
theorem kf_10_108 : sm_fl 10 108 10 40 := ⟨⟨Nat.le_of_ble_eq_true rfl, Nat.le_of_ble_eq_true rfl⟩, sg_5 (i := 235) rfl rfl⟩
theorem kf_10_111 : sm_fl 10 111 10 41 := ⟨⟨Nat.le_of_ble_eq_true rfl, Nat.le_of_ble_eq_true rfl⟩, sg_5 (i := 236) rfl rfl⟩
theorem kf_10_114 : sm_fl 10 114 10 42 := ⟨⟨Nat.le_of_ble_eq_true rfl, Nat.le_of_ble_eq_true rfl⟩, sg_5 (i := 237) rfl rfl⟩
theorem kf_10_117 : sm_fl 10 117 10 43 := ⟨⟨Nat.le_of_ble_eq_true rfl, Nat.le_of_ble_eq_true rfl⟩, sg_5 (i := 238) rfl rfl⟩
theorem kf_10_120 : sm_fl 10 120 10 45 := ⟨⟨Nat.le_of_ble_eq_true rfl, Nat.le_of_ble_eq_true rfl⟩, sg_6 (i := 0) rfl rfl⟩
theorem kf_10_123 : sm_fl 10 123 10 46 := ⟨⟨Nat.le_of_ble_eq_true rfl, Nat.le_of_ble_eq_true rfl⟩, sg_6 (i := 1) rfl rfl⟩
theorem kf_10_127 : sm_fl 10 127 10 47 := ⟨⟨Nat.le_of_ble_eq_true rfl, Nat.le_of_ble_eq_true rfl⟩, sg_6 (i := 2) rfl rfl⟩
theorem kf_10_130 : sm_fl 10 130 10 48 := ⟨⟨Nat.le_of_ble_eq_true rfl, Nat.le_of_ble_eq_true rfl⟩, sg_6 (i := 3) rfl rfl⟩
theorem kf_10_133 : sm_fl 10 133 10 49 := ⟨⟨Nat.le_of_ble_eq_true rfl, Nat.le_of_ble_eq_true rfl⟩, sg_6 (i := 4) rfl rfl⟩
theorem kf_10_136 : sm_fl 10 136 10 50 := ⟨⟨Nat.le_of_ble_eq_true rfl, Nat.le_of_ble_eq_true rfl⟩, sg_6 (i := 5) rfl rfl⟩
theorem kf_10_139 : sm_fl 10 139 10 51 := ⟨⟨Nat.le_of_ble_eq_true rfl, Nat.le_of_ble_eq_true rfl⟩, sg_6 (i := 6) rfl rfl⟩
theorem kf_10_142 : sm_fl 10 142 10 52 := ⟨⟨Nat.le_of_ble_eq_true rfl, Nat.le_of_ble_eq_true rfl⟩, sg_6 (i := 7) rfl rfl⟩
theorem kf_10_145 : sm_fl 10 145 10 53 := ⟨⟨Nat.le_of_ble_eq_true rfl, Nat.le_of_ble_eq_true rfl⟩, sg_6 (i := 8) rfl rfl⟩
theorem kf_10_148 : sm_fl 10 148 10 54 := ⟨⟨Nat.le_of_ble_eq_true rfl, Nat.le_of_ble_eq_true rfl⟩, sg_6 (i := 9) rfl rfl⟩
theorem kf_10_151 : sm_fl 10 151 10 55 := ⟨⟨Nat.le_of_ble_eq_true rfl, Nat.le_of_ble_eq_true rfl⟩, sg_6 (i := 10) rfl rfl⟩
theorem kf_10_154 : sm_fl 10 154 10 62 := ⟨⟨Nat.le_of_ble_eq_true rfl, Nat.le_of_ble_eq_true rfl⟩, sg_6 (i := 17) rfl rfl⟩
theorem kf_10_157 : sm_fl 10 157 10 63 := ⟨⟨Nat.le_of_ble_eq_true rfl, Nat.le_of_ble_eq_true rfl⟩, sg_6 (i := 18) rfl rfl⟩
theorem kf_10_160 : sm_fl 10 160 10 64 := ⟨⟨Nat.le_of_ble_eq_true rfl, Nat.le_of_ble_eq_true rfl⟩, sg_6 (i := 19) rfl rfl⟩
theorem kf_10_163 : sm_fl 10 163 10 65 := ⟨⟨Nat.le_of_ble_eq_true rfl, Nat.le_of_ble_eq_true rfl⟩, sg_6 (i := 20) rfl rfl⟩
theorem kf_10_166 : sm_fl 10 166 10 66 := ⟨⟨Nat.le_of_ble_eq_true rfl, Nat.le_of_ble_eq_true rfl⟩, sg_6 (i := 21) rfl rfl⟩
theorem kf_10_169 : sm_fl 10 169 10 67 := ⟨⟨Nat.le_of_ble_eq_true rfl, Nat.le_of_ble_eq_true rfl⟩, sg_6 (i := 22) rfl rfl⟩
theorem kf_10_172 : sm_fl 10 172 10 74 := ⟨⟨Nat.le_of_ble_eq_true rfl, Nat.le_of_ble_eq_true rfl⟩, sg_6 (i := 29) rfl rfl⟩
theorem kf_10_175 : sm_fl 10 175 10 76 := ⟨⟨Nat.le_of_ble_eq_true rfl, Nat.le_of_ble_eq_true rfl⟩, sg_6 (i := 31) rfl rfl⟩
theorem kf_10_178 : sm_fl 10 178 10 78 := ⟨⟨Nat.le_of_ble_eq_true rfl, Nat.le_of_ble_eq_true rfl⟩, sg_6 (i := 33) rfl rfl⟩
theorem kf_10_181 : sm_fl 10 181 10 81 := ⟨⟨Nat.le_of_ble_eq_true rfl, Nat.le_of_ble_eq_true rfl⟩, sg_6 (i := 36) rfl rfl⟩
theorem kf_10_184 : sm_fl 10 184 10 82 := ⟨⟨Nat.le_of_ble_eq_true rfl, Nat.le_of_ble_eq_true rfl⟩, sg_6 (i := 37) rfl rfl⟩
theorem kf_10_187 : sm_fl 10 187 10 83 := ⟨⟨Nat.le_of_ble_eq_true rfl, Nat.le_of_ble_eq_true rfl⟩, sg_6 (i := 38) rfl rfl⟩
theorem kf_10_190 : sm_fl 10 190 10 86 := ⟨⟨Nat.le_of_ble_eq_true rfl, Nat.le_of_ble_eq_true rfl⟩, sg_6 (i := 41) rfl rfl⟩
theorem kf_10_194 : sm_fl 10 194 10 87 := ⟨⟨Nat.le_of_ble_eq_true rfl, Nat.le_of_ble_eq_true rfl⟩, sg_6 (i := 42) rfl rfl⟩
theorem kf_10_197 : sm_fl 10 197 10 88 := ⟨⟨Nat.le_of_ble_eq_true rfl, Nat.le_of_ble_eq_true rfl⟩, sg_6 (i := 43) rfl rfl⟩
theorem kf_10_200 : sm_fl 10 200 10 89 := ⟨⟨Nat.le_of_ble_eq_true rfl, Nat.le_of_ble_eq_true rfl⟩, sg_6 (i := 44) rfl rfl⟩
theorem kf_10_203 : sm_fl 10 203 10 90 := ⟨⟨Nat.le_of_ble_eq_true rfl, Nat.le_of_ble_eq_true rfl⟩, sg_6 (i := 45) rfl rfl⟩
theorem kf_10_206 : sm_fl 10 206 10 91 := ⟨⟨Nat.le_of_ble_eq_true rfl, Nat.le_of_ble_eq_true rfl⟩, sg_6 (i := 46) rfl rfl⟩
theorem kf_10_209 : sm_fl 10 209 10 92 := ⟨⟨Nat.le_of_ble_eq_true rfl, Nat.le_of_ble_eq_true rfl⟩, sg_6 (i := 47) rfl rfl⟩
theorem kf_10_212 : sm_fl 10 212 10 93 := ⟨⟨Nat.le_of_ble_eq_true rfl, Nat.le_of_ble_eq_true rfl⟩, sg_6 (i := 48) rfl rfl⟩
theorem kf_10_215 : sm_fl 10 215 10 94 := ⟨⟨Nat.le_of_ble_eq_true rfl, Nat.le_of_ble_eq_true rfl⟩, sg_6 (i := 49) rfl rfl⟩
theorem kf_10_218 : sm_fl 10 218 10 95 := ⟨⟨Nat.le_of_ble_eq_true rfl, Nat.le_of_ble_eq_true rfl⟩, sg_6 (i := 50) rfl rfl⟩
theorem kf_10_221 : sm_fl 10 221 10 96 := ⟨⟨Nat.le_of_ble_eq_true rfl, Nat.le_of_ble_eq_true rfl⟩, sg_6 (i := 51) rfl rfl⟩
theorem kf_10_224 : sm_fl 10 224 10 97 := ⟨⟨Nat.le_of_ble_eq_true rfl, Nat.le_of_ble_eq_true rfl⟩, sg_6 (i := 52) rfl rfl⟩
theorem kf_10_227 : sm_fl 10 227 10 98 := ⟨⟨Nat.le_of_ble_eq_true rfl, Nat.le_of_ble_eq_true rfl⟩, sg_6 (i := 53) rfl rfl⟩
theorem kf_10_230 : sm_fl 10 230 10 99 := ⟨⟨Nat.le_of_ble_eq_true rfl, Nat.le_of_ble_eq_true rfl⟩, sg_6 (i := 54) rfl rfl⟩
theorem kf_10_233 : sm_fl 10 233 10 100 := ⟨⟨Nat.le_of_ble_eq_true rfl, Nat.le_of_ble_eq_true rfl⟩, sg_6 (i := 55) rfl rfl⟩
theorem kf_10_236 : sm_fl 10 236 10 101 := ⟨⟨Nat.le_of_ble_eq_true rfl, Nat.le_of_ble_eq_true rfl⟩, sg_6 (i := 56) rfl rfl⟩
theorem kf_10_239 : sm_fl 10 239 10 102 := ⟨⟨Nat.le_of_ble_eq_true rfl, Nat.le_of_ble_eq_true rfl⟩, sg_6 (i := 57) rfl rfl⟩
theorem kf_10_242 : sm_fl 10 242 10 103 := ⟨⟨Nat.le_of_ble_eq_true rfl, Nat.le_of_ble_eq_true rfl⟩, sg_6 (i := 58) rfl rfl⟩
theorem kf_10_245 : sm_fl 10 245 10 104 := ⟨⟨Nat.le_of_ble_eq_true rfl, Nat.le_of_ble_eq_true rfl⟩, sg_6 (i := 59) rfl rfl⟩
theorem kf_10_248 : sm_fl 10 248 10 105 := ⟨⟨Nat.le_of_ble_eq_true rfl, Nat.le_of_ble_eq_true rfl⟩, sg_6 (i := 60) rfl rfl⟩
theorem kf_10_251 : sm_fl 10 251 10 106 := ⟨⟨Nat.le_of_ble_eq_true rfl, Nat.le_of_ble_eq_true rfl⟩, sg_6 (i := 61) rfl rfl⟩
theorem kf_10_254 : sm_fl 10 254 10 107 := ⟨⟨Nat.le_of_ble_eq_true rfl, Nat.le_of_ble_eq_true rfl⟩, sg_6 (i := 62) rfl rfl⟩
theorem kf_10_257 : sm_fl 10 257 10 108 := ⟨⟨Nat.le_of_ble_eq_true rfl, Nat.le_of_ble_eq_true rfl⟩, sg_6 (i := 63) rfl rfl⟩
theorem kf_10_260 : sm_fl 10 260 10 109 := ⟨⟨Nat.le_of_ble_eq_true rfl, Nat.le_of_ble_eq_true rfl⟩, sg_6 (i := 64) rfl rfl⟩
theorem kf_10_263 : sm_fl 10 263 10 110 := ⟨⟨Nat.le_of_ble_eq_true rfl, Nat.le_of_ble_eq_true rfl⟩, sg_6 (i := 65) rfl rfl⟩
theorem kf_10_266 : sm_fl 10 266 10 112 := ⟨⟨Nat.le_of_ble_eq_true rfl, Nat.le_of_ble_eq_true rfl⟩, sg_6 (i := 67) rfl rfl⟩
theorem kf_10_269 : sm_fl 10 269 10 116 := ⟨⟨Nat.le_of_ble_eq_true rfl, Nat.le_of_ble_eq_true rfl⟩, sg_6 (i := 71) rfl rfl⟩
theorem kf_10_272 : sm_fl 10 272 10 120 := ⟨⟨Nat.le_of_ble_eq_true rfl, Nat.le_of_ble_eq_true rfl⟩, sg_6 (i := 75) rfl rfl⟩
theorem kf_10_275 : sm_fl 10 275 10 1 := ⟨⟨Nat.le_of_ble_eq_true rfl, Nat.le_of_ble_eq_true rfl⟩, sg_5 (i := 196) rfl rfl⟩
theorem kf_10_278 : sm_fl 10 278 10 5 := ⟨⟨Nat.le_of_ble_eq_true rfl, Nat.le_of_ble_eq_true rfl⟩, sg_5 (i := 200) rfl rfl⟩
theorem kf_10_281 : sm_fl 10 281 10 6 := ⟨⟨Nat.le_of_ble_eq_true rfl, Nat.le_of_ble_eq_true rfl⟩, sg_5 (i := 201) rfl rfl⟩
theorem kf_10_284 : sm_fl 10 284 10 2 := ⟨⟨Nat.le_of_ble_eq_true rfl, Nat.le_of_ble_eq_true rfl⟩, sg_5 (i := 197) rfl rfl⟩
theorem kf_10_287 : sm_fl 10 287 10 3 := ⟨⟨Nat.le_of_ble_eq_true rfl, Nat.le_of_ble_eq_true rfl⟩, sg_5 (i := 198) rfl rfl⟩
theorem kf_10_298 : sm_fl 10 298 10 4 := ⟨⟨Nat.le_of_ble_eq_true rfl, Nat.le_of_ble_eq_true rfl⟩, sg_5 (i := 199) rfl rfl⟩
theorem kf_10_318 : sm_fl 10 318 10 10 := ⟨⟨Nat.le_of_ble_eq_true rfl, Nat.le_of_ble_eq_true rfl⟩, sg_5 (i := 205) rfl rfl⟩
theorem kf_10_329 : sm_fl 10 329 10 44 := ⟨⟨Nat.le_of_ble_eq_true rfl, Nat.le_of_ble_eq_true rfl⟩, sg_5 (i := 239) rfl rfl⟩
theorem kf_10_336 : sm_fl 10 336 10 59 := ⟨⟨Nat.le_of_ble_eq_true rfl, Nat.le_of_ble_eq_true rfl⟩, sg_6 (i := 14) rfl rfl⟩
theorem kf_10_370 : sm_fl 10 370 10 60 := ⟨⟨Nat.le_of_ble_eq_true rfl, Nat.le_of_ble_eq_true rfl⟩, sg_6 (i := 15) rfl rfl⟩
theorem kf_10_373 : sm_fl 10 373 10 61 := ⟨⟨Nat.le_of_ble_eq_true rfl, Nat.le_of_ble_eq_true rfl⟩, sg_6 (i := 16) rfl rfl⟩
theorem kf_10_379 : sm_fl 10 379 10 111 := ⟨⟨Nat.le_of_ble_eq_true rfl, Nat.le_of_ble_eq_true rfl⟩, sg_6 (i := 66) rfl rfl⟩
theorem kf_10_382 : sm_fl 10 382 10 113 := ⟨⟨Nat.le_of_ble_eq_true rfl, Nat.le_of_ble_eq_true rfl⟩, sg_6 (i := 68) rfl rfl⟩
theorem kf_10_385 : sm_fl 10 385 10 114 := ⟨⟨Nat.le_of_ble_eq_true rfl, Nat.le_of_ble_eq_true rfl⟩, sg_6 (i := 69) rfl rfl⟩
theorem kf_10_388 : sm_fl 10 388 10 115 := ⟨⟨Nat.le_of_ble_eq_true rfl, Nat.le_of_ble_eq_true rfl⟩, sg_6 (i := 70) rfl rfl⟩
theorem kf_10_394 : sm_fl 10 394 10 56 := ⟨⟨Nat.le_of_ble_eq_true rfl, Nat.le_of_ble_eq_true rfl⟩, sg_6 (i := 11) rfl rfl⟩
theorem kf_10_397 : sm_fl 10 397 10 57 := ⟨⟨Nat.le_of_ble_eq_true rfl, Nat.le_of_ble_eq_true rfl⟩, sg_6 (i := 12) rfl rfl⟩
theorem kf_10_418 : sm_fl 10 418 10 7 := ⟨⟨Nat.le_of_ble_eq_true rfl, Nat.le_of_ble_eq_true rfl⟩, sg_5 (i := 202) rfl rfl⟩
theorem kf_10_424 : sm_fl 10 424 10 58 := ⟨⟨Nat.le_of_ble_eq_true rfl, Nat.le_of_ble_eq_true rfl⟩, sg_6 (i := 13) rfl rfl⟩
theorem kf_10_427 : sm_fl 10 427 10 84 := ⟨⟨Nat.le_of_ble_eq_true rfl, Nat.le_of_ble_eq_true rfl⟩, sg_6 (i := 39) rfl rfl⟩
theorem kf_10_430 : sm_fl 10 430 10 80 := ⟨⟨Nat.le_of_ble_eq_true rfl, Nat.le_of_ble_eq_true rfl⟩, sg_6 (i := 35) rfl rfl⟩
theorem kf_10_515 : sm_fl 10 515 10 68 := ⟨⟨Nat.le_of_ble_eq_true rfl, Nat.le_of_ble_eq_true rfl⟩, sg_6 (i := 23) rfl rfl⟩
theorem kf_10_521 : sm_fl 10 521 10 69 := ⟨⟨Nat.le_of_ble_eq_true rfl, Nat.le_of_ble_eq_true rfl⟩, sg_6 (i := 24) rfl rfl⟩
theorem kf_10_524 : sm_fl 10 524 10 70 := ⟨⟨Nat.le_of_ble_eq_true rfl, Nat.le_of_ble_eq_true rfl⟩, sg_6 (i := 25) rfl rfl⟩
theorem kf_10_527 : sm_fl 10 527 10 71 := ⟨⟨Nat.le_of_ble_eq_true rfl, Nat.le_of_ble_eq_true rfl⟩, sg_6 (i := 26) rfl rfl⟩
theorem kf_10_530 : sm_fl 10 530 10 73 := ⟨⟨Nat.le_of_ble_eq_true rfl, Nat.le_of_ble_eq_true rfl⟩, sg_6 (i := 28) rfl rfl⟩
theorem kf_10_533 : sm_fl 10 533 10 117 := ⟨⟨Nat.le_of_ble_eq_true rfl, Nat.le_of_ble_eq_true rfl⟩, sg_6 (i := 72) rfl rfl⟩
theorem kf_10_547 : sm_fl 10 547 10 75 := ⟨⟨Nat.le_of_ble_eq_true rfl, Nat.le_of_ble_eq_true rfl⟩, sg_6 (i := 30) rfl rfl⟩
theorem kf_10_550 : sm_fl 10 550 10 77 := ⟨⟨Nat.le_of_ble_eq_true rfl, Nat.le_of_ble_eq_true rfl⟩, sg_6 (i := 32) rfl rfl⟩
theorem kf_10_556 : sm_fl 10 556 10 72 := ⟨⟨Nat.le_of_ble_eq_true rfl, Nat.le_of_ble_eq_true rfl⟩, sg_6 (i := 27) rfl rfl⟩
theorem kf_10_569 : sm_fl 10 569 10 79 := ⟨⟨Nat.le_of_ble_eq_true rfl, Nat.le_of_ble_eq_true rfl⟩, sg_6 (i := 34) rfl rfl⟩
theorem kf_10_660 : sm_fl 10 660 10 85 := ⟨⟨Nat.le_of_ble_eq_true rfl, Nat.le_of_ble_eq_true rfl⟩, sg_6 (i := 40) rfl rfl⟩
theorem kf_10_749 : sm_fl 10 749 10 118 := ⟨⟨Nat.le_of_ble_eq_true rfl, Nat.le_of_ble_eq_true rfl⟩, sg_6 (i := 73) rfl rfl⟩
theorem kf_10_754 : sm_fl 10 754 10 119 := ⟨⟨Nat.le_of_ble_eq_true rfl, Nat.le_of_ble_eq_true rfl⟩, sg_6 (i := 74) rfl rfl⟩
theorem kf_10_771 : sm_fl 10 771 10 121 := ⟨⟨Nat.le_of_ble_eq_true rfl, Nat.le_of_ble_eq_true rfl⟩, sg_6 (i := 76) rfl rfl⟩
theorem kg_3_121 : sm_gl 3 121 2 := sm_n3 (i := 211) rfl rfl
theorem kg_3_124 : sm_gl 3 124 3 := sm_n3 (i := 213) rfl rfl
theorem kg_3_131 : sm_gl 3 131 0 := sm_n3 (i := 219) rfl rfl
theorem kg_3_134 : sm_gl 3 134 1 := sm_n3 (i := 221) rfl rfl
theorem kc_9_286 : Cond.constant (sm_RC 9) 286 (Int32.ofInt (999999)) ∈ sm_Tg := sg_5 (i := 30) rfl rfl
theorem kc_6_49 : Cond.constant (sm_RC 6) 49 (Int32.ofInt (-1000000)) ∈ sm_Tg := sg_4 (i := 219) rfl rfl
theorem kc_6_50 : Cond.constant (sm_RC 6) 50 (Int32.ofInt (1000000)) ∈ sm_Tg := sg_4 (i := 220) rfl rfl
theorem kc_10_638 : Cond.constant (sm_RC 10) 638 (Int32.ofInt (999999)) ∈ sm_Tg := sg_9 (i := 61) rfl rfl
theorem kc_11_265 : Cond.constant (sm_RC 11) 265 (Int32.ofInt (1431655765)) ∈ sm_Tg := sg_3 (i := 226) rfl rfl
theorem kc_11_266 : Cond.constant (sm_RC 11) 266 (Int32.ofInt (858993459)) ∈ sm_Tg := sg_3 (i := 227) rfl rfl
theorem kc_11_267 : Cond.constant (sm_RC 11) 267 (Int32.ofInt (252645135)) ∈ sm_Tg := sg_3 (i := 228) rfl rfl
theorem kl_9_253 : Cond.constantLong (sm_RC 9) 253 (Int64.ofInt (-1000000000000000)) ∈ sm_Tg := sg_4 (i := 111) rfl rfl
theorem kl_9_364 : Cond.constantLong (sm_RC 9) 364 (Int64.ofInt (1103515245)) ∈ sm_Tg := sg_5 (i := 104) rfl rfl
theorem kl_9_366 : Cond.constantLong (sm_RC 9) 366 (Int64.ofInt (12345)) ∈ sm_Tg := sg_5 (i := 105) rfl rfl
theorem kl_9_368 : Cond.constantLong (sm_RC 9) 368 (Int64.ofInt (2147483647)) ∈ sm_Tg := sg_5 (i := 106) rfl rfl
theorem kl_6_60 : Cond.constantLong (sm_RC 6) 60 (Int64.ofInt (-1000000)) ∈ sm_Tg := sg_4 (i := 223) rfl rfl
theorem kl_6_62 : Cond.constantLong (sm_RC 6) 62 (Int64.ofInt (1000000)) ∈ sm_Tg := sg_4 (i := 224) rfl rfl
theorem kl_10_332 : Cond.constantLong (sm_RC 10) 332 (Int64.ofInt (27)) ∈ sm_Tg := sg_7 (i := 165) rfl rfl
theorem kl_10_334 : Cond.constantLong (sm_RC 10) 334 (Int64.ofInt (97)) ∈ sm_Tg := sg_7 (i := 166) rfl rfl
theorem kl_10_593 : Cond.constantLong (sm_RC 10) 593 (Int64.ofInt (2)) ∈ sm_Tg := sg_8 (i := 107) rfl rfl
theorem kl_10_595 : Cond.constantLong (sm_RC 10) 595 (Int64.ofInt (5)) ∈ sm_Tg := sg_8 (i := 108) rfl rfl
theorem kl_10_597 : Cond.constantLong (sm_RC 10) 597 (Int64.ofInt (3)) ∈ sm_Tg := sg_8 (i := 113) rfl rfl
theorem kl_10_605 : Cond.constantLong (sm_RC 10) 605 (Int64.ofInt (4)) ∈ sm_Tg := sg_8 (i := 138) rfl rfl
theorem kl_10_610 : Cond.constantLong (sm_RC 10) 610 (Int64.ofInt (-1000000000000000)) ∈ sm_Tg := sg_8 (i := 171) rfl rfl
theorem kl_10_636 : Cond.constantLong (sm_RC 10) 636 (Int64.ofInt (999999)) ∈ sm_Tg := sg_9 (i := 60) rfl rfl
theorem kl_10_666 : Cond.constantLong (sm_RC 10) 666 (Int64.ofInt (99)) ∈ sm_Tg := sg_9 (i := 122) rfl rfl
theorem kl_10_668 : Cond.constantLong (sm_RC 10) 668 (Int64.ofInt (1103515245)) ∈ sm_Tg := sg_9 (i := 139) rfl rfl
theorem kl_10_670 : Cond.constantLong (sm_RC 10) 670 (Int64.ofInt (12345)) ∈ sm_Tg := sg_9 (i := 140) rfl rfl
theorem kl_10_672 : Cond.constantLong (sm_RC 10) 672 (Int64.ofInt (2147483648)) ∈ sm_Tg := sg_9 (i := 141) rfl rfl
theorem kl_10_674 : Cond.constantLong (sm_RC 10) 674 (Int64.ofInt (64)) ∈ sm_Tg := sg_9 (i := 142) rfl rfl
theorem kl_10_733 : Cond.constantLong (sm_RC 10) 733 (Int64.ofInt (1000000)) ∈ sm_Tg := sg_9 (i := 23) rfl rfl
theorem kl_10_735 : Cond.constantLong (sm_RC 10) 735 (Int64.ofInt (-1000000)) ∈ sm_Tg := sg_9 (i := 24) rfl rfl
theorem kl_10_752 : Cond.constantLong (sm_RC 10) 752 (Int64.ofInt (-1)) ∈ sm_Tg := sg_9 (i := 171) rfl rfl
