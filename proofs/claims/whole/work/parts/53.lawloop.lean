/-! THE LAW: its loop, and from its entry -/
set_option maxHeartbeats 4000000 in
set_option maxRecDepth 20000 in
theorem law_switch {l : Launch} {b L : Nat} {xs : Nat → Int32} {Inv : Nat → ST → Prop} {k : Nat} (hL : L ≤ 3072) (hk : 6 * k + 6 ≤ L) (hall : okAll Inv k) (hid : ∀ s : ST, Inv k s → Inv (k + 1) s) (ih : ∀ s : ST, Inv (k + 1) s → LW l b L xs 1127 [some (.ref 1000007), some (.ref 0), some (.ref 65), some (.int (nI (6 * k)))] [] (hp s) 150 23754) (z : Int32) (s : ST) (hI : Inv k s) : LW l b L xs 33 [some (.ref 1000007), some (.ref 0), some (.ref 65), some (.int (nI (6 * k)))] [.int z] (hp s) 150 23754 := by
  by_cases b0 : z = 0
  · refine LW.tswitch (dflt := 1094) (lo := 0) (hi := 34) (offs := #[155, 218, 241, 254, 277, 300, 343, 376, 409, 442, 475, 508, 541, 565, 589, 612, 625, 658, 691, 734, 767, 811, 824, 847, 870, 893, 926, 949, 972, 985, 1008, 1022, 1035, 1058, 1071]) (len := 155) (tgt := 188) (by decide +kernel) (by rw [b0]; decide) (by decide) ?_
    exact lc_feed hL hk hall.1 ih s hI
  by_cases b1 : z = 1
  · refine LW.tswitch (dflt := 1094) (lo := 0) (hi := 34) (offs := #[155, 218, 241, 254, 277, 300, 343, 376, 409, 442, 475, 508, 541, 565, 589, 612, 625, 658, 691, 734, 767, 811, 824, 847, 870, 893, 926, 949, 972, 985, 1008, 1022, 1035, 1058, 1071]) (len := 155) (tgt := 251) (by decide +kernel) (by rw [b1]; decide) (by decide) ?_
    exact lc_end hL hk hall.2.1 ih s hI
  by_cases b2 : z = 2
  · refine LW.tswitch (dflt := 1094) (lo := 0) (hi := 34) (offs := #[155, 218, 241, 254, 277, 300, 343, 376, 409, 442, 475, 508, 541, 565, 589, 612, 625, 658, 691, 734, 767, 811, 824, 847, 870, 893, 926, 949, 972, 985, 1008, 1022, 1035, 1058, 1071]) (len := 155) (tgt := 274) (by decide +kernel) (by rw [b2]; decide) (by decide) ?_
    exact lc_board hL hk hall.2.2.1 ih s hI
  by_cases b3 : z = 3
  · refine LW.tswitch (dflt := 1094) (lo := 0) (hi := 34) (offs := #[155, 218, 241, 254, 277, 300, 343, 376, 409, 442, 475, 508, 541, 565, 589, 612, 625, 658, 691, 734, 767, 811, 824, 847, 870, 893, 926, 949, 972, 985, 1008, 1022, 1035, 1058, 1071]) (len := 155) (tgt := 287) (by decide +kernel) (by rw [b3]; decide) (by decide) ?_
    exact lc_fault hL hk hall.2.2.2.1 ih s hI
  by_cases b4 : z = 4
  · refine LW.tswitch (dflt := 1094) (lo := 0) (hi := 34) (offs := #[155, 218, 241, 254, 277, 300, 343, 376, 409, 442, 475, 508, 541, 565, 589, 612, 625, 658, 691, 734, 767, 811, 824, 847, 870, 893, 926, 949, 972, 985, 1008, 1022, 1035, 1058, 1071]) (len := 155) (tgt := 310) (by decide +kernel) (by rw [b4]; decide) (by decide) ?_
    exact lc_has hL hk hall.2.2.2.2.1 ih s hI
  by_cases b5 : z = 5
  · refine LW.tswitch (dflt := 1094) (lo := 0) (hi := 34) (offs := #[155, 218, 241, 254, 277, 300, 343, 376, 409, 442, 475, 508, 541, 565, 589, 612, 625, 658, 691, 734, 767, 811, 824, 847, 870, 893, 926, 949, 972, 985, 1008, 1022, 1035, 1058, 1071]) (len := 155) (tgt := 333) (by decide +kernel) (by rw [b5]; decide) (by decide) ?_
    exact lc_letter hL hk hall.2.2.2.2.2.1 ih s hI
  by_cases b6 : z = 6
  · refine LW.tswitch (dflt := 1094) (lo := 0) (hi := 34) (offs := #[155, 218, 241, 254, 277, 300, 343, 376, 409, 442, 475, 508, 541, 565, 589, 612, 625, 658, 691, 734, 767, 811, 824, 847, 870, 893, 926, 949, 972, 985, 1008, 1022, 1035, 1058, 1071]) (len := 155) (tgt := 376) (by decide +kernel) (by rw [b6]; decide) (by decide) ?_
    exact lc_kind hL hk hall.2.2.2.2.2.2.1 ih s hI
  by_cases b7 : z = 7
  · refine LW.tswitch (dflt := 1094) (lo := 0) (hi := 34) (offs := #[155, 218, 241, 254, 277, 300, 343, 376, 409, 442, 475, 508, 541, 565, 589, 612, 625, 658, 691, 734, 767, 811, 824, 847, 870, 893, 926, 949, 972, 985, 1008, 1022, 1035, 1058, 1071]) (len := 155) (tgt := 409) (by decide +kernel) (by rw [b7]; decide) (by decide) ?_
    exact lc_man hL hk hall.2.2.2.2.2.2.2.1 ih s hI
  by_cases b8 : z = 8
  · refine LW.tswitch (dflt := 1094) (lo := 0) (hi := 34) (offs := #[155, 218, 241, 254, 277, 300, 343, 376, 409, 442, 475, 508, 541, 565, 589, 612, 625, 658, 691, 734, 767, 811, 824, 847, 870, 893, 926, 949, 972, 985, 1008, 1022, 1035, 1058, 1071]) (len := 155) (tgt := 442) (by decide +kernel) (by rw [b8]; decide) (by decide) ?_
    exact lc_field hL hk hall.2.2.2.2.2.2.2.2.1 ih s hI
  by_cases b9 : z = 9
  · refine LW.tswitch (dflt := 1094) (lo := 0) (hi := 34) (offs := #[155, 218, 241, 254, 277, 300, 343, 376, 409, 442, 475, 508, 541, 565, 589, 612, 625, 658, 691, 734, 767, 811, 824, 847, 870, 893, 926, 949, 972, 985, 1008, 1022, 1035, 1058, 1071]) (len := 155) (tgt := 475) (by decide +kernel) (by rw [b9]; decide) (by decide) ?_
    exact lc_at hL hk hall.2.2.2.2.2.2.2.2.2.1 ih s hI
  by_cases b10 : z = 10
  · refine LW.tswitch (dflt := 1094) (lo := 0) (hi := 34) (offs := #[155, 218, 241, 254, 277, 300, 343, 376, 409, 442, 475, 508, 541, 565, 589, 612, 625, 658, 691, 734, 767, 811, 824, 847, 870, 893, 926, 949, 972, 985, 1008, 1022, 1035, 1058, 1071]) (len := 155) (tgt := 508) (by decide +kernel) (by rw [b10]; decide) (by decide) ?_
    exact lc_option hL hk hall.2.2.2.2.2.2.2.2.2.2.1 ih s hI
  by_cases b11 : z = 11
  · refine LW.tswitch (dflt := 1094) (lo := 0) (hi := 34) (offs := #[155, 218, 241, 254, 277, 300, 343, 376, 409, 442, 475, 508, 541, 565, 589, 612, 625, 658, 691, 734, 767, 811, 824, 847, 870, 893, 926, 949, 972, 985, 1008, 1022, 1035, 1058, 1071]) (len := 155) (tgt := 541) (by decide +kernel) (by rw [b11]; decide) (by decide) ?_
    exact lc_kept hL hk hall.2.2.2.2.2.2.2.2.2.2.2.1 ih s hI
  by_cases b12 : z = 12
  · refine LW.tswitch (dflt := 1094) (lo := 0) (hi := 34) (offs := #[155, 218, 241, 254, 277, 300, 343, 376, 409, 442, 475, 508, 541, 565, 589, 612, 625, 658, 691, 734, 767, 811, 824, 847, 870, 893, 926, 949, 972, 985, 1008, 1022, 1035, 1058, 1071]) (len := 155) (tgt := 574) (by decide +kernel) (by rw [b12]; decide) (by decide) ?_
    exact lc_balance hL hk hall.2.2.2.2.2.2.2.2.2.2.2.2.1 ih s hI
  by_cases b13 : z = 13
  · refine LW.tswitch (dflt := 1094) (lo := 0) (hi := 34) (offs := #[155, 218, 241, 254, 277, 300, 343, 376, 409, 442, 475, 508, 541, 565, 589, 612, 625, 658, 691, 734, 767, 811, 824, 847, 870, 893, 926, 949, 972, 985, 1008, 1022, 1035, 1058, 1071]) (len := 155) (tgt := 598) (by decide +kernel) (by rw [b13]; decide) (by decide) ?_
    exact lc_value hL hk hall.2.2.2.2.2.2.2.2.2.2.2.2.2.1 ih s hI
  by_cases b14 : z = 14
  · refine LW.tswitch (dflt := 1094) (lo := 0) (hi := 34) (offs := #[155, 218, 241, 254, 277, 300, 343, 376, 409, 442, 475, 508, 541, 565, 589, 612, 625, 658, 691, 734, 767, 811, 824, 847, 870, 893, 926, 949, 972, 985, 1008, 1022, 1035, 1058, 1071]) (len := 155) (tgt := 622) (by decide +kernel) (by rw [b14]; decide) (by decide) ?_
    exact lc_best hL hk hall.2.2.2.2.2.2.2.2.2.2.2.2.2.2.1 ih s hI
  by_cases b15 : z = 15
  · refine LW.tswitch (dflt := 1094) (lo := 0) (hi := 34) (offs := #[155, 218, 241, 254, 277, 300, 343, 376, 409, 442, 475, 508, 541, 565, 589, 612, 625, 658, 691, 734, 767, 811, 824, 847, 870, 893, 926, 949, 972, 985, 1008, 1022, 1035, 1058, 1071]) (len := 155) (tgt := 645) (by decide +kernel) (by rw [b15]; decide) (by decide) ?_
    exact lc_forced hL hk hall.2.2.2.2.2.2.2.2.2.2.2.2.2.2.2.1 ih s hI
  by_cases b16 : z = 16
  · refine LW.tswitch (dflt := 1094) (lo := 0) (hi := 34) (offs := #[155, 218, 241, 254, 277, 300, 343, 376, 409, 442, 475, 508, 541, 565, 589, 612, 625, 658, 691, 734, 767, 811, 824, 847, 870, 893, 926, 949, 972, 985, 1008, 1022, 1035, 1058, 1071]) (len := 155) (tgt := 658) (by decide +kernel) (by rw [b16]; decide) (by decide) ?_
    exact lc_later hL hk hall.2.2.2.2.2.2.2.2.2.2.2.2.2.2.2.2.1 ih s hI
  by_cases b17 : z = 17
  · refine LW.tswitch (dflt := 1094) (lo := 0) (hi := 34) (offs := #[155, 218, 241, 254, 277, 300, 343, 376, 409, 442, 475, 508, 541, 565, 589, 612, 625, 658, 691, 734, 767, 811, 824, 847, 870, 893, 926, 949, 972, 985, 1008, 1022, 1035, 1058, 1071]) (len := 155) (tgt := 691) (by decide +kernel) (by rw [b17]; decide) (by decide) ?_
    exact lc_crop hL hk hall.2.2.2.2.2.2.2.2.2.2.2.2.2.2.2.2.2.1 ih s hI
  by_cases b18 : z = 18
  · refine LW.tswitch (dflt := 1094) (lo := 0) (hi := 34) (offs := #[155, 218, 241, 254, 277, 300, 343, 376, 409, 442, 475, 508, 541, 565, 589, 612, 625, 658, 691, 734, 767, 811, 824, 847, 870, 893, 926, 949, 972, 985, 1008, 1022, 1035, 1058, 1071]) (len := 155) (tgt := 724) (by decide +kernel) (by rw [b18]; decide) (by decide) ?_
    exact lc_spare hL hk hall.2.2.2.2.2.2.2.2.2.2.2.2.2.2.2.2.2.2.1 ih s hI
  by_cases b19 : z = 19
  · refine LW.tswitch (dflt := 1094) (lo := 0) (hi := 34) (offs := #[155, 218, 241, 254, 277, 300, 343, 376, 409, 442, 475, 508, 541, 565, 589, 612, 625, 658, 691, 734, 767, 811, 824, 847, 870, 893, 926, 949, 972, 985, 1008, 1022, 1035, 1058, 1071]) (len := 155) (tgt := 767) (by decide +kernel) (by rw [b19]; decide) (by decide) ?_
    exact lc_sow hL hk hall.2.2.2.2.2.2.2.2.2.2.2.2.2.2.2.2.2.2.2.1 ih s hI
  by_cases b20 : z = 20
  · refine LW.tswitch (dflt := 1094) (lo := 0) (hi := 34) (offs := #[155, 218, 241, 254, 277, 300, 343, 376, 409, 442, 475, 508, 541, 565, 589, 612, 625, 658, 691, 734, 767, 811, 824, 847, 870, 893, 926, 949, 972, 985, 1008, 1022, 1035, 1058, 1071]) (len := 155) (tgt := 800) (by decide +kernel) (by rw [b20]; decide) (by decide) ?_
    exact lc_deeper hL hk hall.2.2.2.2.2.2.2.2.2.2.2.2.2.2.2.2.2.2.2.2.1 ih s hI
  by_cases b21 : z = 21
  · refine LW.tswitch (dflt := 1094) (lo := 0) (hi := 34) (offs := #[155, 218, 241, 254, 277, 300, 343, 376, 409, 442, 475, 508, 541, 565, 589, 612, 625, 658, 691, 734, 767, 811, 824, 847, 870, 893, 926, 949, 972, 985, 1008, 1022, 1035, 1058, 1071]) (len := 155) (tgt := 844) (by decide +kernel) (by rw [b21]; decide) (by decide) ?_
    exact lc_see hL hk hall.2.2.2.2.2.2.2.2.2.2.2.2.2.2.2.2.2.2.2.2.2.1 ih s hI
  by_cases b22 : z = 22
  · refine LW.tswitch (dflt := 1094) (lo := 0) (hi := 34) (offs := #[155, 218, 241, 254, 277, 300, 343, 376, 409, 442, 475, 508, 541, 565, 589, 612, 625, 658, 691, 734, 767, 811, 824, 847, 870, 893, 926, 949, 972, 985, 1008, 1022, 1035, 1058, 1071]) (len := 155) (tgt := 857) (by decide +kernel) (by rw [b22]; decide) (by decide) ?_
    exact lc_played hL hk hall.2.2.2.2.2.2.2.2.2.2.2.2.2.2.2.2.2.2.2.2.2.2.1 ih s hI
  by_cases b23 : z = 23
  · refine LW.tswitch (dflt := 1094) (lo := 0) (hi := 34) (offs := #[155, 218, 241, 254, 277, 300, 343, 376, 409, 442, 475, 508, 541, 565, 589, 612, 625, 658, 691, 734, 767, 811, 824, 847, 870, 893, 926, 949, 972, 985, 1008, 1022, 1035, 1058, 1071]) (len := 155) (tgt := 880) (by decide +kernel) (by rw [b23]; decide) (by decide) ?_
    exact lc_reached hL hk hall.2.2.2.2.2.2.2.2.2.2.2.2.2.2.2.2.2.2.2.2.2.2.2.1 ih s hI
  by_cases b24 : z = 24
  · refine LW.tswitch (dflt := 1094) (lo := 0) (hi := 34) (offs := #[155, 218, 241, 254, 277, 300, 343, 376, 409, 442, 475, 508, 541, 565, 589, 612, 625, 658, 691, 734, 767, 811, 824, 847, 870, 893, 926, 949, 972, 985, 1008, 1022, 1035, 1058, 1071]) (len := 155) (tgt := 903) (by decide +kernel) (by rw [b24]; decide) (by decide) ?_
    exact lc_play hL hk hall.2.2.2.2.2.2.2.2.2.2.2.2.2.2.2.2.2.2.2.2.2.2.2.2.1 ih s hI
  by_cases b25 : z = 25
  · refine LW.tswitch (dflt := 1094) (lo := 0) (hi := 34) (offs := #[155, 218, 241, 254, 277, 300, 343, 376, 409, 442, 475, 508, 541, 565, 589, 612, 625, 658, 691, 734, 767, 811, 824, 847, 870, 893, 926, 949, 972, 985, 1008, 1022, 1035, 1058, 1071]) (len := 155) (tgt := 926) (by decide +kernel) (by rw [b25]; decide) (by decide) ?_
    exact lc_tend hL hk hall.2.2.2.2.2.2.2.2.2.2.2.2.2.2.2.2.2.2.2.2.2.2.2.2.2.1 ih s hI
  by_cases b26 : z = 26
  · refine LW.tswitch (dflt := 1094) (lo := 0) (hi := 34) (offs := #[155, 218, 241, 254, 277, 300, 343, 376, 409, 442, 475, 508, 541, 565, 589, 612, 625, 658, 691, 734, 767, 811, 824, 847, 870, 893, 926, 949, 972, 985, 1008, 1022, 1035, 1058, 1071]) (len := 155) (tgt := 959) (by decide +kernel) (by rw [b26]; decide) (by decide) ?_
    exact lc_days hL hk hall.2.2.2.2.2.2.2.2.2.2.2.2.2.2.2.2.2.2.2.2.2.2.2.2.2.2.1 ih s hI
  by_cases b27 : z = 27
  · refine LW.tswitch (dflt := 1094) (lo := 0) (hi := 34) (offs := #[155, 218, 241, 254, 277, 300, 343, 376, 409, 442, 475, 508, 541, 565, 589, 612, 625, 658, 691, 734, 767, 811, 824, 847, 870, 893, 926, 949, 972, 985, 1008, 1022, 1035, 1058, 1071]) (len := 155) (tgt := 982) (by decide +kernel) (by rw [b27]; decide) (by decide) ?_
    exact lc_chance hL hk hall.2.2.2.2.2.2.2.2.2.2.2.2.2.2.2.2.2.2.2.2.2.2.2.2.2.2.2.1 ih s hI
  by_cases b28 : z = 28
  · refine LW.tswitch (dflt := 1094) (lo := 0) (hi := 34) (offs := #[155, 218, 241, 254, 277, 300, 343, 376, 409, 442, 475, 508, 541, 565, 589, 612, 625, 658, 691, 734, 767, 811, 824, 847, 870, 893, 926, 949, 972, 985, 1008, 1022, 1035, 1058, 1071]) (len := 155) (tgt := 1005) (by decide +kernel) (by rw [b28]; decide) (by decide) ?_
    exact lc_undo hL hk hall.2.2.2.2.2.2.2.2.2.2.2.2.2.2.2.2.2.2.2.2.2.2.2.2.2.2.2.2.1 ih s hI
  by_cases b29 : z = 29
  · refine LW.tswitch (dflt := 1094) (lo := 0) (hi := 34) (offs := #[155, 218, 241, 254, 277, 300, 343, 376, 409, 442, 475, 508, 541, 565, 589, 612, 625, 658, 691, 734, 767, 811, 824, 847, 870, 893, 926, 949, 972, 985, 1008, 1022, 1035, 1058, 1071]) (len := 155) (tgt := 1018) (by decide +kernel) (by rw [b29]; decide) (by decide) ?_
    exact lc_seed hL hk hall.2.2.2.2.2.2.2.2.2.2.2.2.2.2.2.2.2.2.2.2.2.2.2.2.2.2.2.2.2.1 ih s hI
  by_cases b30 : z = 30
  · refine LW.tswitch (dflt := 1094) (lo := 0) (hi := 34) (offs := #[155, 218, 241, 254, 277, 300, 343, 376, 409, 442, 475, 508, 541, 565, 589, 612, 625, 658, 691, 734, 767, 811, 824, 847, 870, 893, 926, 949, 972, 985, 1008, 1022, 1035, 1058, 1071]) (len := 155) (tgt := 1041) (by decide +kernel) (by rw [b30]; decide) (by decide) ?_
    exact lc_ask hL hk hall.2.2.2.2.2.2.2.2.2.2.2.2.2.2.2.2.2.2.2.2.2.2.2.2.2.2.2.2.2.2.1 ih s hI
  by_cases b31 : z = 31
  · refine LW.tswitch (dflt := 1094) (lo := 0) (hi := 34) (offs := #[155, 218, 241, 254, 277, 300, 343, 376, 409, 442, 475, 508, 541, 565, 589, 612, 625, 658, 691, 734, 767, 811, 824, 847, 870, 893, 926, 949, 972, 985, 1008, 1022, 1035, 1058, 1071]) (len := 155) (tgt := 1055) (by decide +kernel) (by rw [b31]; decide) (by decide) ?_
    exact lc_image hL hk hall.2.2.2.2.2.2.2.2.2.2.2.2.2.2.2.2.2.2.2.2.2.2.2.2.2.2.2.2.2.2.2.1 ih s hI
  by_cases b32 : z = 32
  · refine LW.tswitch (dflt := 1094) (lo := 0) (hi := 34) (offs := #[155, 218, 241, 254, 277, 300, 343, 376, 409, 442, 475, 508, 541, 565, 589, 612, 625, 658, 691, 734, 767, 811, 824, 847, 870, 893, 926, 949, 972, 985, 1008, 1022, 1035, 1058, 1071]) (len := 155) (tgt := 1068) (by decide +kernel) (by rw [b32]; decide) (by decide) ?_
    exact lc_octet hL hk hall.2.2.2.2.2.2.2.2.2.2.2.2.2.2.2.2.2.2.2.2.2.2.2.2.2.2.2.2.2.2.2.2.1 ih s hI
  by_cases b33 : z = 33
  · refine LW.tswitch (dflt := 1094) (lo := 0) (hi := 34) (offs := #[155, 218, 241, 254, 277, 300, 343, 376, 409, 442, 475, 508, 541, 565, 589, 612, 625, 658, 691, 734, 767, 811, 824, 847, 870, 893, 926, 949, 972, 985, 1008, 1022, 1035, 1058, 1071]) (len := 155) (tgt := 1091) (by decide +kernel) (by rw [b33]; decide) (by decide) ?_
    exact lc_on hL hk hall.2.2.2.2.2.2.2.2.2.2.2.2.2.2.2.2.2.2.2.2.2.2.2.2.2.2.2.2.2.2.2.2.2.1 ih s hI
  by_cases b34 : z = 34
  · refine LW.tswitch (dflt := 1094) (lo := 0) (hi := 34) (offs := #[155, 218, 241, 254, 277, 300, 343, 376, 409, 442, 475, 508, 541, 565, 589, 612, 625, 658, 691, 734, 767, 811, 824, 847, 870, 893, 926, 949, 972, 985, 1008, 1022, 1035, 1058, 1071]) (len := 155) (tgt := 1104) (by decide +kernel) (by rw [b34]; decide) (by decide) ?_
    exact lc_status hL hk hall.2.2.2.2.2.2.2.2.2.2.2.2.2.2.2.2.2.2.2.2.2.2.2.2.2.2.2.2.2.2.2.2.2.2 ih s hI
  refine LW.tswitch (dflt := 1094) (lo := 0) (hi := 34) (offs := #[155, 218, 241, 254, 277, 300, 343, 376, 409, 442, 475, 508, 541, 565, 589, 612, 625, 658, 691, 734, 767, 811, 824, 847, 870, 893, 926, 949, 972, 985, 1008, 1022, 1035, 1058, 1071]) (len := 155) (tgt := 1127) (by decide +kernel) (by have e0 := sw_ne b0 (c := 0) (by decide); have e1 := sw_ne b1 (c := 1) (by decide); have e2 := sw_ne b2 (c := 2) (by decide); have e3 := sw_ne b3 (c := 3) (by decide); have e4 := sw_ne b4 (c := 4) (by decide); have e5 := sw_ne b5 (c := 5) (by decide); have e6 := sw_ne b6 (c := 6) (by decide); have e7 := sw_ne b7 (c := 7) (by decide); have e8 := sw_ne b8 (c := 8) (by decide); have e9 := sw_ne b9 (c := 9) (by decide); have e10 := sw_ne b10 (c := 10) (by decide); have e11 := sw_ne b11 (c := 11) (by decide); have e12 := sw_ne b12 (c := 12) (by decide); have e13 := sw_ne b13 (c := 13) (by decide); have e14 := sw_ne b14 (c := 14) (by decide); have e15 := sw_ne b15 (c := 15) (by decide); have e16 := sw_ne b16 (c := 16) (by decide); have e17 := sw_ne b17 (c := 17) (by decide); have e18 := sw_ne b18 (c := 18) (by decide); have e19 := sw_ne b19 (c := 19) (by decide); have e20 := sw_ne b20 (c := 20) (by decide); have e21 := sw_ne b21 (c := 21) (by decide); have e22 := sw_ne b22 (c := 22) (by decide); have e23 := sw_ne b23 (c := 23) (by decide); have e24 := sw_ne b24 (c := 24) (by decide); have e25 := sw_ne b25 (c := 25) (by decide); have e26 := sw_ne b26 (c := 26) (by decide); have e27 := sw_ne b27 (c := 27) (by decide); have e28 := sw_ne b28 (c := 28) (by decide); have e29 := sw_ne b29 (c := 29) (by decide); have e30 := sw_ne b30 (c := 30) (by decide); have e31 := sw_ne b31 (c := 31) (by decide); have e32 := sw_ne b32 (c := 32) (by decide); have e33 := sw_ne b33 (c := 33) (by decide); have e34 := sw_ne b34 (c := 34) (by decide); rw [if_pos (by omega)]; decide) (by decide) ?_
  exact ih s (hid s hI)
theorem lw_cmp {k L : Nat} (hL : L ≤ 3072) (hk : 6 * k ≤ L) : Int32.ofNat L - (Int8.ofInt 6).toInt32 < nI (6 * k) ↔ L < 6 * k + 6 := by
  have e : (Int8.ofInt 6).toInt32 = nI 6 := by decide
  rw [e, Int32.lt_iff_toInt_lt]
  have h1 : (Int32.ofNat L - nI 6).toInt = (L : Int) - (6 : Nat) := pk_sub_toInt (a := L) (b := 6) (by omega) (by omega)
  rw [h1, nI_toInt (by omega)]
  omega
set_option maxHeartbeats 4000000 in
theorem law_loop {l : Launch} {b L : Nat} {xs : Nat → Int32} {Inv : Nat → ST → Prop} (hL : L ≤ 3072) (hall : ∀ k, 6 * k + 6 ≤ L → okAll Inv k) (hid : ∀ k, 6 * k + 6 ≤ L → ∀ s : ST, Inv k s → Inv (k + 1) s) : ∀ (n k : Nat), 6 * k ≤ L → L < 6 * k + 6 * n + 6 → ∀ s : ST, Inv k s → LW l b L xs 18 [some (.ref 1000007), some (.ref 0), some (.ref 65), some (.int (nI (6 * k)))] [] (hp s) 150 23754 := by
  intro n
  induction n with
  | zero =>
    intro k hk hn s hI
    refine LW.blk (pc' := 20) [(.iload_n 3, 0, 0, 0), (.aload_n 0, 0, 0, 0)] (by decide +kernel) trivial rfl ?_
    show LW l b L xs 20 [some (.ref 1000007), some (.ref 0), some (.ref 65), some (.int (nI (6 * k)))] [.ref 1000007, .int (nI (6 * k))] (hp s) 150 23754
    refine LW.scrLen (by decide +kernel) ?_
    refine LW.blk (pc' := 24) [(.bipush 6, 0, 0, 0), (.isub, 0, 0, 0)] (by decide +kernel) trivial rfl ?_
    show LW l b L xs 24 [some (.ref 1000007), some (.ref 0), some (.ref 65), some (.int (nI (6 * k)))] [.int (Int32.ofNat L - (Int8.ofInt 6).toInt32), .int (nI (6 * k))] (hp s) 150 23754
    refine LW.icmp_gt (off := 1109) (tgt := 1133) (by decide +kernel) (by decide) (fun _ => ?_) (fun q => absurd ((lw_cmp hL hk).mpr (by omega)) q)
    refine LW.blk (pc' := 1134) [(.iconst 1, 0, 0, 0)] (by decide +kernel) trivial rfl ?_
    exact LW.ret1 (by decide +kernel) (by decide) (by decide)
  | succ n ih =>
    intro k hk hn s hI
    refine LW.blk (pc' := 20) [(.iload_n 3, 0, 0, 0), (.aload_n 0, 0, 0, 0)] (by decide +kernel) trivial rfl ?_
    show LW l b L xs 20 [some (.ref 1000007), some (.ref 0), some (.ref 65), some (.int (nI (6 * k)))] [.ref 1000007, .int (nI (6 * k))] (hp s) 150 23754
    refine LW.scrLen (by decide +kernel) ?_
    refine LW.blk (pc' := 24) [(.bipush 6, 0, 0, 0), (.isub, 0, 0, 0)] (by decide +kernel) trivial rfl ?_
    show LW l b L xs 24 [some (.ref 1000007), some (.ref 0), some (.ref 65), some (.int (nI (6 * k)))] [.int (Int32.ofNat L - (Int8.ofInt 6).toInt32), .int (nI (6 * k))] (hp s) 150 23754
    refine LW.icmp_gt (off := 1109) (tgt := 1133) (by decide +kernel) (by decide) (fun _ => ?_) (fun q => ?_)
    · refine LW.blk (pc' := 1134) [(.iconst 1, 0, 0, 0)] (by decide +kernel) trivial rfl ?_
      exact LW.ret1 (by decide +kernel) (by decide) (by decide)
    · have hk6 : 6 * k + 6 ≤ L := by
        rcases Nat.lt_or_ge L (6 * k + 6) with h | h
        · exact absurd ((lw_cmp hL hk).mpr h) q
        · exact h
      refine LW.blk (pc' := 29) [(.aload_n 0, 0, 0, 0), (.iload_n 3, 0, 0, 0)] (by decide +kernel) trivial rfl ?_
      show LW l b L xs 29 [some (.ref 1000007), some (.ref 0), some (.ref 65), some (.int (nI (6 * k)))] [.int (nI (6 * k)), .ref 1000007] (hp s) 150 23754
      refine LW.scrLd (vp_in_nI (by omega) (by omega)) (by decide +kernel) ?_
      refine LW.blk (pc' := 33) [(.bipush 63, 0, 0, 0), (.iand, 0, 0, 0)] (by decide +kernel) trivial rfl ?_
      refine law_switch hL hk6 (hall k hk6) (hid k hk6) (fun s2 hI2 => ?_) _ s hI
      refine LW.blk (pc' := 1130) [(.iinc 3 6, 0, 0, 0)] (by decide +kernel) trivial rfl (And.intro (Nat.le_of_ble_eq_true rfl) ?_)
      show LW l b L xs 1130 [some (.ref 1000007), some (.ref 0), some (.ref 65), some (.int (nI (6 * k) + Int32.ofInt 6))] [] (hp s2) 150 23754
      refine LW.goto (off := -1112) (tgt := 18) (by decide +kernel) (by decide) ?_
      have e : nI (6 * k) + Int32.ofInt 6 = nI (6 * (k + 1)) := nI_add (6 * k) 6
      rw [e]
      exact ih (k + 1) (by omega) (by omega) s2 hI2
def rho0 : Nat → Option Nat := fun j => [some 6, some 20, some 6, some 6, none].getD j none
/-- the cells behind the two constructors -/
def s0 : ST := (hc_357.2.2.1, hc_357.2.2.2.1, rho0)
set_option maxRecDepth 100000 in
theorem s0_k : (List.range 150).all (fun o => decide (hc_357.2.1 o = K0 o)) = true := by decide +kernel
set_option maxRecDepth 100000 in
theorem s0_r : (List.range 150).all (fun o => (List.range (if (K0 o).1 < 11 then sm_nC (K0 o).1 else 0)).all (fun k => decide (hc_357.2.2.2.2 o k = RR rho0 o k))) = true := by decide +kernel
theorem s0_n : hc_357.1 = 150 := by decide +kernel
theorem s0_ws {base : Nat} {sa : Nat → Nat} {cy : Nat → ClassId} : sm_ws base sa cy hc_357 = sm_ws base sa cy (hp s0) := by
  unfold sm_ws
  rw [s0_n]
  refine List.map_congr_left (fun o ho => ?_)
  have h1 : hc_357.2.1 o = K0 o := of_decide_eq_true (List.all_eq_true.mp s0_k o ho)
  have h2 := List.all_eq_true.mp s0_r o ho
  have hc : sm_ce base sa cy hc_357 o = sm_ce base sa cy (hp s0) o := by
    unfold sm_ce
    rw [h1]
    by_cases hk : (K0 o).1 < 11
    · rw [if_pos hk] at h2
      have e : (hp s0).2.1 o = K0 o := rfl
      rw [e, if_pos hk, if_pos hk]
      refine congrArg (fun z => Sum.inr ((K0 o).1, z)) (List.map_congr_left (fun k hkk => ?_))
      have h3 : hc_357.2.2.2.2 o k = RR rho0 o k := of_decide_eq_true (List.all_eq_true.mp h2 k hkk)
      unfold sm_fu
      rw [h3]
      rfl
    · have e : (hp s0).2.1 o = K0 o := rfl
      rw [e, if_neg hk, if_neg hk]
      rfl
  rw [hc]
set_option maxHeartbeats 4000000 in
set_option maxRecDepth 20000 in
theorem law_start {l : Launch} {b L : Nat} {xs : Nat → Int32} {Inv : Nat → ST → Prop} (hL : L ≤ 3072) (h0 : Inv 0 s0) (hall : ∀ k, 6 * k + 6 ≤ L → okAll Inv k) (hid : ∀ k, 6 * k + 6 ≤ L → ∀ s : ST, Inv k s → Inv (k + 1) s) : LW l b L xs 0 [some (.ref 1000007), none, none, none] [] hc_0 0 0 := by
  refine LW.new (c := 9) (Nat.le_of_ble_eq_true rfl) kLx_7 kq_9 wini_9 (Nat.le_of_ble_eq_true rfl) ⟨Nat.le_of_ble_eq_true rfl, Nat.le_of_ble_eq_true rfl⟩ (by decide +kernel) ?_
  show LW l b L xs 3 [some (.ref 1000007), none, none, none] [.ref 0] hc_1 1 20
  refine LW.blk (pc' := 4) [(.dup, 0, 0, 0)] (by decide +kernel) trivial rfl (And.intro rfl ?_)
  show LW l b L xs 4 [some (.ref 1000007), none, none, none] [.ref 0, .ref 0] hc_1 1 20
  refine LW.callI (M' := mi_X9_init) (o := 0) (d' := 1000) (As := []) (rest := [.ref 0]) (r' := hc_188) (tr_19_X9_init (d := 1000) (by decide)) (Nat.le_refl _) wm_X9_init rfl rfl wi_X9_init kL_9 (Nat.le_of_ble_eq_true rfl) rfl rfl rfl (Nat.le_of_ble_eq_true rfl) ⟨Nat.le_of_ble_eq_true rfl, Nat.le_of_ble_eq_true rfl⟩ (by decide +kernel) ?_
  show LW l b L xs 7 [some (.ref 1000007), none, none, none] [.ref 0] hc_188 65 8408
  refine LW.blk (pc' := 8) [(.astore_n 1, 0, 0, 0)] (by decide +kernel) trivial rfl (And.intro (Nat.le_of_ble_eq_true rfl) ?_)
  show LW l b L xs 8 [some (.ref 1000007), some (.ref 0), none, none] [] hc_188 65 8408
  refine LW.new (c := 10) (Nat.le_of_ble_eq_true rfl) kLx_10 kq_10 wini_10 (Nat.le_of_ble_eq_true rfl) ⟨Nat.le_of_ble_eq_true rfl, Nat.le_of_ble_eq_true rfl⟩ (by decide +kernel) ?_
  show LW l b L xs 11 [some (.ref 1000007), some (.ref 0), none, none] [.ref 65] hc_189 66 8530
  refine LW.blk (pc' := 12) [(.dup, 0, 0, 0)] (by decide +kernel) trivial rfl (And.intro rfl ?_)
  show LW l b L xs 12 [some (.ref 1000007), some (.ref 0), none, none] [.ref 65, .ref 65] hc_189 66 8530
  refine LW.callI (M' := mi_X10_init) (o := 65) (d' := 1000) (As := []) (rest := [.ref 65]) (r' := hc_357) (tr_20_X10_init (d := 1000) (by decide)) (Nat.le_refl _) wm_X10_init rfl rfl wi_X10_init kL_12 (Nat.le_of_ble_eq_true rfl) rfl rfl rfl (Nat.le_of_ble_eq_true rfl) ⟨Nat.le_of_ble_eq_true rfl, Nat.le_of_ble_eq_true rfl⟩ (by decide +kernel) ?_
  show LW l b L xs 15 [some (.ref 1000007), some (.ref 0), none, none] [.ref 65] hc_357 150 23754
  refine LW.blk (pc' := 18) [(.astore_n 2, 0, 0, 0), (.iconst 0, 0, 0, 0), (.istore_n 3, 0, 0, 0)] (by decide +kernel) trivial rfl (And.intro (Nat.le_of_ble_eq_true rfl) (And.intro (Nat.le_of_ble_eq_true rfl) ?_))
  show LW l b L xs 18 [some (.ref 1000007), some (.ref 0), some (.ref 65), some (.int (nI (6 * 0)))] [] hc_357 150 23754
  intro base sa cy D p e s m args below meth c H locs ls C hPP hWd hz hS hLh
  have hn : hc_357.1 = (hp s0).1 := s0_n
  exact law_loop hL hall hid (L + 1) 0 (by omega) (by omega) s0 h0 base sa cy D p e s m args below meth c H locs ls C hPP ⟨by rw [← hn]; exact hWd.1, by rw [← s0_ws]; exact hWd.2⟩ (by rw [← hn]; exact hz) hS hLh
theorem whole_of {p : Program} {e : Env} {s : State} {m : MethodId} {below : List Frame} {meth : Method} {c : Code} (l : Launch) {b L : Nat} {xs : Nat → Int32} (hL : L ≤ 3072) (C0 : lw_At p s m meth c b L xs) {Inv : Nat → ST → Prop} (h0 : Inv 0 s0) (hall : ∀ k, 6 * k + 6 ≤ L → okAll Inv k) (hid : ∀ k, 6 * k + 6 ≤ L → ∀ s : ST, Inv k s → Inv (k + 1) s) : W p l e room_1 s m #[Value.ref b] below meth c s.heap [] 0 0 (lw_Z below #[Value.ref b] s) (entryFrame m ([Value.ref b] : List Value).toArray 4) := by
  obtain ⟨sa, cy, D, hC, h7⟩ := lw_ctx C0
  obtain ⟨-, -, -, -, -, -, hX, hbl, -, -, -⟩ := C0
  rw [lg_entry_eq]
  refine law_start (b := b) (L := L) (xs := xs) hL h0 hall hid s.heap.size sa cy D p e s m #[Value.ref b] below meth c s.heap [] _ hC ⟨rfl, rfl, h7, hX, hbl⟩ ⟨Nat.zero_le _, fun k q h => by simp [sm_ws, hc_0] at h⟩ rfl va_S.rf ?_
  have h1 := lv_entry [Value.ref b] (n := 4) (Nat.le_of_ble_eq_true rfl)
  refine ⟨rfl, h1.1, h1.2.1, fun q hq => h1.2.2 q ?_⟩
  obtain ⟨v, hv, e0⟩ := sm_kl_mem.mp hq
  obtain ⟨i, x⟩ := q
  have ex : x = sm_mv s.heap.size sa v := e0
  clear e0
  match i, hv with
  | 0, hv =>
    simp at hv
    subst hv
    rw [ex, sm_mv7, h7]
    exact List.mem_cons_self
  | 1, hv => simp at hv
  | 2, hv => simp at hv
  | 3, hv => simp at hv
  | n + 4, hv => simp at hv
