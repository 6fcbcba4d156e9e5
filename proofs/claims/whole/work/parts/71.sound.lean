abbrev gX0_copyFrom : zMth := (yX0_copyFrom, cX0_copyFrom, 2, none, 1, zE0)
theorem cbX0_copyFrom : zCbV yX0_copyFrom cX0_copyFrom 2 none 1 := ⟨zw1007, zw1008, zw79, zw1009, by decide, by decide, by decide +kernel⟩
set_option maxHeartbeats 4000000 in
set_option maxRecDepth 100000 in
theorem sX0_copyFrom (v0 : Nat) (v1 : Nat) (h0 : zShp v0 = (0, 11)) (h1 : zShp v1 = (0, 11)) (w : zWd) : zS gX0_copyFrom zEv 0 [(0, .ref v0), (1, .ref v1)] [] w (mX0_copyFrom v0 v1 w) := by
  unfold mX0_copyFrom
  refine zS_aload_n 1 rfl 1 rfl dX0_copyFrom_0 ?_
  refine zS_getfp 4 rfl 0 dX0_copyFrom_1 zC0 zw119 (by decide) rfl h1 ?_
  refine zS_iconst 5 rfl (0 : Int32) (by decide) dX0_copyFrom_4 ?_
  refine zS_aload_n 6 rfl 0 rfl dX0_copyFrom_5 ?_
  refine zS_getfp 9 rfl 0 dX0_copyFrom_6 zC0 zw119 (by decide) rfl h0 ?_
  refine zS_iconst 10 rfl (0 : Int32) (by decide) dX0_copyFrom_9 ?_
  refine zS_aload_n 11 rfl 0 rfl dX0_copyFrom_10 ?_
  refine zS_getfp 14 rfl 0 dX0_copyFrom_11 zC0 zw119 (by decide) rfl h0 ?_
  refine zS_alen 15 rfl (120 : Int32) (by decide) dX0_copyFrom_14 (by decide) (zP0_cells h0) ?_
  refine zS_copy 18 rfl dX0_copyFrom_15 zw1010 zw611 zw610 zw91 (zP0_cells h1) (zP0_cells h0) (by decide) (Nat.le_of_ble_eq_true rfl) zNfw ?_
  refine zS_bnw (fun w1 => ?_)
  refine zS_aload_n 19 rfl 0 rfl dX0_copyFrom_18 ?_
  refine zS_aload_n 20 rfl 1 rfl dX0_copyFrom_19 ?_
  refine zS_getfi 23 rfl 1 dX0_copyFrom_20 zC0 zw121 (by decide) rfl h1 ?_
  refine zS_putfi 26 rfl 1 dX0_copyFrom_23 zC0 zw121 (by decide) rfl rfl rfl h0 ?_
  refine zS_bnw (fun w2 => ?_)
  refine zS_aload_n 27 rfl 0 rfl dX0_copyFrom_26 ?_
  refine zS_aload_n 28 rfl 1 rfl dX0_copyFrom_27 ?_
  refine zS_getfi 31 rfl 2 dX0_copyFrom_28 zC0 zw124 (by decide) rfl h1 ?_
  refine zS_putfi 34 rfl 2 dX0_copyFrom_31 zC0 zw124 (by decide) rfl rfl rfl h0 ?_
  refine zS_bnw (fun w3 => ?_)
  refine zS_aload_n 35 rfl 1 rfl dX0_copyFrom_34 ?_
  refine zS_getfp 38 rfl 3 dX0_copyFrom_35 zC0 zw126 (by decide) rfl h1 ?_
  refine zS_iconst 39 rfl (0 : Int32) (by decide) dX0_copyFrom_38 ?_
  refine zS_aload_n 40 rfl 0 rfl dX0_copyFrom_39 ?_
  refine zS_getfp 43 rfl 3 dX0_copyFrom_40 zC0 zw126 (by decide) rfl h0 ?_
  refine zS_iconst 44 rfl (0 : Int32) (by decide) dX0_copyFrom_43 ?_
  refine zS_bipush 46 rfl (12 : Int32) (by decide) dX0_copyFrom_44 ?_
  refine zS_copy 49 rfl dX0_copyFrom_46 zw1010 zw611 zw610 zw91 (zP0_kind h1) (zP0_kind h0) (by decide) (Nat.le_of_ble_eq_true rfl) zNfw ?_
  refine zS_bnw (fun w4 => ?_)
  refine zS_aload_n 50 rfl 1 rfl dX0_copyFrom_49 ?_
  refine zS_getfp 53 rfl 4 dX0_copyFrom_50 zC0 zw127 (by decide) rfl h1 ?_
  refine zS_iconst 54 rfl (0 : Int32) (by decide) dX0_copyFrom_53 ?_
  refine zS_aload_n 55 rfl 0 rfl dX0_copyFrom_54 ?_
  refine zS_getfp 58 rfl 4 dX0_copyFrom_55 zC0 zw127 (by decide) rfl h0 ?_
  refine zS_iconst 59 rfl (0 : Int32) (by decide) dX0_copyFrom_58 ?_
  refine zS_bipush 61 rfl (12 : Int32) (by decide) dX0_copyFrom_59 ?_
  refine zS_copy 64 rfl dX0_copyFrom_61 zw1010 zw611 zw610 zw91 (zP0_cellOf h1) (zP0_cellOf h0) (by decide) (Nat.le_of_ble_eq_true rfl) zNfw ?_
  refine zS_bnw (fun w5 => ?_)
  refine zS_aload_n 65 rfl 1 rfl dX0_copyFrom_64 ?_
  refine zS_getfp 68 rfl 5 dX0_copyFrom_65 zC0 zw130 (by decide) rfl h1 ?_
  refine zS_iconst 69 rfl (0 : Int32) (by decide) dX0_copyFrom_68 ?_
  refine zS_aload_n 70 rfl 0 rfl dX0_copyFrom_69 ?_
  refine zS_getfp 73 rfl 5 dX0_copyFrom_70 zC0 zw130 (by decide) rfl h0 ?_
  refine zS_iconst 74 rfl (0 : Int32) (by decide) dX0_copyFrom_73 ?_
  refine zS_bipush 76 rfl (12 : Int32) (by decide) dX0_copyFrom_74 ?_
  refine zS_copy 79 rfl dX0_copyFrom_76 zw1010 zw611 zw610 zw91 (zP0_told h1) (zP0_told h0) (by decide) (Nat.le_of_ble_eq_true rfl) zNfw ?_
  refine zS_bnw (fun w6 => ?_)
  refine zS_aload_n 80 rfl 1 rfl dX0_copyFrom_79 ?_
  refine zS_getfp 83 rfl 6 dX0_copyFrom_80 zC0 zw132 (by decide) rfl h1 ?_
  refine zS_iconst 84 rfl (0 : Int32) (by decide) dX0_copyFrom_83 ?_
  refine zS_aload_n 85 rfl 0 rfl dX0_copyFrom_84 ?_
  refine zS_getfp 88 rfl 6 dX0_copyFrom_85 zC0 zw132 (by decide) rfl h0 ?_
  refine zS_iconst 89 rfl (0 : Int32) (by decide) dX0_copyFrom_88 ?_
  refine zS_bipush 91 rfl (12 : Int32) (by decide) dX0_copyFrom_89 ?_
  refine zS_copy 94 rfl dX0_copyFrom_91 zw1010 zw611 zw610 zw91 (zP0_from h1) (zP0_from h0) (by decide) (Nat.le_of_ble_eq_true rfl) zNfw ?_
  refine zS_bnw (fun w7 => ?_)
  refine zS_aload_n 95 rfl 1 rfl dX0_copyFrom_94 ?_
  refine zS_getfp 98 rfl 7 dX0_copyFrom_95 zC0 zw134 (by decide) rfl h1 ?_
  refine zS_iconst 99 rfl (0 : Int32) (by decide) dX0_copyFrom_98 ?_
  refine zS_aload_n 100 rfl 0 rfl dX0_copyFrom_99 ?_
  refine zS_getfp 103 rfl 7 dX0_copyFrom_100 zC0 zw134 (by decide) rfl h0 ?_
  refine zS_iconst 104 rfl (0 : Int32) (by decide) dX0_copyFrom_103 ?_
  refine zS_bipush 106 rfl (12 : Int32) (by decide) dX0_copyFrom_104 ?_
  refine zS_copy 109 rfl dX0_copyFrom_106 zw1010 zw611 zw610 zw91 (zP0_length h1) (zP0_length h0) (by decide) (Nat.le_of_ble_eq_true rfl) zNfw ?_
  refine zS_bnw (fun w8 => ?_)
  refine zS_aload_n 110 rfl 1 rfl dX0_copyFrom_109 ?_
  refine zS_getfp 113 rfl 8 dX0_copyFrom_110 zC0 zw136 (by decide) rfl h1 ?_
  refine zS_iconst 114 rfl (0 : Int32) (by decide) dX0_copyFrom_113 ?_
  refine zS_aload_n 115 rfl 0 rfl dX0_copyFrom_114 ?_
  refine zS_getfp 118 rfl 8 dX0_copyFrom_115 zC0 zw136 (by decide) rfl h0 ?_
  refine zS_iconst 119 rfl (0 : Int32) (by decide) dX0_copyFrom_118 ?_
  refine zS_bipush 121 rfl (12 : Int32) (by decide) dX0_copyFrom_119 ?_
  refine zS_copy 124 rfl dX0_copyFrom_121 zw1010 zw611 zw610 zw91 (zP0_closing h1) (zP0_closing h0) (by decide) (Nat.le_of_ble_eq_true rfl) zNfw ?_
  refine zS_bnw (fun w9 => ?_)
  exact zS_retv dX0_copyFrom_124 rfl

theorem okX0_copyFrom (v0 : Nat) (v1 : Nat) (w : zWd) (h0 : zShp v0 = (0, 11)) (h1 : zShp v1 = (0, 11)) : zOk gX0_copyFrom zEv [.ref v0, .ref v1] w (mX0_copyFrom v0 v1 w) := zOk_of (by decide) rfl (Nat.le_of_ble_eq_true rfl) (sX0_copyFrom v0 v1 h0 h1 w)
abbrev gX0_hasTapAt : zMth := (yX0_hasTapAt, cX0_hasTapAt, 3, (some .boolean), 1, zE0)
theorem cbX0_hasTapAt : zCbV yX0_hasTapAt cX0_hasTapAt 3 (some .boolean) 1 := ⟨zw516, zw517, zw79, zw518, by decide, by decide, by decide +kernel⟩
set_option maxHeartbeats 4000000 in
set_option maxRecDepth 100000 in
theorem sX0_hasTapAt_2b (v0 : Nat) (v1 : Int32) (k2 : Int32 × zWd → Option (Int32 × zWd)) (v2 : Int32) (hk2 : ∀ (v2 : Int32) (w : zWd), zS gX0_hasTapAt zEi 2 [(0, .ref v0), (1, .int v1), (2, .int v2)] [] w (k2 (v2, w))) (h0 : zShp v0 = (0, 11)) (w : zWd) : zS gX0_hasTapAt zEi 2 [(0, .ref v0), (1, .int v1), (2, .int v2)] [] w (mX0_hasTapAt_2b v0 v1 k2 v2 w) := by
  unfold mX0_hasTapAt_2b
  refine zS_iload_n 3 rfl 2 rfl dX0_hasTapAt_2 ?_
  refine zS_aload_n 4 rfl 0 rfl dX0_hasTapAt_3 ?_
  refine zS_getfi 7 rfl 1 dX0_hasTapAt_4 zC0 zw121 (by decide) rfl h0 ?_
  refine zS_icmp_ge 28 10 rfl dX0_hasTapAt_7 (by decide) ?_ ?_
  · refine zS_iconst 29 rfl (0 : Int32) (by decide) dX0_hasTapAt_28 ?_
    exact zS_retb dX0_hasTapAt_29 rfl
  · refine zS_aload_n 11 rfl 0 rfl dX0_hasTapAt_10 ?_
    refine zS_getfp 14 rfl 4 dX0_hasTapAt_11 zC0 zw127 (by decide) rfl h0 ?_
    refine zS_iload_n 15 rfl 2 rfl dX0_hasTapAt_14 ?_
    refine zS_iald 16 rfl dX0_hasTapAt_15 (zP0_cellOf h0) ?_
    refine zS_iload_n 17 rfl 1 rfl dX0_hasTapAt_16 ?_
    refine zS_icmp_ne 22 20 rfl dX0_hasTapAt_17 (by decide) ?_ ?_
    · refine zS_iconst 21 rfl (1 : Int32) (by decide) dX0_hasTapAt_20 ?_
      exact zS_retb dX0_hasTapAt_21 rfl
    · refine zS_iinc 25 rfl 2 (_ + (1 : Int32)) dX0_hasTapAt_22 rfl (by show 2 < 3; decide) rfl (show _ = [(2, .int _), (0, .ref _), (1, .int _)] from rfl) ?_
      refine zS_goto 2 dX0_hasTapAt_25 (by decide) ?_
      refine zS_sub [1, 2, 0] (show _ = [(0, .ref _), (1, .int _), (2, .int _)] from rfl) ?_
      exact hk2 _ _

theorem sX0_hasTapAt_2 (v0 : Nat) (v1 : Int32) (v2 : Int32) (h0 : zShp v0 = (0, 11)) (w : zWd) : zS gX0_hasTapAt zEi 2 [(0, .ref v0), (1, .int v1), (2, .int v2)] [] w (mX0_hasTapAt_2 v0 v1 v2 w) :=
  zS_loop (L := fun q : Int32 × zWd => [(0, .ref v0), (1, .int v1), (2, .int q.1)]) (V := fun q => q.2) (T := fun _ => []) (F := fun k q => mX0_hasTapAt_2b v0 v1 k q.1 q.2) (fun k hk q => sX0_hasTapAt_2b v0 v1 k q.1 (fun a2 w => hk (a2, w)) h0 q.2) zFU (v2, w)
set_option maxHeartbeats 4000000 in
set_option maxRecDepth 100000 in
theorem sX0_hasTapAt (v0 : Nat) (v1 : Int32) (h0 : zShp v0 = (0, 11)) (w : zWd) : zS gX0_hasTapAt zEi 0 [(0, .ref v0), (1, .int v1)] [] w (mX0_hasTapAt v0 v1 w) := by
  unfold mX0_hasTapAt
  refine zS_iconst 1 rfl (0 : Int32) (by decide) dX0_hasTapAt_0 ?_
  refine zS_istore_n 2 rfl dX0_hasTapAt_1 (by show 2 < 3; decide) (show _ = [(2, .int _), (0, .ref _), (1, .int _)] from rfl) ?_
  refine zS_sub [1, 2, 0] (show _ = [(0, .ref _), (1, .int _), (2, .int _)] from rfl) ?_
  exact sX0_hasTapAt_2 _ _ _ h0 _

theorem okX0_hasTapAt (v0 : Nat) (v1 : Int32) (w : zWd) (h0 : zShp v0 = (0, 11)) : zOk gX0_hasTapAt zEi [.ref v0, .int v1] w (mX0_hasTapAt v0 v1 w) := zOk_of (by decide) rfl (Nat.le_of_ble_eq_true rfl) (sX0_hasTapAt v0 v1 h0 w)
abbrev gX0_addTap : zMth := (yX0_addTap, cX0_addTap, 5, (some .int), 1, zE0)
theorem cbX0_addTap : zCbV yX0_addTap cX0_addTap 5 (some .int) 4 := ⟨zw560, zw561, zw79, zw562, by decide, by decide, by decide +kernel⟩
set_option maxHeartbeats 4000000 in
set_option maxRecDepth 100000 in
theorem sX0_addTap (v0 : Nat) (v1 : Int32) (v2 : Int32) (v3 : Int32) (v4 : Int32) (h0 : zShp v0 = (0, 11)) (w : zWd) : zS gX0_addTap zEi 0 [(0, .ref v0), (1, .int v1), (2, .int v2), (3, .int v3), (4, .int v4)] [] w (mX0_addTap v0 v1 v2 v3 v4 w) := by
  unfold mX0_addTap
  refine zS_aload_n 1 rfl 0 rfl dX0_addTap_0 ?_
  refine zS_getfi 4 rfl 1 dX0_addTap_1 zC0 zw121 (by decide) rfl h0 ?_
  refine zS_bipush 6 rfl (12 : Int32) (by decide) dX0_addTap_4 ?_
  refine zS_icmp_lt 12 9 rfl dX0_addTap_6 (by decide) ?_ ?_
  · refine zS_aload_n 13 rfl 0 rfl dX0_addTap_12 ?_
    refine zS_getfp 16 rfl 3 dX0_addTap_13 zC0 zw126 (by decide) rfl h0 ?_
    refine zS_aload_n 17 rfl 0 rfl dX0_addTap_16 ?_
    refine zS_getfi 20 rfl 1 dX0_addTap_17 zC0 zw121 (by decide) rfl h0 ?_
    refine zS_iload_n 21 rfl 1 rfl dX0_addTap_20 ?_
    refine zS_iast 22 rfl dX0_addTap_21 (zP0_kind h0) ?_
    refine zS_bnw (fun w1 => ?_)
    refine zS_aload_n 23 rfl 0 rfl dX0_addTap_22 ?_
    refine zS_getfp 26 rfl 4 dX0_addTap_23 zC0 zw127 (by decide) rfl h0 ?_
    refine zS_aload_n 27 rfl 0 rfl dX0_addTap_26 ?_
    refine zS_getfi 30 rfl 1 dX0_addTap_27 zC0 zw121 (by decide) rfl h0 ?_
    refine zS_iload_n 31 rfl 2 rfl dX0_addTap_30 ?_
    refine zS_iast 32 rfl dX0_addTap_31 (zP0_cellOf h0) ?_
    refine zS_bnw (fun w2 => ?_)
    refine zS_aload_n 33 rfl 0 rfl dX0_addTap_32 ?_
    refine zS_getfp 36 rfl 5 dX0_addTap_33 zC0 zw130 (by decide) rfl h0 ?_
    refine zS_aload_n 37 rfl 0 rfl dX0_addTap_36 ?_
    refine zS_getfi 40 rfl 1 dX0_addTap_37 zC0 zw121 (by decide) rfl h0 ?_
    refine zS_iload_n 41 rfl 3 rfl dX0_addTap_40 ?_
    refine zS_iast 42 rfl dX0_addTap_41 (zP0_told h0) ?_
    refine zS_bnw (fun w3 => ?_)
    refine zS_aload_n 43 rfl 0 rfl dX0_addTap_42 ?_
    refine zS_getfp 46 rfl 6 dX0_addTap_43 zC0 zw132 (by decide) rfl h0 ?_
    refine zS_aload_n 47 rfl 0 rfl dX0_addTap_46 ?_
    refine zS_getfi 50 rfl 1 dX0_addTap_47 zC0 zw121 (by decide) rfl h0 ?_
    refine zS_iload 52 rfl 4 rfl dX0_addTap_50 ?_
    refine zS_iast 53 rfl dX0_addTap_52 (zP0_from h0) ?_
    refine zS_bnw (fun w4 => ?_)
    refine zS_aload_n 54 rfl 0 rfl dX0_addTap_53 ?_
    refine zS_getfp 57 rfl 7 dX0_addTap_54 zC0 zw134 (by decide) rfl h0 ?_
    refine zS_aload_n 58 rfl 0 rfl dX0_addTap_57 ?_
    refine zS_getfi 61 rfl 1 dX0_addTap_58 zC0 zw121 (by decide) rfl h0 ?_
    refine zS_iconst 62 rfl (0 : Int32) (by decide) dX0_addTap_61 ?_
    refine zS_iast 63 rfl dX0_addTap_62 (zP0_length h0) ?_
    refine zS_bnw (fun w5 => ?_)
    refine zS_aload_n 64 rfl 0 rfl dX0_addTap_63 ?_
    refine zS_getfp 67 rfl 8 dX0_addTap_64 zC0 zw136 (by decide) rfl h0 ?_
    refine zS_aload_n 68 rfl 0 rfl dX0_addTap_67 ?_
    refine zS_getfi 71 rfl 1 dX0_addTap_68 zC0 zw121 (by decide) rfl h0 ?_
    refine zS_iconst 72 rfl (0 : Int32) (by decide) dX0_addTap_71 ?_
    refine zS_iast 73 rfl dX0_addTap_72 (zP0_closing h0) ?_
    refine zS_bnw (fun w6 => ?_)
    refine zS_aload_n 74 rfl 0 rfl dX0_addTap_73 ?_
    refine zS_dup 75 rfl rfl dX0_addTap_74 ?_
    refine zS_getfi 78 rfl 1 dX0_addTap_75 zC0 zw121 (by decide) rfl h0 ?_
    refine zS_dup_x1 79 rfl rfl rfl dX0_addTap_78 ?_
    refine zS_iconst 80 rfl (1 : Int32) (by decide) dX0_addTap_79 ?_
    refine zS_iadd 81 rfl dX0_addTap_80 ?_
    refine zS_putfi 84 rfl 1 dX0_addTap_81 zC0 zw121 (by decide) rfl rfl rfl h0 ?_
    refine zS_bnw (fun w7 => ?_)
    exact zS_reti dX0_addTap_84 rfl
  · refine zS_bipush 11 rfl (-4 : Int32) (by decide) dX0_addTap_9 ?_
    exact zS_reti dX0_addTap_11 rfl

theorem okX0_addTap (v0 : Nat) (v1 : Int32) (v2 : Int32) (v3 : Int32) (v4 : Int32) (w : zWd) (h0 : zShp v0 = (0, 11)) : zOk gX0_addTap zEi [.ref v0, .int v1, .int v2, .int v3, .int v4] w (mX0_addTap v0 v1 v2 v3 v4 w) := zOk_of (by decide) rfl (Nat.le_of_ble_eq_true rfl) (sX0_addTap v0 v1 v2 v3 v4 h0 w)
abbrev gX0_allWater : zMth := (yX0_allWater, cX0_allWater, 3, (some .int), 1, zE0)
theorem cbX0_allWater : zCbV yX0_allWater cX0_allWater 3 (some .int) 0 := ⟨zw1104, zw1105, zw79, zw1106, by decide, by decide, by decide +kernel⟩
set_option maxHeartbeats 4000000 in
set_option maxRecDepth 100000 in
theorem sX0_allWater_4b (v0 : Nat) (k4 : Int32 × Int32 × zWd → Option (Int32 × zWd)) (v1 : Int32) (v2 : Int32) (hk4 : ∀ (v1 : Int32) (v2 : Int32) (w : zWd), zS gX0_allWater zEi 4 [(0, .ref v0), (1, .int v1), (2, .int v2)] [] w (k4 (v1, v2, w))) (h0 : zShp v0 = (0, 11)) (w : zWd) : zS gX0_allWater zEi 4 [(0, .ref v0), (1, .int v1), (2, .int v2)] [] w (mX0_allWater_4b v0 k4 v1 v2 w) := by
  unfold mX0_allWater_4b
  refine zS_iload_n 5 rfl 2 rfl dX0_allWater_4 ?_
  refine zS_bipush 7 rfl (30 : Int32) (by decide) dX0_allWater_5 ?_
  refine zS_icmp_ge 28 10 rfl dX0_allWater_7 (by decide) ?_ ?_
  · refine zS_iload_n 29 rfl 1 rfl dX0_allWater_28 ?_
    exact zS_reti dX0_allWater_29 rfl
  · refine zS_iload_n 11 rfl 1 rfl dX0_allWater_10 ?_
    refine zS_aload_n 12 rfl 0 rfl dX0_allWater_11 ?_
    refine zS_getfp 15 rfl 0 dX0_allWater_12 zC0 zw119 (by decide) rfl h0 ?_
    refine zS_bipush 17 rfl (30 : Int32) (by decide) dX0_allWater_15 ?_
    refine zS_iload_n 18 rfl 2 rfl dX0_allWater_17 ?_
    refine zS_iadd 19 rfl dX0_allWater_18 ?_
    refine zS_iald 20 rfl dX0_allWater_19 (zP0_cells h0) ?_
    refine zS_iadd 21 rfl dX0_allWater_20 ?_
    refine zS_bni (fun x1 => ?_)
    refine zS_istore_n 22 rfl dX0_allWater_21 (by show 1 < 3; decide) (show _ = [(1, .int _), (0, .ref _), (2, .int _)] from rfl) ?_
    refine zS_iinc 25 rfl 2 (_ + (1 : Int32)) dX0_allWater_22 rfl (by show 2 < 3; decide) rfl (show _ = [(2, .int _), (1, .int _), (0, .ref _)] from rfl) ?_
    refine zS_goto 4 dX0_allWater_25 (by decide) ?_
    refine zS_sub [2, 1, 0] (show _ = [(0, .ref _), (1, .int _), (2, .int _)] from rfl) ?_
    exact hk4 _ _ _

theorem sX0_allWater_4 (v0 : Nat) (v1 : Int32) (v2 : Int32) (h0 : zShp v0 = (0, 11)) (w : zWd) : zS gX0_allWater zEi 4 [(0, .ref v0), (1, .int v1), (2, .int v2)] [] w (mX0_allWater_4 v0 v1 v2 w) :=
  zS_loop (L := fun q : Int32 × Int32 × zWd => [(0, .ref v0), (1, .int q.1), (2, .int q.2.1)]) (V := fun q => q.2.2) (T := fun _ => []) (F := fun k q => mX0_allWater_4b v0 k q.1 q.2.1 q.2.2) (fun k hk q => sX0_allWater_4b v0 k q.1 q.2.1 (fun a1 a2 w => hk (a1, a2, w)) h0 q.2.2) zFU (v1, v2, w)
set_option maxHeartbeats 4000000 in
set_option maxRecDepth 100000 in
theorem sX0_allWater (v0 : Nat) (h0 : zShp v0 = (0, 11)) (w : zWd) : zS gX0_allWater zEi 0 [(0, .ref v0)] [] w (mX0_allWater v0 w) := by
  unfold mX0_allWater
  refine zS_iconst 1 rfl (0 : Int32) (by decide) dX0_allWater_0 ?_
  refine zS_istore_n 2 rfl dX0_allWater_1 (by show 1 < 3; decide) (show _ = [(1, .int _), (0, .ref _)] from rfl) ?_
  refine zS_iconst 3 rfl (0 : Int32) (by decide) dX0_allWater_2 ?_
  refine zS_istore_n 4 rfl dX0_allWater_3 (by show 2 < 3; decide) (show _ = [(2, .int _), (1, .int _), (0, .ref _)] from rfl) ?_
  refine zS_sub [2, 1, 0] (show _ = [(0, .ref _), (1, .int _), (2, .int _)] from rfl) ?_
  exact sX0_allWater_4 _ _ _ h0 _

theorem okX0_allWater (v0 : Nat) (w : zWd) (h0 : zShp v0 = (0, 11)) : zOk gX0_allWater zEi [.ref v0] w (mX0_allWater v0 w) := zOk_of (by decide) rfl (Nat.le_of_ble_eq_true rfl) (sX0_allWater v0 h0 w)
abbrev gX0_listBores : zMth := (yX0_listBores, cX0_listBores, 4, (some .int), 1, zE0)
theorem cbX0_listBores : zCbV yX0_listBores cX0_listBores 4 (some .int) 1 := ⟨zw970, zw971, zw79, zw972, by decide, by decide, by decide +kernel⟩
set_option maxHeartbeats 4000000 in
set_option maxRecDepth 100000 in
theorem sX0_listBores_40 (v2 : Int32) (w : zWd) : zS gX0_listBores zEi 40 [(2, .int v2)] [] w (mX0_listBores_40 v2 w) := by
  unfold mX0_listBores_40
  refine zS_iload_n 41 rfl 0 rfl dX0_listBores_40 ?_
  exact zS_reti dX0_listBores_41 rfl

set_option maxHeartbeats 4000000 in
set_option maxRecDepth 100000 in
theorem sX0_listBores_34 (k4 : Int32 × Int32 × zWd → Option (Int32 × zWd)) (v0 : Nat) (v1 : Nat) (v2 : Int32) (v3 : Int32) (hk4 : ∀ (v2 : Int32) (v3 : Int32) (w : zWd), zS gX0_listBores zEi 4 [(0, .ref v0), (1, .ref v1), (2, .int v2), (3, .int v3)] [] w (k4 (v2, v3, w))) (h0 : zShp v0 = (0, 11)) (h1 : zShp v1 = (20, 8)) (w : zWd) : zS gX0_listBores zEi 34 [(0, .ref v0), (1, .ref v1), (2, .int v2), (3, .int v3)] [] w (mX0_listBores_34 k4 v0 v1 v2 v3 w) := by
  unfold mX0_listBores_34
  refine zS_iinc 37 rfl 3 (_ + (1 : Int32)) dX0_listBores_34 rfl (by show 3 < 4; decide) rfl (show _ = [(3, .int _), (0, .ref _), (1, .ref _), (2, .int _)] from rfl) ?_
  refine zS_goto 4 dX0_listBores_37 (by decide) ?_
  refine zS_sub [1, 2, 3, 0] (show _ = [(0, .ref _), (1, .ref _), (2, .int _), (3, .int _)] from rfl) ?_
  exact hk4 _ _ _

set_option maxHeartbeats 4000000 in
set_option maxRecDepth 100000 in
theorem sX0_listBores_4b (v0 : Nat) (v1 : Nat) (k4 : Int32 × Int32 × zWd → Option (Int32 × zWd)) (v2 : Int32) (v3 : Int32) (hk4 : ∀ (v2 : Int32) (v3 : Int32) (w : zWd), zS gX0_listBores zEi 4 [(0, .ref v0), (1, .ref v1), (2, .int v2), (3, .int v3)] [] w (k4 (v2, v3, w))) (h0 : zShp v0 = (0, 11)) (h1 : zShp v1 = (20, 8)) (w : zWd) : zS gX0_listBores zEi 4 [(0, .ref v0), (1, .ref v1), (2, .int v2), (3, .int v3)] [] w (mX0_listBores_4b v0 v1 k4 v2 v3 w) := by
  unfold mX0_listBores_4b
  refine zS_iload_n 5 rfl 3 rfl dX0_listBores_4 ?_
  refine zS_aload_n 6 rfl 0 rfl dX0_listBores_5 ?_
  refine zS_getfi 9 rfl 1 dX0_listBores_6 zC0 zw121 (by decide) rfl h0 ?_
  refine zS_icmp_ge 40 12 rfl dX0_listBores_9 (by decide) ?_ ?_
  · refine zS_sub [2] (show _ = [(2, .int _)] from rfl) ?_
    exact sX0_listBores_40 _ _
  · refine zS_iload_n 13 rfl 2 rfl dX0_listBores_12 ?_
    refine zS_aload_n 14 rfl 1 rfl dX0_listBores_13 ?_
    refine zS_alen 15 rfl (8 : Int32) (by decide) dX0_listBores_14 (by decide) h1 ?_
    refine zS_icmp_ge 40 18 rfl dX0_listBores_15 (by decide) ?_ ?_
    · refine zS_sub [2] (show _ = [(2, .int _)] from rfl) ?_
      exact sX0_listBores_40 _ _
    · refine zS_aload_n 19 rfl 0 rfl dX0_listBores_18 ?_
      refine zS_getfp 22 rfl 3 dX0_listBores_19 zC0 zw126 (by decide) rfl h0 ?_
      refine zS_iload_n 23 rfl 3 rfl dX0_listBores_22 ?_
      refine zS_iald 24 rfl dX0_listBores_23 (zP0_kind h0) ?_
      refine zS_if_eq 34 27 rfl dX0_listBores_24 (by decide) ?_ ?_
      · exact sX0_listBores_34 k4 _ _ _ _ hk4 h0 h1 _
      · refine zS_aload_n 28 rfl 1 rfl dX0_listBores_27 ?_
        refine zS_iload_n 29 rfl 2 rfl dX0_listBores_28 ?_
        refine zS_iload_n 30 rfl 3 rfl dX0_listBores_29 ?_
        refine zS_iast 31 rfl dX0_listBores_30 h1 ?_
        refine zS_bnw (fun w1 => ?_)
        refine zS_iinc 34 rfl 2 (_ + (1 : Int32)) dX0_listBores_31 rfl (by show 2 < 4; decide) rfl (show _ = [(2, .int _), (0, .ref _), (1, .ref _), (3, .int _)] from rfl) ?_
        refine zS_sub [1, 2, 0, 3] (show _ = [(0, .ref _), (1, .ref _), (2, .int _), (3, .int _)] from rfl) ?_
        exact sX0_listBores_34 k4 _ _ _ _ hk4 h0 h1 _

theorem sX0_listBores_4 (v0 : Nat) (v1 : Nat) (v2 : Int32) (v3 : Int32) (h0 : zShp v0 = (0, 11)) (h1 : zShp v1 = (20, 8)) (w : zWd) : zS gX0_listBores zEi 4 [(0, .ref v0), (1, .ref v1), (2, .int v2), (3, .int v3)] [] w (mX0_listBores_4 v0 v1 v2 v3 w) :=
  zS_loop (L := fun q : Int32 × Int32 × zWd => [(0, .ref v0), (1, .ref v1), (2, .int q.1), (3, .int q.2.1)]) (V := fun q => q.2.2) (T := fun _ => []) (F := fun k q => mX0_listBores_4b v0 v1 k q.1 q.2.1 q.2.2) (fun k hk q => sX0_listBores_4b v0 v1 k q.1 q.2.1 (fun a2 a3 w => hk (a2, a3, w)) h0 h1 q.2.2) zFU (v2, v3, w)
set_option maxHeartbeats 4000000 in
set_option maxRecDepth 100000 in
theorem sX0_listBores (v0 : Nat) (v1 : Nat) (h0 : zShp v0 = (0, 11)) (h1 : zShp v1 = (20, 8)) (w : zWd) : zS gX0_listBores zEi 0 [(0, .ref v0), (1, .ref v1)] [] w (mX0_listBores v0 v1 w) := by
  unfold mX0_listBores
  refine zS_iconst 1 rfl (0 : Int32) (by decide) dX0_listBores_0 ?_
  refine zS_istore_n 2 rfl dX0_listBores_1 (by show 2 < 4; decide) (show _ = [(2, .int _), (0, .ref _), (1, .ref _)] from rfl) ?_
  refine zS_iconst 3 rfl (0 : Int32) (by decide) dX0_listBores_2 ?_
  refine zS_istore_n 4 rfl dX0_listBores_3 (by show 3 < 4; decide) (show _ = [(3, .int _), (2, .int _), (0, .ref _), (1, .ref _)] from rfl) ?_
  refine zS_sub [2, 3, 1, 0] (show _ = [(0, .ref _), (1, .ref _), (2, .int _), (3, .int _)] from rfl) ?_
  exact sX0_listBores_4 _ _ _ _ h0 h1 _

theorem okX0_listBores (v0 : Nat) (v1 : Nat) (w : zWd) (h0 : zShp v0 = (0, 11)) (h1 : zShp v1 = (20, 8)) : zOk gX0_listBores zEi [.ref v0, .ref v1] w (mX0_listBores v0 v1 w) := zOk_of (by decide) rfl (Nat.le_of_ble_eq_true rfl) (sX0_listBores v0 v1 h0 h1 w)
abbrev gX0_get : zMth := (yX0_get, cX0_get, 5, none, 1, zE0)
theorem cbX0_get : zCbV yX0_get cX0_get 5 none 3 := ⟨zw581, zw3, zw79, zw582, by decide, by decide, by decide +kernel⟩
set_option maxHeartbeats 4000000 in
set_option maxRecDepth 100000 in
theorem sX0_get (v0 : Nat) (v1 : Int32) (v2 : Int32) (v3 : Int32) (h0 : zShp v0 = (0, 11)) (w : zWd) : zS gX0_get zEv 0 [(0, .ref v0), (1, .int v1), (2, .int v2), (3, .int v3)] [] w (mX0_get v0 v1 v2 v3 w) := by
  unfold mX0_get
  refine zS_aload_n 1 rfl 0 rfl dX0_get_0 ?_
  refine zS_getfp 4 rfl 0 dX0_get_1 zC0 zw119 (by decide) rfl h0 ?_
  refine zS_iload_n 5 rfl 1 rfl dX0_get_4 ?_
  refine zS_bipush 7 rfl (30 : Int32) (by decide) dX0_get_5 ?_
  refine zS_imul 8 rfl dX0_get_7 ?_
  refine zS_iload_n 9 rfl 3 rfl dX0_get_8 ?_
  refine zS_iadd 10 rfl dX0_get_9 ?_
  refine zS_iald 11 rfl dX0_get_10 (zP0_cells h0) ?_
  refine zS_aload_n 12 rfl 0 rfl dX0_get_11 ?_
  refine zS_getfp 15 rfl 0 dX0_get_12 zC0 zw119 (by decide) rfl h0 ?_
  refine zS_iload_n 16 rfl 2 rfl dX0_get_15 ?_
  refine zS_bipush 18 rfl (30 : Int32) (by decide) dX0_get_16 ?_
  refine zS_imul 19 rfl dX0_get_18 ?_
  refine zS_iload_n 20 rfl 3 rfl dX0_get_19 ?_
  refine zS_iadd 21 rfl dX0_get_20 ?_
  refine zS_iald 22 rfl dX0_get_21 (zP0_cells h0) ?_
  refine zS_iadd 23 rfl dX0_get_22 ?_
  refine zS_bni (fun x1 => ?_)
  refine zS_istore 25 rfl dX0_get_23 (by show 4 < 5; decide) (show _ = [(4, .int _), (0, .ref _), (1, .int _), (2, .int _), (3, .int _)] from rfl) ?_
  refine zS_aload_n 26 rfl 1 rfl dX0_get_25 ?_
  refine zS_getfp 29 rfl 0 dX0_get_26 zC0 zw119 (by decide) rfl h0 ?_
  refine zS_iload_n 30 rfl 2 rfl dX0_get_29 ?_
  refine zS_bipush 32 rfl (30 : Int32) (by decide) dX0_get_30 ?_
  refine zS_imul 33 rfl dX0_get_32 ?_
  refine zS_iload_n 34 rfl 4 rfl dX0_get_33 ?_
  refine zS_iadd 35 rfl dX0_get_34 ?_
  refine zS_getsN 38 rfl 0 rfl dX0_get_35 (by decide +kernel) ?_
  refine zS_iload_n 39 rfl 2 rfl dX0_get_38 ?_
  refine zS_tald 40 rfl 0 rfl rfl dX0_get_39 ?_
  refine zS_iload 42 rfl 0 rfl dX0_get_40 ?_
  refine zS_mmin 45 rfl dX0_get_42 zw583 zw584 zw90 zw585 (by decide) (Nat.le_of_ble_eq_true rfl) ?_
  refine zS_bni (fun x2 => ?_)
  refine zS_iast 46 rfl dX0_get_45 (zP0_cells h0) ?_
  refine zS_bnw (fun w3 => ?_)
  exact zS_retv dX0_get_46 rfl

theorem okX0_get (v0 : Nat) (v1 : Int32) (v2 : Int32) (v3 : Int32) (w : zWd) (h0 : zShp v0 = (0, 11)) : zOk gX0_get zEv [.ref v0, .int v1, .int v2, .int v3] w (mX0_get v0 v1 v2 v3 w) := zOk_of (by decide) rfl (Nat.le_of_ble_eq_true rfl) (sX0_get v0 v1 v2 v3 h0 w)
abbrev gX0_isShut : zMth := (yX0_isShut, cX0_isShut, 2, (some .boolean), 1, zE0)
theorem cbX0_isShut : zCbV yX0_isShut cX0_isShut 2 (some .boolean) 1 := ⟨zw592, zw5, zw79, zw593, by decide, by decide, by decide +kernel⟩
set_option maxHeartbeats 4000000 in
set_option maxRecDepth 100000 in
theorem sX0_isShut_16 (s0 : Int32) (w : zWd) : zS gX0_isShut zEi 16 [] [.int s0] w (mX0_isShut_16 s0 w) := by
  unfold mX0_isShut_16
  exact zS_retb dX0_isShut_16 rfl

set_option maxHeartbeats 4000000 in
set_option maxRecDepth 100000 in
theorem sX0_isShut (v0 : Nat) (v1 : Int32) (h0 : zShp v0 = (0, 11)) (w : zWd) : zS gX0_isShut zEi 0 [(0, .ref v0), (1, .int v1)] [] w (mX0_isShut v0 v1 w) := by
  unfold mX0_isShut
  refine zS_aload_n 1 rfl 0 rfl dX0_isShut_0 ?_
  refine zS_getfi 4 rfl 2 dX0_isShut_1 zC0 zw124 (by decide) rfl h0 ?_
  refine zS_iload_n 5 rfl 1 rfl dX0_isShut_4 ?_
  refine zS_ishr 6 rfl dX0_isShut_5 ?_
  refine zS_iconst 7 rfl (1 : Int32) (by decide) dX0_isShut_6 ?_
  refine zS_iand 8 rfl dX0_isShut_7 ?_
  refine zS_if_eq 15 11 rfl dX0_isShut_8 (by decide) ?_ ?_
  · refine zS_iconst 16 rfl (0 : Int32) (by decide) dX0_isShut_15 ?_
    refine zS_sub [] (show _ = [] from rfl) ?_
    exact sX0_isShut_16 _ _
  · refine zS_iconst 12 rfl (1 : Int32) (by decide) dX0_isShut_11 ?_
    refine zS_goto 16 dX0_isShut_12 (by decide) ?_
    refine zS_sub [] (show _ = [] from rfl) ?_
    exact sX0_isShut_16 _ _

theorem okX0_isShut (v0 : Nat) (v1 : Int32) (w : zWd) (h0 : zShp v0 = (0, 11)) : zOk gX0_isShut zEi [.ref v0, .int v1] w (mX0_isShut v0 v1 w) := zOk_of (by decide) rfl (Nat.le_of_ble_eq_true rfl) (sX0_isShut v0 v1 h0 w)
abbrev gX0_drawn : zMth := (yX0_drawn, cX0_drawn, 2, (some .int), 1, zE0)
theorem cbX0_drawn : zCbV yX0_drawn cX0_drawn 2 (some .int) 1 := ⟨zw596, zw6, zw79, zw597, by decide, by decide, by decide +kernel⟩
set_option maxHeartbeats 4000000 in
set_option maxRecDepth 100000 in
theorem sX0_drawn (v0 : Nat) (v1 : Int32) (h0 : zShp v0 = (0, 11)) (w : zWd) : zS gX0_drawn zEi 0 [(0, .ref v0), (1, .int v1)] [] w (mX0_drawn v0 v1 w) := by
  unfold mX0_drawn
  refine zS_aload_n 1 rfl 0 rfl dX0_drawn_0 ?_
  refine zS_getfp 4 rfl 3 dX0_drawn_1 zC0 zw126 (by decide) rfl h0 ?_
  refine zS_iload_n 5 rfl 1 rfl dX0_drawn_4 ?_
  refine zS_iald 6 rfl dX0_drawn_5 (zP0_kind h0) ?_
  refine zS_lsw (dflt := 51) (ps := #[(0, 26), (1, 44)]) ?_
  refine zLk_in (c0 := (0 : Int32)) 32 dX0_drawn_6 (by decide) (by decide) (by decide) ?_ ?_
  · refine zS_aload_n 33 rfl 0 rfl dX0_drawn_32 ?_
    refine zS_getfp 36 rfl 0 dX0_drawn_33 zC0 zw119 (by decide) rfl h0 ?_
    refine zS_bipush 38 rfl (30 : Int32) (by decide) dX0_drawn_36 ?_
    refine zS_aload_n 39 rfl 0 rfl dX0_drawn_38 ?_
    refine zS_getfp 42 rfl 4 dX0_drawn_39 zC0 zw127 (by decide) rfl h0 ?_
    refine zS_iload_n 43 rfl 1 rfl dX0_drawn_42 ?_
    refine zS_iald 44 rfl dX0_drawn_43 (zP0_cellOf h0) ?_
    refine zS_iadd 45 rfl dX0_drawn_44 ?_
    refine zS_iald 46 rfl dX0_drawn_45 (zP0_cells h0) ?_
    refine zS_bipush 48 rfl (10 : Int32) (by decide) dX0_drawn_46 ?_
    refine zS_idivC 49 rfl dX0_drawn_48 (by decide) ?_
    exact zS_reti dX0_drawn_49 rfl
  refine zLk_in (c0 := (1 : Int32)) 50 dX0_drawn_6 (by decide) (by decide) (by decide) ?_ ?_
  · refine zS_aload_n 51 rfl 0 rfl dX0_drawn_50 ?_
    refine zS_getfp 54 rfl 5 dX0_drawn_51 zC0 zw130 (by decide) rfl h0 ?_
    refine zS_iload_n 55 rfl 1 rfl dX0_drawn_54 ?_
    refine zS_iald 56 rfl dX0_drawn_55 (zP0_told h0) ?_
    exact zS_reti dX0_drawn_56 rfl
  refine zLk_out 57 dX0_drawn_6 (by decide) (by decide) ?_
  · refine zS_aload_n 58 rfl 0 rfl dX0_drawn_57 ?_
    refine zS_getfp 61 rfl 5 dX0_drawn_58 zC0 zw130 (by decide) rfl h0 ?_
    refine zS_iload_n 62 rfl 1 rfl dX0_drawn_61 ?_
    refine zS_iald 63 rfl dX0_drawn_62 (zP0_told h0) ?_
    refine zS_aload_n 64 rfl 0 rfl dX0_drawn_63 ?_
    refine zS_getfp 67 rfl 5 dX0_drawn_64 zC0 zw130 (by decide) rfl h0 ?_
    refine zS_iload_n 68 rfl 1 rfl dX0_drawn_67 ?_
    refine zS_iald 69 rfl dX0_drawn_68 (zP0_told h0) ?_
    refine zS_iconst 70 rfl (2 : Int32) (by decide) dX0_drawn_69 ?_
    refine zS_idivC 71 rfl dX0_drawn_70 (by decide) ?_
    refine zS_iadd 72 rfl dX0_drawn_71 ?_
    exact zS_reti dX0_drawn_72 rfl

theorem okX0_drawn (v0 : Nat) (v1 : Int32) (w : zWd) (h0 : zShp v0 = (0, 11)) : zOk gX0_drawn zEi [.ref v0, .int v1] w (mX0_drawn v0 v1 w) := zOk_of (by decide) rfl (Nat.le_of_ble_eq_true rfl) (sX0_drawn v0 v1 h0 w)
abbrev gX0_give : zMth := (yX0_give, cX0_give, 6, none, 2, zE0)
theorem cbX0_give : zCbV yX0_give cX0_give 6 none 1 := ⟨zw588, zw4, zw79, zw589, by decide, by decide, by decide +kernel⟩
set_option maxHeartbeats 4000000 in
set_option maxRecDepth 100000 in
theorem sX0_give_194 (w : zWd) : zS gX0_give zEv 194 [] [] w (mX0_give_194 w) := by
  unfold mX0_give_194
  exact zS_retv dX0_give_194 rfl

set_option maxHeartbeats 4000000 in
set_option maxRecDepth 100000 in
theorem sX0_give_192 (s0 : Int32) (s1 : Int32) (s2 : Int32) (s3 : Nat) (t3 : zShp s3 = (20, 12)) (w : zWd) : zS gX0_give zEv 192 [] [.int s0, .int s1, .int s2, .ref s3] w (mX0_give_192 s0 s1 s2 s3 w) := by
  unfold mX0_give_192
  refine zS_iadd 193 rfl dX0_give_192 ?_
  refine zS_iast 194 rfl dX0_give_193 t3 ?_
  refine zS_bnw (fun w16 => ?_)
  exact sX0_give_194 _

set_option maxHeartbeats 4000000 in
set_option maxRecDepth 100000 in
theorem sX0_give_61 (v0 : Nat) (v1 : Int32) (v2 : Int32) (v3 : Int32) (s0 : Int32) (s1 : Int32) (h0 : zShp v0 = (0, 11)) (w : zWd) : zS gX0_give zEv 61 [(0, .ref v0), (1, .int v1), (2, .int v2), (3, .int v3)] [.int s0, .int s1] w (mX0_give_61 v0 v1 v2 v3 s0 s1 w) := by
  unfold mX0_give_61
  refine zS_iadd 62 rfl dX0_give_61 ?_
  refine zS_bni (fun x7 => ?_)
  refine zS_istore 64 rfl dX0_give_62 (by show 4 < 6; decide) (show _ = [(4, .int _), (0, .ref _), (1, .int _), (2, .int _), (3, .int _)] from rfl) ?_
  refine zS_aload_n 65 rfl 1 rfl dX0_give_64 ?_
  refine zS_getfp 68 rfl 0 dX0_give_65 zC0 zw119 (by decide) rfl h0 ?_
  refine zS_bipush 70 rfl (30 : Int32) (by decide) dX0_give_68 ?_
  refine zS_iload_n 71 rfl 3 rfl dX0_give_70 ?_
  refine zS_iadd 72 rfl dX0_give_71 ?_
  refine zS_dup2 73 rfl rfl rfl dX0_give_72 ?_
  refine zS_iald 74 rfl dX0_give_73 (zP0_cells h0) ?_
  refine zS_iload_n 75 rfl 4 rfl dX0_give_74 ?_
  refine zS_isub 76 rfl dX0_give_75 ?_
  refine zS_iast 77 rfl dX0_give_76 (zP0_cells h0) ?_
  refine zS_bnw (fun w8 => ?_)
  refine zS_bipush 79 rfl (10 : Int32) (by decide) dX0_give_77 ?_
  refine zS_aload_n 80 rfl 1 rfl dX0_give_79 ?_
  refine zS_getfp 83 rfl 7 dX0_give_80 zC0 zw134 (by decide) rfl h0 ?_
  refine zS_iload_n 84 rfl 2 rfl dX0_give_83 ?_
  refine zS_iald 85 rfl dX0_give_84 (zP0_length h0) ?_
  refine zS_imul 86 rfl dX0_give_85 ?_
  refine zS_iload_n 87 rfl 4 rfl dX0_give_86 ?_
  refine zS_bipush 89 rfl (10 : Int32) (by decide) dX0_give_87 ?_
  refine zS_iadd 90 rfl dX0_give_89 ?_
  refine zS_idiv 91 rfl dX0_give_90 ?_
  refine zS_bni (fun x9 => ?_)
  refine zS_istore 93 rfl dX0_give_91 (by show 5 < 6; decide) (show _ = [(5, .int _), (4, .int _), (0, .ref _), (1, .int _), (2, .int _), (3, .int _)] from rfl) ?_
  refine zS_aload_n 94 rfl 2 rfl dX0_give_93 ?_
  refine zS_getfp 97 rfl 9 dX0_give_94 zC0 zw138 (by decide) rfl h0 ?_
  refine zS_iload_n 98 rfl 3 rfl dX0_give_97 ?_
  refine zS_iconst 99 rfl (4 : Int32) (by decide) dX0_give_98 ?_
  refine zS_imul 100 rfl dX0_give_99 ?_
  refine zS_iconst 101 rfl (0 : Int32) (by decide) dX0_give_100 ?_
  refine zS_iadd 102 rfl dX0_give_101 ?_
  refine zS_iload_n 103 rfl 5 rfl dX0_give_102 ?_
  refine zS_iast 104 rfl dX0_give_103 (zP0_flows h0) ?_
  refine zS_bnw (fun w10 => ?_)
  refine zS_aload_n 105 rfl 2 rfl dX0_give_104 ?_
  refine zS_getfp 108 rfl 9 dX0_give_105 zC0 zw138 (by decide) rfl h0 ?_
  refine zS_iload_n 109 rfl 3 rfl dX0_give_108 ?_
  refine zS_iconst 110 rfl (4 : Int32) (by decide) dX0_give_109 ?_
  refine zS_imul 111 rfl dX0_give_110 ?_
  refine zS_iconst 112 rfl (1 : Int32) (by decide) dX0_give_111 ?_
  refine zS_iadd 113 rfl dX0_give_112 ?_
  refine zS_iload 115 rfl 1 rfl dX0_give_113 ?_
  refine zS_iast 116 rfl dX0_give_115 (zP0_flows h0) ?_
  refine zS_bnw (fun w11 => ?_)
  refine zS_aload_n 117 rfl 2 rfl dX0_give_116 ?_
  refine zS_getfp 120 rfl 9 dX0_give_117 zC0 zw138 (by decide) rfl h0 ?_
  refine zS_iload_n 121 rfl 3 rfl dX0_give_120 ?_
  refine zS_iconst 122 rfl (4 : Int32) (by decide) dX0_give_121 ?_
  refine zS_imul 123 rfl dX0_give_122 ?_
  refine zS_iconst 124 rfl (2 : Int32) (by decide) dX0_give_123 ?_
  refine zS_iadd 125 rfl dX0_give_124 ?_
  refine zS_iconst 126 rfl (0 : Int32) (by decide) dX0_give_125 ?_
  refine zS_iload_n 127 rfl 5 rfl dX0_give_126 ?_
  refine zS_aload_n 128 rfl 2 rfl dX0_give_127 ?_
  refine zS_getfp 131 rfl 8 dX0_give_128 zC0 zw136 (by decide) rfl h0 ?_
  refine zS_iload_n 132 rfl 3 rfl dX0_give_131 ?_
  refine zS_iald 133 rfl dX0_give_132 (zP0_closing h0) ?_
  refine zS_bipush 135 rfl (10 : Int32) (by decide) dX0_give_133 ?_
  refine zS_idivC 136 rfl dX0_give_135 (by decide) ?_
  refine zS_isub 137 rfl dX0_give_136 ?_
  refine zS_mmax 140 rfl dX0_give_137 zw598 zw599 zw90 zw600 (by decide) (Nat.le_of_ble_eq_true rfl) ?_
  refine zS_bni (fun x12 => ?_)
  refine zS_iast 141 rfl dX0_give_140 (zP0_flows h0) ?_
  refine zS_bnw (fun w13 => ?_)
  refine zS_aload_n 142 rfl 2 rfl dX0_give_141 ?_
  refine zS_getfp 145 rfl 9 dX0_give_142 zC0 zw138 (by decide) rfl h0 ?_
  refine zS_iload_n 146 rfl 3 rfl dX0_give_145 ?_
  refine zS_iconst 147 rfl (4 : Int32) (by decide) dX0_give_146 ?_
  refine zS_imul 148 rfl dX0_give_147 ?_
  refine zS_iconst 149 rfl (3 : Int32) (by decide) dX0_give_148 ?_
  refine zS_iadd 150 rfl dX0_give_149 ?_
  refine zS_iconst 151 rfl (0 : Int32) (by decide) dX0_give_150 ?_
  refine zS_iload 153 rfl 1 rfl dX0_give_151 ?_
  refine zS_iload 155 rfl 0 rfl dX0_give_153 ?_
  refine zS_isub 156 rfl dX0_give_155 ?_
  refine zS_mmax 159 rfl dX0_give_156 zw598 zw599 zw90 zw600 (by decide) (Nat.le_of_ble_eq_true rfl) ?_
  refine zS_bni (fun x14 => ?_)
  refine zS_iast 160 rfl dX0_give_159 (zP0_flows h0) ?_
  refine zS_bnw (fun w15 => ?_)
  refine zS_iload_n 161 rfl 5 rfl dX0_give_160 ?_
  refine zS_if_le 194 164 rfl dX0_give_161 (by decide) ?_ ?_
  · refine zS_sub [] (show _ = [] from rfl) ?_
    exact sX0_give_194 _
  · refine zS_iload 166 rfl 1 rfl dX0_give_164 ?_
    refine zS_sipush 169 rfl (500 : Int32) (by decide) dX0_give_166 ?_
    refine zS_icmp_lt 194 172 rfl dX0_give_169 (by decide) ?_ ?_
    · refine zS_sub [] (show _ = [] from rfl) ?_
      exact sX0_give_194 _
    · refine zS_aload_n 173 rfl 2 rfl dX0_give_172 ?_
      refine zS_getfp 176 rfl 8 dX0_give_173 zC0 zw136 (by decide) rfl h0 ?_
      refine zS_iload_n 177 rfl 3 rfl dX0_give_176 ?_
      refine zS_dup2 178 rfl rfl rfl dX0_give_177 ?_
      refine zS_iald 179 rfl dX0_give_178 (zP0_closing h0) ?_
      refine zS_iload 181 rfl 1 rfl dX0_give_179 ?_
      refine zS_sipush 184 rfl (800 : Int32) (by decide) dX0_give_181 ?_
      refine zS_icmp_lt 191 187 rfl dX0_give_184 (by decide) ?_ ?_
      · refine zS_iconst 192 rfl (1 : Int32) (by decide) dX0_give_191 ?_
        refine zS_sub [] (show _ = [] from rfl) ?_
        exact sX0_give_192 _ _ _ _ (zP0_closing h0) _
      · refine zS_iconst 188 rfl (2 : Int32) (by decide) dX0_give_187 ?_
        refine zS_goto 192 dX0_give_188 (by decide) ?_
        refine zS_sub [] (show _ = [] from rfl) ?_
        exact sX0_give_192 _ _ _ _ (zP0_closing h0) _

set_option maxHeartbeats 4000000 in
set_option maxRecDepth 100000 in
theorem sX0_give_36 (v0 : Nat) (v1 : Int32) (v2 : Int32) (s0 : Int32) (h0 : zShp v0 = (0, 11)) (w : zWd) : zS gX0_give zEv 36 [(0, .ref v0), (1, .int v1), (2, .int v2)] [.int s0] w (mX0_give_36 v0 v1 v2 s0 w) := by
  unfold mX0_give_36
  refine zS_istore_n 37 rfl dX0_give_36 (by show 3 < 6; decide) (show _ = [(3, .int _), (0, .ref _), (1, .int _), (2, .int _)] from rfl) ?_
  refine zS_aload_n 38 rfl 1 rfl dX0_give_37 ?_
  refine zS_getfp 41 rfl 0 dX0_give_38 zC0 zw119 (by decide) rfl h0 ?_
  refine zS_iconst 42 rfl (0 : Int32) (by decide) dX0_give_41 ?_
  refine zS_iload_n 43 rfl 3 rfl dX0_give_42 ?_
  refine zS_iadd 44 rfl dX0_give_43 ?_
  refine zS_iald 45 rfl dX0_give_44 (zP0_cells h0) ?_
  refine zS_aload_n 46 rfl 1 rfl dX0_give_45 ?_
  refine zS_getfp 49 rfl 3 dX0_give_46 zC0 zw126 (by decide) rfl h0 ?_
  refine zS_iload_n 50 rfl 2 rfl dX0_give_49 ?_
  refine zS_iald 51 rfl dX0_give_50 (zP0_kind h0) ?_
  refine zS_iconst 52 rfl (2 : Int32) (by decide) dX0_give_51 ?_
  refine zS_icmp_ne 60 55 rfl dX0_give_52 (by decide) ?_ ?_
  · refine zS_bipush 57 rfl (50 : Int32) (by decide) dX0_give_55 ?_
    refine zS_goto 61 dX0_give_57 (by decide) ?_
    refine zS_sub [1, 2, 3, 0] (show _ = [(0, .ref _), (1, .int _), (2, .int _), (3, .int _)] from rfl) ?_
    exact sX0_give_61 _ _ _ _ _ _ h0 _
  · refine zS_iconst 61 rfl (0 : Int32) (by decide) dX0_give_60 ?_
    refine zS_sub [1, 2, 3, 0] (show _ = [(0, .ref _), (1, .int _), (2, .int _), (3, .int _)] from rfl) ?_
    exact sX0_give_61 _ _ _ _ _ _ h0 _

set_option maxHeartbeats 4000000 in
set_option maxRecDepth 100000 in
theorem sX0_give (v0 : Nat) (v1 : Int32) (h0 : zShp v0 = (0, 11)) (w : zWd) : zS gX0_give zEv 0 [(0, .ref v0), (1, .int v1)] [] w (mX0_give v0 v1 w) := by
  unfold mX0_give
  refine zS_aload_n 1 rfl 0 rfl dX0_give_0 ?_
  refine zS_getfp 4 rfl 4 dX0_give_1 zC0 zw127 (by decide) rfl h0 ?_
  refine zS_iload_n 5 rfl 1 rfl dX0_give_4 ?_
  refine zS_iald 6 rfl dX0_give_5 (zP0_cellOf h0) ?_
  refine zS_bni (fun x1 => ?_)
  refine zS_istore_n 7 rfl dX0_give_6 (by show 2 < 6; decide) (show _ = [(2, .int _), (0, .ref _), (1, .int _)] from rfl) ?_
  refine zS_aload_n 8 rfl 1 rfl dX0_give_7 ?_
  refine zS_iload_n 9 rfl 2 rfl dX0_give_8 ?_
  refine zS_cVi (as := [.int _]) (st := []) (g' := gX0_isShut) 12 rfl (okX0_isShut _ _ _ h0) dX0_give_9 zC0 h0 zw590 cbX0_isShut rfl rfl (by decide) (Nat.le_of_ble_eq_true rfl) (fun r2 w3 => ?_)
  refine zS_if_eq 19 15 rfl dX0_give_12 (by decide) ?_ ?_
  · refine zS_aload_n 20 rfl 1 rfl dX0_give_19 ?_
    refine zS_iload_n 21 rfl 2 rfl dX0_give_20 ?_
    refine zS_cVi (as := [.int _]) (st := []) (g' := gX0_drawn) 24 rfl (okX0_drawn _ _ _ h0) dX0_give_21 zC0 h0 zw594 cbX0_drawn rfl rfl (by decide) (Nat.le_of_ble_eq_true rfl) (fun r4 w5 => ?_)
    refine zS_aload_n 25 rfl 1 rfl dX0_give_24 ?_
    refine zS_getfp 28 rfl 0 dX0_give_25 zC0 zw119 (by decide) rfl h0 ?_
    refine zS_bipush 30 rfl (30 : Int32) (by decide) dX0_give_28 ?_
    refine zS_iload_n 31 rfl 0 rfl dX0_give_30 ?_
    refine zS_iadd 32 rfl dX0_give_31 ?_
    refine zS_iald 33 rfl dX0_give_32 (zP0_cells h0) ?_
    refine zS_mmin 36 rfl dX0_give_33 zw583 zw584 zw90 zw585 (by decide) (Nat.le_of_ble_eq_true rfl) ?_
    refine zS_bni (fun x6 => ?_)
    refine zS_sub [1, 2, 0] (show _ = [(0, .ref _), (1, .int _), (2, .int _)] from rfl) ?_
    exact sX0_give_36 _ _ _ _ h0 _
  · refine zS_iconst 16 rfl (0 : Int32) (by decide) dX0_give_15 ?_
    refine zS_goto 36 dX0_give_16 (by decide) ?_
    refine zS_sub [1, 2, 0] (show _ = [(0, .ref _), (1, .int _), (2, .int _)] from rfl) ?_
    exact sX0_give_36 _ _ _ _ h0 _

theorem okX0_give (v0 : Nat) (v1 : Int32) (w : zWd) (h0 : zShp v0 = (0, 11)) : zOk gX0_give zEv [.ref v0, .int v1] w (mX0_give v0 v1 w) := zOk_of (by decide) rfl (Nat.le_of_ble_eq_true rfl) (sX0_give v0 v1 h0 w)
abbrev gX0_move : zMth := (yX0_move, cX0_move, 4, none, 1, zE0)
theorem cbX0_move : zCbV yX0_move cX0_move 4 none 3 := ⟨zw607, zw8, zw79, zw608, by decide, by decide, by decide +kernel⟩
set_option maxHeartbeats 4000000 in
set_option maxRecDepth 100000 in
theorem sX0_move (v0 : Nat) (v1 : Int32) (v2 : Int32) (v3 : Int32) (h0 : zShp v0 = (0, 11)) (w : zWd) : zS gX0_move zEv 0 [(0, .ref v0), (1, .int v1), (2, .int v2), (3, .int v3)] [] w (mX0_move v0 v1 v2 v3 w) := by
  unfold mX0_move
  refine zS_aload_n 1 rfl 0 rfl dX0_move_0 ?_
  refine zS_getfp 4 rfl 10 dX0_move_1 zC0 zw140 (by decide) rfl h0 ?_
  refine zS_iload_n 5 rfl 1 rfl dX0_move_4 ?_
  refine zS_dup2 6 rfl rfl rfl dX0_move_5 ?_
  refine zS_iald 7 rfl dX0_move_6 (zP0_moves h0) ?_
  refine zS_iload_n 8 rfl 3 rfl dX0_move_7 ?_
  refine zS_isub 9 rfl dX0_move_8 ?_
  refine zS_iast 10 rfl dX0_move_9 (zP0_moves h0) ?_
  refine zS_bnw (fun w1 => ?_)
  refine zS_aload_n 11 rfl 0 rfl dX0_move_10 ?_
  refine zS_getfp 14 rfl 10 dX0_move_11 zC0 zw140 (by decide) rfl h0 ?_
  refine zS_iload_n 15 rfl 2 rfl dX0_move_14 ?_
  refine zS_dup2 16 rfl rfl rfl dX0_move_15 ?_
  refine zS_iald 17 rfl dX0_move_16 (zP0_moves h0) ?_
  refine zS_iload_n 18 rfl 3 rfl dX0_move_17 ?_
  refine zS_iadd 19 rfl dX0_move_18 ?_
  refine zS_iast 20 rfl dX0_move_19 (zP0_moves h0) ?_
  refine zS_bnw (fun w2 => ?_)
  exact zS_retv dX0_move_20 rfl

theorem okX0_move (v0 : Nat) (v1 : Int32) (v2 : Int32) (v3 : Int32) (w : zWd) (h0 : zShp v0 = (0, 11)) : zOk gX0_move zEv [.ref v0, .int v1, .int v2, .int v3] w (mX0_move v0 v1 v2 v3 w) := zOk_of (by decide) rfl (Nat.le_of_ble_eq_true rfl) (sX0_move v0 v1 v2 v3 h0 w)
abbrev gX0_even : zMth := (yX0_even, cX0_even, 5, none, 2, zE0)
theorem cbX0_even : zCbV yX0_even cX0_even 5 none 2 := ⟨zw603, zw7, zw79, zw604, by decide, by decide, by decide +kernel⟩
set_option maxHeartbeats 4000000 in
set_option maxRecDepth 100000 in
theorem sX0_even_135b (v0 : Nat) (v3 : Int32) (k135 : Int32 × zWd → Option (Unit × zWd)) (v4 : Int32) (hk135 : ∀ (v4 : Int32) (w : zWd), zS gX0_even zEv 135 [(0, .ref v0), (3, .int v3), (4, .int v4)] [] w (k135 (v4, w))) (h0 : zShp v0 = (0, 11)) (w : zWd) : zS gX0_even zEv 135 [(0, .ref v0), (3, .int v3), (4, .int v4)] [] w (mX0_even_135b v0 v3 k135 v4 w) := by
  unfold mX0_even_135b
  refine zS_iload 137 rfl 2 rfl dX0_even_135 ?_
  refine zS_bipush 139 rfl (30 : Int32) (by decide) dX0_even_137 ?_
  refine zS_icmp_ge 167 142 rfl dX0_even_139 (by decide) ?_ ?_
  · exact zS_retv dX0_even_167 rfl
  · refine zS_aload_n 143 rfl 0 rfl dX0_even_142 ?_
    refine zS_getfp 146 rfl 0 dX0_even_143 zC0 zw119 (by decide) rfl h0 ?_
    refine zS_iload_n 147 rfl 1 rfl dX0_even_146 ?_
    refine zS_iload 149 rfl 2 rfl dX0_even_147 ?_
    refine zS_iadd 150 rfl dX0_even_149 ?_
    refine zS_dup2 151 rfl rfl rfl dX0_even_150 ?_
    refine zS_iald 152 rfl dX0_even_151 (zP0_cells h0) ?_
    refine zS_aload_n 153 rfl 0 rfl dX0_even_152 ?_
    refine zS_getfp 156 rfl 10 dX0_even_153 zC0 zw140 (by decide) rfl h0 ?_
    refine zS_iload 158 rfl 2 rfl dX0_even_156 ?_
    refine zS_iald 159 rfl dX0_even_158 (zP0_moves h0) ?_
    refine zS_iadd 160 rfl dX0_even_159 ?_
    refine zS_iast 161 rfl dX0_even_160 (zP0_cells h0) ?_
    refine zS_bnw (fun w2 => ?_)
    refine zS_iinc 164 rfl 2 (_ + (1 : Int32)) dX0_even_161 rfl (by show 4 < 5; decide) rfl (show _ = [(4, .int _), (0, .ref _), (3, .int _)] from rfl) ?_
    refine zS_goto 135 dX0_even_164 (by decide) ?_
    refine zS_sub [1, 2, 0] (show _ = [(0, .ref _), (3, .int _), (4, .int _)] from rfl) ?_
    exact hk135 _ _

theorem sX0_even_135 (v0 : Nat) (v3 : Int32) (v4 : Int32) (h0 : zShp v0 = (0, 11)) (w : zWd) : zS gX0_even zEv 135 [(0, .ref v0), (3, .int v3), (4, .int v4)] [] w (mX0_even_135 v0 v3 v4 w) :=
  zS_loop (L := fun q : Int32 × zWd => [(0, .ref v0), (3, .int v3), (4, .int q.1)]) (V := fun q => q.2) (T := fun _ => []) (F := fun k q => mX0_even_135b v0 v3 k q.1 q.2) (fun k hk q => sX0_even_135b v0 v3 k q.1 (fun a4 w => hk (a4, w)) h0 q.2) zFU (v4, w)
set_option maxHeartbeats 4000000 in
set_option maxRecDepth 100000 in
theorem sX0_even_126 (k32 : Int32 × zWd → Option (Unit × zWd)) (v0 : Nat) (v2 : Int32) (v3 : Int32) (v4 : Int32) (hk32 : ∀ (v4 : Int32) (w : zWd), zS gX0_even zEv 32 [(0, .ref v0), (2, .int v2), (3, .int v3), (4, .int v4)] [] w (k32 (v4, w))) (h0 : zShp v0 = (0, 11)) (w : zWd) : zS gX0_even zEv 126 [(0, .ref v0), (2, .int v2), (3, .int v3), (4, .int v4)] [] w (mX0_even_126 k32 v0 v2 v3 v4 w) := by
  unfold mX0_even_126
  refine zS_iinc 129 rfl 3 (_ + (1 : Int32)) dX0_even_126 rfl (by show 4 < 5; decide) rfl (show _ = [(4, .int _), (0, .ref _), (2, .int _), (3, .int _)] from rfl) ?_
  refine zS_goto 32 dX0_even_129 (by decide) ?_
  refine zS_sub [1, 2, 3, 0] (show _ = [(0, .ref _), (2, .int _), (3, .int _), (4, .int _)] from rfl) ?_
  exact hk32 _ _

set_option maxHeartbeats 4000000 in
set_option maxRecDepth 100000 in
theorem sX0_even_81 (k32 : Int32 × zWd → Option (Unit × zWd)) (v0 : Nat) (v2 : Int32) (v3 : Int32) (v4 : Int32) (hk32 : ∀ (v4 : Int32) (w : zWd), zS gX0_even zEv 32 [(0, .ref v0), (2, .int v2), (3, .int v3), (4, .int v4)] [] w (k32 (v4, w))) (h0 : zShp v0 = (0, 11)) (w : zWd) : zS gX0_even zEv 81 [(0, .ref v0), (2, .int v2), (3, .int v3), (4, .int v4)] [] w (mX0_even_81 k32 v0 v2 v3 v4 w) := by
  unfold mX0_even_81
  refine zS_iload 83 rfl 3 rfl dX0_even_81 ?_
  refine zS_bipush 85 rfl (6 : Int32) (by decide) dX0_even_83 ?_
  refine zS_iadd 86 rfl dX0_even_85 ?_
  refine zS_bipush 88 rfl (30 : Int32) (by decide) dX0_even_86 ?_
  refine zS_icmp_ge 126 91 rfl dX0_even_88 (by decide) ?_ ?_
  · exact sX0_even_126 k32 _ _ _ _ hk32 h0 _
  · refine zS_aload_n 92 rfl 0 rfl dX0_even_91 ?_
    refine zS_iload 94 rfl 3 rfl dX0_even_92 ?_
    refine zS_iload 96 rfl 3 rfl dX0_even_94 ?_
    refine zS_bipush 98 rfl (6 : Int32) (by decide) dX0_even_96 ?_
    refine zS_iadd 99 rfl dX0_even_98 ?_
    refine zS_aload_n 100 rfl 0 rfl dX0_even_99 ?_
    refine zS_getfp 103 rfl 0 dX0_even_100 zC0 zw119 (by decide) rfl h0 ?_
    refine zS_iload_n 104 rfl 2 rfl dX0_even_103 ?_
    refine zS_iload 106 rfl 3 rfl dX0_even_104 ?_
    refine zS_iadd 107 rfl dX0_even_106 ?_
    refine zS_iald 108 rfl dX0_even_107 (zP0_cells h0) ?_
    refine zS_aload_n 109 rfl 0 rfl dX0_even_108 ?_
    refine zS_getfp 112 rfl 0 dX0_even_109 zC0 zw119 (by decide) rfl h0 ?_
    refine zS_iload_n 113 rfl 2 rfl dX0_even_112 ?_
    refine zS_iload 115 rfl 3 rfl dX0_even_113 ?_
    refine zS_iadd 116 rfl dX0_even_115 ?_
    refine zS_bipush 118 rfl (6 : Int32) (by decide) dX0_even_116 ?_
    refine zS_iadd 119 rfl dX0_even_118 ?_
    refine zS_iald 120 rfl dX0_even_119 (zP0_cells h0) ?_
    refine zS_isub 121 rfl dX0_even_120 ?_
    refine zS_iload_n 122 rfl 1 rfl dX0_even_121 ?_
    refine zS_idiv 123 rfl dX0_even_122 ?_
    refine zS_cVv (as := [.int _, .int _, .int _]) (st := []) (g' := gX0_move) 126 rfl (okX0_move _ _ _ _ _ h0) dX0_even_123 zC0 h0 zw605 cbX0_move rfl rfl (by decide) (Nat.le_of_ble_eq_true rfl) (fun r3 w4 => ?_)
    exact sX0_even_126 k32 _ _ _ _ hk32 h0 _

set_option maxHeartbeats 4000000 in
set_option maxRecDepth 100000 in
theorem sX0_even_32b (v0 : Nat) (v2 : Int32) (v3 : Int32) (k32 : Int32 × zWd → Option (Unit × zWd)) (v4 : Int32) (hk32 : ∀ (v4 : Int32) (w : zWd), zS gX0_even zEv 32 [(0, .ref v0), (2, .int v2), (3, .int v3), (4, .int v4)] [] w (k32 (v4, w))) (h0 : zShp v0 = (0, 11)) (w : zWd) : zS gX0_even zEv 32 [(0, .ref v0), (2, .int v2), (3, .int v3), (4, .int v4)] [] w (mX0_even_32b v0 v2 v3 k32 v4 w) := by
  unfold mX0_even_32b
  refine zS_iload 34 rfl 3 rfl dX0_even_32 ?_
  refine zS_bipush 36 rfl (30 : Int32) (by decide) dX0_even_34 ?_
  refine zS_icmp_ge 132 39 rfl dX0_even_36 (by decide) ?_ ?_
  · refine zS_iconst 133 rfl (0 : Int32) (by decide) dX0_even_132 ?_
    refine zS_istore 135 rfl dX0_even_133 (by show 4 < 5; decide) (show _ = [(4, .int _), (0, .ref _), (2, .int _), (3, .int _)] from rfl) ?_
    refine zS_sub [1, 3, 0] (show _ = [(0, .ref _), (3, .int _), (4, .int _)] from rfl) ?_
    exact sX0_even_135 _ _ _ h0 _
  · refine zS_iload 41 rfl 3 rfl dX0_even_39 ?_
    refine zS_bipush 43 rfl (6 : Int32) (by decide) dX0_even_41 ?_
    refine zS_iremC 44 rfl dX0_even_43 (by decide) ?_
    refine zS_iconst 45 rfl (5 : Int32) (by decide) dX0_even_44 ?_
    refine zS_icmp_ge 81 48 rfl dX0_even_45 (by decide) ?_ ?_
    · exact sX0_even_81 k32 _ _ _ _ hk32 h0 _
    · refine zS_aload_n 49 rfl 0 rfl dX0_even_48 ?_
      refine zS_iload 51 rfl 3 rfl dX0_even_49 ?_
      refine zS_iload 53 rfl 3 rfl dX0_even_51 ?_
      refine zS_iconst 54 rfl (1 : Int32) (by decide) dX0_even_53 ?_
      refine zS_iadd 55 rfl dX0_even_54 ?_
      refine zS_aload_n 56 rfl 0 rfl dX0_even_55 ?_
      refine zS_getfp 59 rfl 0 dX0_even_56 zC0 zw119 (by decide) rfl h0 ?_
      refine zS_iload_n 60 rfl 2 rfl dX0_even_59 ?_
      refine zS_iload 62 rfl 3 rfl dX0_even_60 ?_
      refine zS_iadd 63 rfl dX0_even_62 ?_
      refine zS_iald 64 rfl dX0_even_63 (zP0_cells h0) ?_
      refine zS_aload_n 65 rfl 0 rfl dX0_even_64 ?_
      refine zS_getfp 68 rfl 0 dX0_even_65 zC0 zw119 (by decide) rfl h0 ?_
      refine zS_iload_n 69 rfl 2 rfl dX0_even_68 ?_
      refine zS_iload 71 rfl 3 rfl dX0_even_69 ?_
      refine zS_iadd 72 rfl dX0_even_71 ?_
      refine zS_iconst 73 rfl (1 : Int32) (by decide) dX0_even_72 ?_
      refine zS_iadd 74 rfl dX0_even_73 ?_
      refine zS_iald 75 rfl dX0_even_74 (zP0_cells h0) ?_
      refine zS_isub 76 rfl dX0_even_75 ?_
      refine zS_iload_n 77 rfl 1 rfl dX0_even_76 ?_
      refine zS_idiv 78 rfl dX0_even_77 ?_
      refine zS_cVv (as := [.int _, .int _, .int _]) (st := []) (g' := gX0_move) 81 rfl (okX0_move _ _ _ _ _ h0) dX0_even_78 zC0 h0 zw605 cbX0_move rfl rfl (by decide) (Nat.le_of_ble_eq_true rfl) (fun r5 w6 => ?_)
      exact sX0_even_81 k32 _ _ _ _ hk32 h0 _

theorem sX0_even_32 (v0 : Nat) (v2 : Int32) (v3 : Int32) (v4 : Int32) (h0 : zShp v0 = (0, 11)) (w : zWd) : zS gX0_even zEv 32 [(0, .ref v0), (2, .int v2), (3, .int v3), (4, .int v4)] [] w (mX0_even_32 v0 v2 v3 v4 w) :=
  zS_loop (L := fun q : Int32 × zWd => [(0, .ref v0), (2, .int v2), (3, .int v3), (4, .int q.1)]) (V := fun q => q.2) (T := fun _ => []) (F := fun k q => mX0_even_32b v0 v2 v3 k q.1 q.2) (fun k hk q => sX0_even_32b v0 v2 v3 k q.1 (fun a4 w => hk (a4, w)) h0 q.2) zFU (v4, w)
set_option maxHeartbeats 4000000 in
set_option maxRecDepth 100000 in
theorem sX0_even_8b (v0 : Nat) (v2 : Int32) (v3 : Int32) (k8 : Int32 × zWd → Option (Unit × zWd)) (v4 : Int32) (hk8 : ∀ (v4 : Int32) (w : zWd), zS gX0_even zEv 8 [(0, .ref v0), (2, .int v2), (3, .int v3), (4, .int v4)] [] w (k8 (v4, w))) (h0 : zShp v0 = (0, 11)) (w : zWd) : zS gX0_even zEv 8 [(0, .ref v0), (2, .int v2), (3, .int v3), (4, .int v4)] [] w (mX0_even_8b v0 v2 v3 k8 v4 w) := by
  unfold mX0_even_8b
  refine zS_iload 10 rfl 3 rfl dX0_even_8 ?_
  refine zS_bipush 12 rfl (30 : Int32) (by decide) dX0_even_10 ?_
  refine zS_icmp_ge 29 15 rfl dX0_even_12 (by decide) ?_ ?_
  · refine zS_iconst 30 rfl (0 : Int32) (by decide) dX0_even_29 ?_
    refine zS_istore 32 rfl dX0_even_30 (by show 4 < 5; decide) (show _ = [(4, .int _), (0, .ref _), (2, .int _), (3, .int _)] from rfl) ?_
    refine zS_sub [1, 2, 3, 0] (show _ = [(0, .ref _), (2, .int _), (3, .int _), (4, .int _)] from rfl) ?_
    exact sX0_even_32 _ _ _ _ h0 _
  · refine zS_aload_n 16 rfl 0 rfl dX0_even_15 ?_
    refine zS_getfp 19 rfl 10 dX0_even_16 zC0 zw140 (by decide) rfl h0 ?_
    refine zS_iload 21 rfl 3 rfl dX0_even_19 ?_
    refine zS_iconst 22 rfl (0 : Int32) (by decide) dX0_even_21 ?_
    refine zS_iast 23 rfl dX0_even_22 (zP0_moves h0) ?_
    refine zS_bnw (fun w7 => ?_)
    refine zS_iinc 26 rfl 3 (_ + (1 : Int32)) dX0_even_23 rfl (by show 4 < 5; decide) rfl (show _ = [(4, .int _), (0, .ref _), (2, .int _), (3, .int _)] from rfl) ?_
    refine zS_goto 8 dX0_even_26 (by decide) ?_
    refine zS_sub [1, 2, 3, 0] (show _ = [(0, .ref _), (2, .int _), (3, .int _), (4, .int _)] from rfl) ?_
    exact hk8 _ _

theorem sX0_even_8 (v0 : Nat) (v2 : Int32) (v3 : Int32) (v4 : Int32) (h0 : zShp v0 = (0, 11)) (w : zWd) : zS gX0_even zEv 8 [(0, .ref v0), (2, .int v2), (3, .int v3), (4, .int v4)] [] w (mX0_even_8 v0 v2 v3 v4 w) :=
  zS_loop (L := fun q : Int32 × zWd => [(0, .ref v0), (2, .int v2), (3, .int v3), (4, .int q.1)]) (V := fun q => q.2) (T := fun _ => []) (F := fun k q => mX0_even_8b v0 v2 v3 k q.1 q.2) (fun k hk q => sX0_even_8b v0 v2 v3 k q.1 (fun a4 w => hk (a4, w)) h0 q.2) zFU (v4, w)
set_option maxHeartbeats 4000000 in
set_option maxRecDepth 100000 in
theorem sX0_even (v0 : Nat) (v1 : Int32) (v2 : Int32) (h0 : zShp v0 = (0, 11)) (w : zWd) : zS gX0_even zEv 0 [(0, .ref v0), (1, .int v1), (2, .int v2)] [] w (mX0_even v0 v1 v2 w) := by
  unfold mX0_even
  refine zS_iload_n 1 rfl 1 rfl dX0_even_0 ?_
  refine zS_bipush 3 rfl (30 : Int32) (by decide) dX0_even_1 ?_
  refine zS_imul 4 rfl dX0_even_3 ?_
  refine zS_bni (fun x1 => ?_)
  refine zS_istore_n 5 rfl dX0_even_4 (by show 3 < 5; decide) (show _ = [(3, .int _), (0, .ref _), (1, .int _), (2, .int _)] from rfl) ?_
  refine zS_iconst 6 rfl (0 : Int32) (by decide) dX0_even_5 ?_
  refine zS_istore 8 rfl dX0_even_6 (by show 4 < 5; decide) (show _ = [(4, .int _), (3, .int _), (0, .ref _), (1, .int _), (2, .int _)] from rfl) ?_
  refine zS_sub [2, 4, 1, 0] (show _ = [(0, .ref _), (2, .int _), (3, .int _), (4, .int _)] from rfl) ?_
  exact sX0_even_8 _ _ _ _ h0 _

theorem okX0_even (v0 : Nat) (v1 : Int32) (v2 : Int32) (w : zWd) (h0 : zShp v0 = (0, 11)) : zOk gX0_even zEv [.ref v0, .int v1, .int v2] w (mX0_even v0 v1 v2 w) := zOk_of (by decide) rfl (Nat.le_of_ble_eq_true rfl) (sX0_even v0 v1 v2 h0 w)
abbrev gX0_passDay : zMth := (yX0_passDay, cX0_passDay, 2, none, 3, zE0)
theorem cbX0_passDay : zCbV yX0_passDay cX0_passDay 2 none 0 := ⟨zw576, zw577, zw79, zw578, by decide, by decide, by decide +kernel⟩
set_option maxHeartbeats 4000000 in
set_option maxRecDepth 100000 in
theorem sX0_passDay_30b (v0 : Nat) (k30 : Int32 × zWd → Option (Unit × zWd)) (v1 : Int32) (hk30 : ∀ (v1 : Int32) (w : zWd), zS gX0_passDay zEv 30 [(0, .ref v0), (1, .int v1)] [] w (k30 (v1, w))) (h0 : zShp v0 = (0, 11)) (w : zWd) : zS gX0_passDay zEv 30 [(0, .ref v0), (1, .int v1)] [] w (mX0_passDay_30b v0 k30 v1 w) := by
  unfold mX0_passDay_30b
  refine zS_iload_n 31 rfl 1 rfl dX0_passDay_30 ?_
  refine zS_aload_n 32 rfl 0 rfl dX0_passDay_31 ?_
  refine zS_getfi 35 rfl 1 dX0_passDay_32 zC0 zw121 (by decide) rfl h0 ?_
  refine zS_icmp_ge 49 38 rfl dX0_passDay_35 (by decide) ?_ ?_
  · refine zS_aload_n 50 rfl 0 rfl dX0_passDay_49 ?_
    refine zS_iconst 51 rfl (0 : Int32) (by decide) dX0_passDay_50 ?_
    refine zS_bipush 53 rfl (8 : Int32) (by decide) dX0_passDay_51 ?_
    refine zS_cVv (as := [.int _, .int _]) (st := []) (g' := gX0_even) 56 rfl (okX0_even _ _ _ _ h0) dX0_passDay_53 zC0 h0 zw601 cbX0_even rfl rfl (by decide) (Nat.le_of_ble_eq_true rfl) (fun r1 w2 => ?_)
    refine zS_aload_n 57 rfl 0 rfl dX0_passDay_56 ?_
    refine zS_iconst 58 rfl (1 : Int32) (by decide) dX0_passDay_57 ?_
    refine zS_iconst 59 rfl (4 : Int32) (by decide) dX0_passDay_58 ?_
    refine zS_cVv (as := [.int _, .int _]) (st := []) (g' := gX0_even) 62 rfl (okX0_even _ _ _ _ h0) dX0_passDay_59 zC0 h0 zw601 cbX0_even rfl rfl (by decide) (Nat.le_of_ble_eq_true rfl) (fun r3 w4 => ?_)
    exact zS_retv dX0_passDay_62 rfl
  · refine zS_aload_n 39 rfl 0 rfl dX0_passDay_38 ?_
    refine zS_iload_n 40 rfl 1 rfl dX0_passDay_39 ?_
    refine zS_cVv (as := [.int _]) (st := []) (g' := gX0_give) 43 rfl (okX0_give _ _ _ h0) dX0_passDay_40 zC0 h0 zw586 cbX0_give rfl rfl (by decide) (Nat.le_of_ble_eq_true rfl) (fun r5 w6 => ?_)
    refine zS_iinc 46 rfl 1 (_ + (1 : Int32)) dX0_passDay_43 rfl (by show 1 < 2; decide) rfl (show _ = [(1, .int _), (0, .ref _)] from rfl) ?_
    refine zS_goto 30 dX0_passDay_46 (by decide) ?_
    refine zS_sub [1, 0] (show _ = [(0, .ref _), (1, .int _)] from rfl) ?_
    exact hk30 _ _

theorem sX0_passDay_30 (v0 : Nat) (v1 : Int32) (h0 : zShp v0 = (0, 11)) (w : zWd) : zS gX0_passDay zEv 30 [(0, .ref v0), (1, .int v1)] [] w (mX0_passDay_30 v0 v1 w) :=
  zS_loop (L := fun q : Int32 × zWd => [(0, .ref v0), (1, .int q.1)]) (V := fun q => q.2) (T := fun _ => []) (F := fun k q => mX0_passDay_30b v0 k q.1 q.2) (fun k hk q => sX0_passDay_30b v0 k q.1 (fun a1 w => hk (a1, w)) h0 q.2) zFU (v1, w)
set_option maxHeartbeats 4000000 in
set_option maxRecDepth 100000 in
theorem sX0_passDay_2b (v0 : Nat) (k2 : Int32 × zWd → Option (Unit × zWd)) (v1 : Int32) (hk2 : ∀ (v1 : Int32) (w : zWd), zS gX0_passDay zEv 2 [(0, .ref v0), (1, .int v1)] [] w (k2 (v1, w))) (h0 : zShp v0 = (0, 11)) (w : zWd) : zS gX0_passDay zEv 2 [(0, .ref v0), (1, .int v1)] [] w (mX0_passDay_2b v0 k2 v1 w) := by
  unfold mX0_passDay_2b
  refine zS_iload_n 3 rfl 1 rfl dX0_passDay_2 ?_
  refine zS_bipush 5 rfl (30 : Int32) (by decide) dX0_passDay_3 ?_
  refine zS_icmp_ge 28 8 rfl dX0_passDay_5 (by decide) ?_ ?_
  · refine zS_iconst 29 rfl (0 : Int32) (by decide) dX0_passDay_28 ?_
    refine zS_istore_n 30 rfl dX0_passDay_29 (by show 1 < 2; decide) (show _ = [(1, .int _), (0, .ref _)] from rfl) ?_
    refine zS_sub [1, 0] (show _ = [(0, .ref _), (1, .int _)] from rfl) ?_
    exact sX0_passDay_30 _ _ h0 _
  · refine zS_aload_n 9 rfl 0 rfl dX0_passDay_8 ?_
    refine zS_iconst 10 rfl (0 : Int32) (by decide) dX0_passDay_9 ?_
    refine zS_iconst 11 rfl (2 : Int32) (by decide) dX0_passDay_10 ?_
    refine zS_iload_n 12 rfl 1 rfl dX0_passDay_11 ?_
    refine zS_cVv (as := [.int _, .int _, .int _]) (st := []) (g' := gX0_get) 15 rfl (okX0_get _ _ _ _ _ h0) dX0_passDay_12 zC0 h0 zw579 cbX0_get rfl rfl (by decide) (Nat.le_of_ble_eq_true rfl) (fun r7 w8 => ?_)
    refine zS_aload_n 16 rfl 0 rfl dX0_passDay_15 ?_
    refine zS_iconst 17 rfl (1 : Int32) (by decide) dX0_passDay_16 ?_
    refine zS_iconst 18 rfl (3 : Int32) (by decide) dX0_passDay_17 ?_
    refine zS_iload_n 19 rfl 1 rfl dX0_passDay_18 ?_
    refine zS_cVv (as := [.int _, .int _, .int _]) (st := []) (g' := gX0_get) 22 rfl (okX0_get _ _ _ _ _ h0) dX0_passDay_19 zC0 h0 zw579 cbX0_get rfl rfl (by decide) (Nat.le_of_ble_eq_true rfl) (fun r9 w10 => ?_)
    refine zS_iinc 25 rfl 1 (_ + (1 : Int32)) dX0_passDay_22 rfl (by show 1 < 2; decide) rfl (show _ = [(1, .int _), (0, .ref _)] from rfl) ?_
    refine zS_goto 2 dX0_passDay_25 (by decide) ?_
    refine zS_sub [1, 0] (show _ = [(0, .ref _), (1, .int _)] from rfl) ?_
    exact hk2 _ _

theorem sX0_passDay_2 (v0 : Nat) (v1 : Int32) (h0 : zShp v0 = (0, 11)) (w : zWd) : zS gX0_passDay zEv 2 [(0, .ref v0), (1, .int v1)] [] w (mX0_passDay_2 v0 v1 w) :=
  zS_loop (L := fun q : Int32 × zWd => [(0, .ref v0), (1, .int q.1)]) (V := fun q => q.2) (T := fun _ => []) (F := fun k q => mX0_passDay_2b v0 k q.1 q.2) (fun k hk q => sX0_passDay_2b v0 k q.1 (fun a1 w => hk (a1, w)) h0 q.2) zFU (v1, w)
set_option maxHeartbeats 4000000 in
set_option maxRecDepth 100000 in
theorem sX0_passDay (v0 : Nat) (h0 : zShp v0 = (0, 11)) (w : zWd) : zS gX0_passDay zEv 0 [(0, .ref v0)] [] w (mX0_passDay v0 w) := by
  unfold mX0_passDay
  refine zS_iconst 1 rfl (0 : Int32) (by decide) dX0_passDay_0 ?_
  refine zS_istore_n 2 rfl dX0_passDay_1 (by show 1 < 2; decide) (show _ = [(1, .int _), (0, .ref _)] from rfl) ?_
  refine zS_sub [1, 0] (show _ = [(0, .ref _), (1, .int _)] from rfl) ?_
  exact sX0_passDay_2 _ _ h0 _

theorem okX0_passDay (v0 : Nat) (w : zWd) (h0 : zShp v0 = (0, 11)) : zOk gX0_passDay zEv [.ref v0] w (mX0_passDay v0 w) := zOk_of (by decide) rfl (Nat.le_of_ble_eq_true rfl) (sX0_passDay v0 h0 w)
abbrev gX1_offer : zMth := (yX1_offer, cX1_offer, 4, none, 1, zE0)
theorem cbX1_offer : zCbV yX1_offer cX1_offer 4 none 3 := ⟨zw887, zw888, zw87, zw889, by decide, by decide, by decide +kernel⟩
set_option maxHeartbeats 4000000 in
set_option maxRecDepth 100000 in
theorem sX1_offer (v0 : Nat) (v1 : Int32) (v2 : Int32) (v3 : Int32) (h0 : zShp v0 = (1, 8)) (w : zWd) : zS gX1_offer zEv 0 [(0, .ref v0), (1, .int v1), (2, .int v2), (3, .int v3)] [] w (mX1_offer v0 v1 v2 v3 w) := by
  unfold mX1_offer
  refine zS_aload_n 1 rfl 0 rfl dX1_offer_0 ?_
  refine zS_getfp 4 rfl 0 dX1_offer_1 zC1 zw417 (by decide) rfl h0 ?_
  refine zS_iload_n 5 rfl 1 rfl dX1_offer_4 ?_
  refine zS_bipush 7 rfl (6 : Int32) (by decide) dX1_offer_5 ?_
  refine zS_iload_n 8 rfl 2 rfl dX1_offer_7 ?_
  refine zS_bipush 10 rfl (10 : Int32) (by decide) dX1_offer_8 ?_
  refine zS_idivC 11 rfl dX1_offer_10 (by decide) ?_
  refine zS_mmin 14 rfl dX1_offer_11 zw890 zw584 zw90 zw585 (by decide) (Nat.le_of_ble_eq_true rfl) ?_
  refine zS_bni (fun x1 => ?_)
  refine zS_iast 15 rfl dX1_offer_14 (zP1_tens h0) ?_
  refine zS_bnw (fun w2 => ?_)
  refine zS_aload_n 16 rfl 0 rfl dX1_offer_15 ?_
  refine zS_getfp 19 rfl 1 dX1_offer_16 zC1 zw418 (by decide) rfl h0 ?_
  refine zS_iload_n 20 rfl 1 rfl dX1_offer_19 ?_
  refine zS_iload_n 21 rfl 3 rfl dX1_offer_20 ?_
  refine zS_iast 22 rfl dX1_offer_21 (zP1_warm h0) ?_
  refine zS_bnw (fun w3 => ?_)
  exact zS_retv dX1_offer_22 rfl

theorem okX1_offer (v0 : Nat) (v1 : Int32) (v2 : Int32) (v3 : Int32) (w : zWd) (h0 : zShp v0 = (1, 8)) : zOk gX1_offer zEv [.ref v0, .int v1, .int v2, .int v3] w (mX1_offer v0 v1 v2 v3 w) := zOk_of (by decide) rfl (Nat.le_of_ble_eq_true rfl) (sX1_offer v0 v1 v2 v3 h0 w)
abbrev gX8_needs : zMth := (yX8_needs, cX8_needs, 3, (some .int), 1, zE0)
theorem cbX8_needs : zCbV yX8_needs cX8_needs 3 (some .int) 1 := ⟨zw802, zw803, zw83, zw804, by decide, by decide, by decide +kernel⟩
set_option maxHeartbeats 4000000 in
set_option maxRecDepth 100000 in
theorem sX8_needs_53 (v2 : Int32) (w : zWd) : zS gX8_needs zEi 53 [(2, .int v2)] [] w (mX8_needs_53 v2 w) := by
  unfold mX8_needs_53
  refine zS_iconst 54 rfl (0 : Int32) (by decide) dX8_needs_53 ?_
  refine zS_iload_n 55 rfl 0 rfl dX8_needs_54 ?_
  refine zS_bipush 57 rfl (20 : Int32) (by decide) dX8_needs_55 ?_
  refine zS_isub 58 rfl dX8_needs_57 ?_
  refine zS_mmax 61 rfl dX8_needs_58 zw805 zw599 zw90 zw600 (by decide) (Nat.le_of_ble_eq_true rfl) ?_
  refine zS_bni (fun x2 => ?_)
  exact zS_reti dX8_needs_61 rfl

set_option maxHeartbeats 4000000 in
set_option maxRecDepth 100000 in
theorem sX8_needs (v0 : Nat) (v1 : Int32) (h0 : zShp v0 = (8, 13)) (w : zWd) : zS gX8_needs zEi 0 [(0, .ref v0), (1, .int v1)] [] w (mX8_needs v0 v1 w) := by
  unfold mX8_needs
  refine zS_aload_n 1 rfl 0 rfl dX8_needs_0 ?_
  refine zS_getfp 4 rfl 4 dX8_needs_1 zC8 zw249 (by decide) rfl h0 ?_
  refine zS_iload_n 5 rfl 1 rfl dX8_needs_4 ?_
  refine zS_iald 6 rfl dX8_needs_5 (zP8_heat h0) ?_
  refine zS_bni (fun x1 => ?_)
  refine zS_istore_n 7 rfl dX8_needs_6 (by show 2 < 3; decide) (show _ = [(2, .int _), (0, .ref _), (1, .int _)] from rfl) ?_
  refine zS_aload_n 8 rfl 1 rfl dX8_needs_7 ?_
  refine zS_getfp 11 rfl 1 dX8_needs_8 zC8 zw239 (by decide) rfl h0 ?_
  refine zS_iload_n 12 rfl 2 rfl dX8_needs_11 ?_
  refine zS_iald 13 rfl dX8_needs_12 (zP8_kind h0) ?_
  refine zS_tsw (lo := 1) ?_
  refine zSw_in (c0 := (1 : Int32)) 0 48 dX8_needs_13 (by decide) (by decide) rfl (by decide) ?_ ?_
  · refine zS_iload_n 49 rfl 0 rfl dX8_needs_48 ?_
    refine zS_bipush 51 rfl (10 : Int32) (by decide) dX8_needs_49 ?_
    refine zS_iadd 52 rfl dX8_needs_51 ?_
    exact zS_reti dX8_needs_52 rfl
  refine zSw_in (c0 := (2 : Int32)) 1 53 dX8_needs_13 (by decide) (by decide) rfl (by decide) ?_ ?_
  · refine zS_sub [0] (show _ = [(2, .int _)] from rfl) ?_
    exact sX8_needs_53 _ _
  refine zSw_in (c0 := (3 : Int32)) 2 62 dX8_needs_13 (by decide) (by decide) rfl (by decide) ?_ ?_
  · refine zS_iload_n 63 rfl 0 rfl dX8_needs_62 ?_
    refine zS_iconst 64 rfl (2 : Int32) (by decide) dX8_needs_63 ?_
    refine zS_idivC 65 rfl dX8_needs_64 (by decide) ?_
    exact zS_reti dX8_needs_65 rfl
  refine zSw_in (c0 := (4 : Int32)) 3 53 dX8_needs_13 (by decide) (by decide) rfl (by decide) ?_ ?_
  · refine zS_sub [0] (show _ = [(2, .int _)] from rfl) ?_
    exact sX8_needs_53 _ _
  refine zSw_in (c0 := (5 : Int32)) 4 66 dX8_needs_13 (by decide) (by decide) rfl (by decide) ?_ ?_
  · refine zS_iconst 67 rfl (0 : Int32) (by decide) dX8_needs_66 ?_
    refine zS_iload_n 68 rfl 0 rfl dX8_needs_67 ?_
    refine zS_bipush 70 rfl (20 : Int32) (by decide) dX8_needs_68 ?_
    refine zS_isub 71 rfl dX8_needs_70 ?_
    refine zS_mmax 74 rfl dX8_needs_71 zw805 zw599 zw90 zw600 (by decide) (Nat.le_of_ble_eq_true rfl) ?_
    refine zS_bni (fun x3 => ?_)
    refine zS_iconst 75 rfl (5 : Int32) (by decide) dX8_needs_74 ?_
    refine zS_iadd 76 rfl dX8_needs_75 ?_
    exact zS_reti dX8_needs_76 rfl
  refine zSw_out 77 dX8_needs_13 (by decide) (by decide) ?_
  · refine zS_iload_n 78 rfl 0 rfl dX8_needs_77 ?_
    exact zS_reti dX8_needs_78 rfl

theorem okX8_needs (v0 : Nat) (v1 : Int32) (w : zWd) (h0 : zShp v0 = (8, 13)) : zOk gX8_needs zEi [.ref v0, .int v1] w (mX8_needs v0 v1 w) := zOk_of (by decide) rfl (Nat.le_of_ble_eq_true rfl) (sX8_needs v0 v1 h0 w)
abbrev gX11_within : zMth := (yX11_within, cX11_within, 2, (some .boolean), 1, zE0)
theorem cbX11_within : zCbS yX11_within cX11_within 2 (some .boolean) 2 := ⟨zw504, zw77, zw505, by decide, by decide, by decide +kernel⟩
set_option maxHeartbeats 4000000 in
set_option maxRecDepth 100000 in
theorem sX11_within_14 (s0 : Int32) (w : zWd) : zS gX11_within zEi 14 [] [.int s0] w (mX11_within_14 s0 w) := by
  unfold mX11_within_14
  exact zS_retb dX11_within_14 rfl

set_option maxHeartbeats 4000000 in
set_option maxRecDepth 100000 in
theorem sX11_within_13 (w : zWd) : zS gX11_within zEi 13 [] [] w (mX11_within_13 w) := by
  unfold mX11_within_13
  refine zS_iconst 14 rfl (0 : Int32) (by decide) dX11_within_13 ?_
  exact sX11_within_14 _ _

set_option maxHeartbeats 4000000 in
set_option maxRecDepth 100000 in
theorem sX11_within (v0 : Int32) (v1 : Int32) (w : zWd) : zS gX11_within zEi 0 [(0, .int v0), (1, .int v1)] [] w (mX11_within v0 v1 w) := by
  unfold mX11_within
  refine zS_iload_n 1 rfl 0 rfl dX11_within_0 ?_
  refine zS_if_lt 13 4 rfl dX11_within_1 (by decide) ?_ ?_
  · refine zS_sub [] (show _ = [] from rfl) ?_
    exact sX11_within_13 _
  · refine zS_iload_n 5 rfl 0 rfl dX11_within_4 ?_
    refine zS_iload_n 6 rfl 1 rfl dX11_within_5 ?_
    refine zS_icmp_ge 13 9 rfl dX11_within_6 (by decide) ?_ ?_
    · refine zS_sub [] (show _ = [] from rfl) ?_
      exact sX11_within_13 _
    · refine zS_iconst 10 rfl (1 : Int32) (by decide) dX11_within_9 ?_
      refine zS_goto 14 dX11_within_10 (by decide) ?_
      refine zS_sub [] (show _ = [] from rfl) ?_
      exact sX11_within_14 _ _

theorem okX11_within (v0 : Int32) (v1 : Int32) (w : zWd) : zOk gX11_within zEi [.int v0, .int v1] w (mX11_within v0 v1 w) := zOk_of (by decide) rfl (Nat.le_of_ble_eq_true rfl) (sX11_within v0 v1 w)
abbrev gX1_keep : zMth := (yX1_keep, cX1_keep, 2, none, 2, zE0)
theorem cbX1_keep : zCbV yX1_keep cX1_keep 2 none 1 := ⟨zw906, zw29, zw87, zw907, by decide, by decide, by decide +kernel⟩
set_option maxHeartbeats 4000000 in
set_option maxRecDepth 100000 in
theorem sX1_keep_63 (w : zWd) : zS gX1_keep zEv 63 [] [] w (mX1_keep_63 w) := by
  unfold mX1_keep_63
  exact zS_retv dX1_keep_63 rfl

set_option maxHeartbeats 4000000 in
set_option maxRecDepth 100000 in
theorem sX1_keep (v0 : Nat) (v1 : Int32) (h0 : zShp v0 = (1, 8)) (w : zWd) : zS gX1_keep zEv 0 [(0, .ref v0), (1, .int v1)] [] w (mX1_keep v0 v1 w) := by
  unfold mX1_keep
  refine zS_iload_n 1 rfl 1 rfl dX1_keep_0 ?_
  refine zS_sipush 4 rfl (2401 : Int32) (by decide) dX1_keep_1 ?_
  refine zS_cNi (as := [.int _, .int _]) (st := []) (g' := gX11_within) (host := "HotSprings") 7 rfl (okX11_within _ _ _) dX1_keep_4 (by decide +kernel) cbX11_within rfl rfl (by decide) (Nat.le_of_ble_eq_true rfl) (fun r1 w2 => ?_)
  refine zS_if_eq 63 10 rfl dX1_keep_7 (by decide) ?_ ?_
  · refine zS_sub [] (show _ = [] from rfl) ?_
    exact sX1_keep_63 _
  · refine zS_aload_n 11 rfl 0 rfl dX1_keep_10 ?_
    refine zS_getfp 14 rfl 6 dX1_keep_11 zC1 zw423 (by decide) rfl h0 ?_
    refine zS_iload_n 15 rfl 1 rfl dX1_keep_14 ?_
    refine zS_iald 16 rfl dX1_keep_15 (zP1_found h0) ?_
    refine zS_aload_n 17 rfl 0 rfl dX1_keep_16 ?_
    refine zS_getfi 20 rfl 7 dX1_keep_17 zC1 zw424 (by decide) rfl h0 ?_
    refine zS_icmp_eq 63 23 rfl dX1_keep_20 (by decide) ?_ ?_
    · refine zS_sub [] (show _ = [] from rfl) ?_
      exact sX1_keep_63 _
    · refine zS_aload_n 24 rfl 0 rfl dX1_keep_23 ?_
      refine zS_getfi 27 rfl 5 dX1_keep_24 zC1 zw422 (by decide) rfl h0 ?_
      refine zS_sipush 30 rfl (2401 : Int32) (by decide) dX1_keep_27 ?_
      refine zS_icmp_ge 63 33 rfl dX1_keep_30 (by decide) ?_ ?_
      · refine zS_sub [] (show _ = [] from rfl) ?_
        exact sX1_keep_63 _
      · refine zS_aload_n 34 rfl 0 rfl dX1_keep_33 ?_
        refine zS_getfp 37 rfl 6 dX1_keep_34 zC1 zw423 (by decide) rfl h0 ?_
        refine zS_iload_n 38 rfl 1 rfl dX1_keep_37 ?_
        refine zS_aload_n 39 rfl 0 rfl dX1_keep_38 ?_
        refine zS_getfi 42 rfl 7 dX1_keep_39 zC1 zw424 (by decide) rfl h0 ?_
        refine zS_iast 43 rfl dX1_keep_42 (zP1_found h0) ?_
        refine zS_bnw (fun w3 => ?_)
        refine zS_aload_n 44 rfl 0 rfl dX1_keep_43 ?_
        refine zS_getfd 47 rfl 3 dX1_keep_44 zC1 zw420 (by decide) rfl h0 ?_
        refine zS_gd (fun g4 => ?_)
        refine zS_aload_n 48 rfl 0 rfl dX1_keep_47 ?_
        refine zS_getfi 51 rfl 5 dX1_keep_48 zC1 zw422 (by decide) rfl h0 ?_
        refine zS_iload_n 52 rfl 1 rfl dX1_keep_51 ?_
        refine zS_iast 53 rfl dX1_keep_52 g4 ?_
        refine zS_bnw (fun w5 => ?_)
        refine zS_aload_n 54 rfl 0 rfl dX1_keep_53 ?_
        refine zS_dup 55 rfl rfl dX1_keep_54 ?_
        refine zS_getfi 58 rfl 5 dX1_keep_55 zC1 zw422 (by decide) rfl h0 ?_
        refine zS_iconst 59 rfl (1 : Int32) (by decide) dX1_keep_58 ?_
        refine zS_iadd 60 rfl dX1_keep_59 ?_
        refine zS_putfi 63 rfl 5 dX1_keep_60 zC1 zw422 (by decide) rfl rfl rfl h0 ?_
        refine zS_bnw (fun w6 => ?_)
        refine zS_sub [] (show _ = [] from rfl) ?_
        exact sX1_keep_63 _

theorem okX1_keep (v0 : Nat) (v1 : Int32) (w : zWd) (h0 : zShp v0 = (1, 8)) : zOk gX1_keep zEv [.ref v0, .int v1] w (mX1_keep v0 v1 w) := zOk_of (by decide) rfl (Nat.le_of_ble_eq_true rfl) (sX1_keep v0 v1 h0 w)
abbrev gX1_takeFrom : zMth := (yX1_takeFrom, cX1_takeFrom, 13, none, 3, zE0)
theorem cbX1_takeFrom : zCbV yX1_takeFrom cX1_takeFrom 13 none 3 := ⟨zw902, zw28, zw87, zw903, by decide, by decide, by decide +kernel⟩
set_option maxHeartbeats 4000000 in
set_option maxRecDepth 100000 in
theorem sX1_takeFrom_198 (w : zWd) : zS gX1_takeFrom zEv 198 [] [] w (mX1_takeFrom_198 w) := by
  unfold mX1_takeFrom_198
  exact zS_retv dX1_takeFrom_198 rfl

set_option maxHeartbeats 4000000 in
set_option maxRecDepth 100000 in
theorem sX1_takeFrom_192 (k34 : Int32 × zWd → Option (Unit × zWd)) (v0 : Nat) (v1 : Int32) (v2 : Int32) (v3 : Int32) (v4 : Int32) (v5 : Int32) (v6 : Int32) (v7 : Int32) (v8 : Int32) (hk34 : ∀ (v8 : Int32) (w : zWd), zS gX1_takeFrom zEv 34 [(0, .ref v0), (1, .int v1), (2, .int v2), (3, .int v3), (4, .int v4), (5, .int v5), (6, .int v6), (7, .int v7), (8, .int v8)] [] w (k34 (v8, w))) (h0 : zShp v0 = (1, 8)) (w : zWd) : zS gX1_takeFrom zEv 192 [(0, .ref v0), (1, .int v1), (2, .int v2), (3, .int v3), (4, .int v4), (5, .int v5), (6, .int v6), (7, .int v7), (8, .int v8)] [] w (mX1_takeFrom_192 k34 v0 v1 v2 v3 v4 v5 v6 v7 v8 w) := by
  unfold mX1_takeFrom_192
  refine zS_iinc 195 rfl 8 (_ + (1 : Int32)) dX1_takeFrom_192 rfl (by show 8 < 13; decide) rfl (show _ = [(8, .int _), (0, .ref _), (1, .int _), (2, .int _), (3, .int _), (4, .int _), (5, .int _), (6, .int _), (7, .int _)] from rfl) ?_
  refine zS_goto 34 dX1_takeFrom_195 (by decide) ?_
  refine zS_sub [1, 2, 3, 4, 5, 6, 7, 8, 0] (show _ = [(0, .ref _), (1, .int _), (2, .int _), (3, .int _), (4, .int _), (5, .int _), (6, .int _), (7, .int _), (8, .int _)] from rfl) ?_
  exact hk34 _ _

set_option maxHeartbeats 4000000 in
set_option maxRecDepth 100000 in
theorem sX1_takeFrom_186 (k34 : Int32 × zWd → Option (Unit × zWd)) (k50 : Int32 × zWd → Option (Unit × zWd)) (v0 : Nat) (v1 : Int32) (v2 : Int32) (v3 : Int32) (v4 : Int32) (v5 : Int32) (v6 : Int32) (v7 : Int32) (v8 : Int32) (v9 : Int32) (hk34 : ∀ (v8 : Int32) (w : zWd), zS gX1_takeFrom zEv 34 [(0, .ref v0), (1, .int v1), (2, .int v2), (3, .int v3), (4, .int v4), (5, .int v5), (6, .int v6), (7, .int v7), (8, .int v8)] [] w (k34 (v8, w))) (hk50 : ∀ (v9 : Int32) (w : zWd), zS gX1_takeFrom zEv 50 [(0, .ref v0), (1, .int v1), (2, .int v2), (3, .int v3), (4, .int v4), (5, .int v5), (6, .int v6), (7, .int v7), (8, .int v8), (9, .int v9)] [] w (k50 (v9, w))) (h0 : zShp v0 = (1, 8)) (w : zWd) : zS gX1_takeFrom zEv 186 [(0, .ref v0), (1, .int v1), (2, .int v2), (3, .int v3), (4, .int v4), (5, .int v5), (6, .int v6), (7, .int v7), (8, .int v8), (9, .int v9)] [] w (mX1_takeFrom_186 k34 k50 v0 v1 v2 v3 v4 v5 v6 v7 v8 v9 w) := by
  unfold mX1_takeFrom_186
  refine zS_iinc 189 rfl 9 (_ + (1 : Int32)) dX1_takeFrom_186 rfl (by show 9 < 13; decide) rfl (show _ = [(9, .int _), (0, .ref _), (1, .int _), (2, .int _), (3, .int _), (4, .int _), (5, .int _), (6, .int _), (7, .int _), (8, .int _)] from rfl) ?_
  refine zS_goto 50 dX1_takeFrom_189 (by decide) ?_
  refine zS_sub [1, 2, 3, 4, 5, 6, 7, 8, 9, 0] (show _ = [(0, .ref _), (1, .int _), (2, .int _), (3, .int _), (4, .int _), (5, .int _), (6, .int _), (7, .int _), (8, .int _), (9, .int _)] from rfl) ?_
  exact hk50 _ _

set_option maxHeartbeats 4000000 in
set_option maxRecDepth 100000 in
theorem sX1_takeFrom_180 (k34 : Int32 × zWd → Option (Unit × zWd)) (k50 : Int32 × zWd → Option (Unit × zWd)) (k69 : Int32 × zWd → Option (Unit × zWd)) (v0 : Nat) (v1 : Int32) (v2 : Int32) (v3 : Int32) (v4 : Int32) (v5 : Int32) (v6 : Int32) (v7 : Int32) (v8 : Int32) (v9 : Int32) (v10 : Int32) (hk34 : ∀ (v8 : Int32) (w : zWd), zS gX1_takeFrom zEv 34 [(0, .ref v0), (1, .int v1), (2, .int v2), (3, .int v3), (4, .int v4), (5, .int v5), (6, .int v6), (7, .int v7), (8, .int v8)] [] w (k34 (v8, w))) (hk50 : ∀ (v9 : Int32) (w : zWd), zS gX1_takeFrom zEv 50 [(0, .ref v0), (1, .int v1), (2, .int v2), (3, .int v3), (4, .int v4), (5, .int v5), (6, .int v6), (7, .int v7), (8, .int v8), (9, .int v9)] [] w (k50 (v9, w))) (hk69 : ∀ (v10 : Int32) (w : zWd), zS gX1_takeFrom zEv 69 [(0, .ref v0), (1, .int v1), (2, .int v2), (3, .int v3), (4, .int v4), (5, .int v5), (6, .int v6), (7, .int v7), (8, .int v8), (9, .int v9), (10, .int v10)] [] w (k69 (v10, w))) (h0 : zShp v0 = (1, 8)) (w : zWd) : zS gX1_takeFrom zEv 180 [(0, .ref v0), (1, .int v1), (2, .int v2), (3, .int v3), (4, .int v4), (5, .int v5), (6, .int v6), (7, .int v7), (8, .int v8), (9, .int v9), (10, .int v10)] [] w (mX1_takeFrom_180 k34 k50 k69 v0 v1 v2 v3 v4 v5 v6 v7 v8 v9 v10 w) := by
  unfold mX1_takeFrom_180
  refine zS_iinc 183 rfl 10 (_ + (1 : Int32)) dX1_takeFrom_180 rfl (by show 10 < 13; decide) rfl (show _ = [(10, .int _), (0, .ref _), (1, .int _), (2, .int _), (3, .int _), (4, .int _), (5, .int _), (6, .int _), (7, .int _), (8, .int _), (9, .int _)] from rfl) ?_
  refine zS_goto 69 dX1_takeFrom_183 (by decide) ?_
  refine zS_sub [1, 2, 3, 4, 5, 6, 7, 8, 9, 10, 0] (show _ = [(0, .ref _), (1, .int _), (2, .int _), (3, .int _), (4, .int _), (5, .int _), (6, .int _), (7, .int _), (8, .int _), (9, .int _), (10, .int _)] from rfl) ?_
  exact hk69 _ _

set_option maxHeartbeats 4000000 in
set_option maxRecDepth 100000 in
theorem sX1_takeFrom_69b (k34 : Int32 × zWd → Option (Unit × zWd)) (k50 : Int32 × zWd → Option (Unit × zWd)) (v0 : Nat) (v1 : Int32) (v2 : Int32) (v3 : Int32) (v4 : Int32) (v5 : Int32) (v6 : Int32) (v7 : Int32) (v8 : Int32) (v9 : Int32) (k69 : Int32 × zWd → Option (Unit × zWd)) (v10 : Int32) (hk34 : ∀ (v8 : Int32) (w : zWd), zS gX1_takeFrom zEv 34 [(0, .ref v0), (1, .int v1), (2, .int v2), (3, .int v3), (4, .int v4), (5, .int v5), (6, .int v6), (7, .int v7), (8, .int v8)] [] w (k34 (v8, w))) (hk50 : ∀ (v9 : Int32) (w : zWd), zS gX1_takeFrom zEv 50 [(0, .ref v0), (1, .int v1), (2, .int v2), (3, .int v3), (4, .int v4), (5, .int v5), (6, .int v6), (7, .int v7), (8, .int v8), (9, .int v9)] [] w (k50 (v9, w))) (hk69 : ∀ (v10 : Int32) (w : zWd), zS gX1_takeFrom zEv 69 [(0, .ref v0), (1, .int v1), (2, .int v2), (3, .int v3), (4, .int v4), (5, .int v5), (6, .int v6), (7, .int v7), (8, .int v8), (9, .int v9), (10, .int v10)] [] w (k69 (v10, w))) (h0 : zShp v0 = (1, 8)) (w : zWd) : zS gX1_takeFrom zEv 69 [(0, .ref v0), (1, .int v1), (2, .int v2), (3, .int v3), (4, .int v4), (5, .int v5), (6, .int v6), (7, .int v7), (8, .int v8), (9, .int v9), (10, .int v10)] [] w (mX1_takeFrom_69b k34 k50 v0 v1 v2 v3 v4 v5 v6 v7 v8 v9 k69 v10 w) := by
  unfold mX1_takeFrom_69b
  refine zS_iload 71 rfl 8 rfl dX1_takeFrom_69 ?_
  refine zS_iload 73 rfl 9 rfl dX1_takeFrom_71 ?_
  refine zS_iadd 74 rfl dX1_takeFrom_73 ?_
  refine zS_iload 76 rfl 10 rfl dX1_takeFrom_74 ?_
  refine zS_iadd 77 rfl dX1_takeFrom_76 ?_
  refine zS_iload_n 78 rfl 2 rfl dX1_takeFrom_77 ?_
  refine zS_icmp_gt 186 81 rfl dX1_takeFrom_78 (by decide) ?_ ?_
  · refine zS_sub [0, 1, 2, 3, 4, 5, 6, 7, 8, 9] (show _ = [(0, .ref _), (1, .int _), (2, .int _), (3, .int _), (4, .int _), (5, .int _), (6, .int _), (7, .int _), (8, .int _), (9, .int _)] from rfl) ?_
    exact sX1_takeFrom_186 k34 k50 _ _ _ _ _ _ _ _ _ _ hk34 hk50 h0 _
  · refine zS_iload 83 rfl 10 rfl dX1_takeFrom_81 ?_
    refine zS_iload 85 rfl 6 rfl dX1_takeFrom_83 ?_
    refine zS_icmp_gt 186 88 rfl dX1_takeFrom_85 (by decide) ?_ ?_
    · refine zS_sub [0, 1, 2, 3, 4, 5, 6, 7, 8, 9] (show _ = [(0, .ref _), (1, .int _), (2, .int _), (3, .int _), (4, .int _), (5, .int _), (6, .int _), (7, .int _), (8, .int _), (9, .int _)] from rfl) ?_
      exact sX1_takeFrom_186 k34 k50 _ _ _ _ _ _ _ _ _ _ hk34 hk50 h0 _
    · refine zS_iload_n 89 rfl 2 rfl dX1_takeFrom_88 ?_
      refine zS_iload 91 rfl 8 rfl dX1_takeFrom_89 ?_
      refine zS_isub 92 rfl dX1_takeFrom_91 ?_
      refine zS_iload 94 rfl 9 rfl dX1_takeFrom_92 ?_
      refine zS_isub 95 rfl dX1_takeFrom_94 ?_
      refine zS_iload 97 rfl 10 rfl dX1_takeFrom_95 ?_
      refine zS_isub 98 rfl dX1_takeFrom_97 ?_
      refine zS_bni (fun x5 => ?_)
      refine zS_istore 100 rfl dX1_takeFrom_98 (by show 11 < 13; decide) (show _ = [(11, .int _), (0, .ref _), (1, .int _), (2, .int _), (3, .int _), (4, .int _), (5, .int _), (6, .int _), (7, .int _), (8, .int _), (9, .int _), (10, .int _)] from rfl) ?_
      refine zS_iload 102 rfl 9 rfl dX1_takeFrom_100 ?_
      refine zS_aload_n 103 rfl 1 rfl dX1_takeFrom_102 ?_
      refine zS_getfp 106 rfl 1 dX1_takeFrom_103 zC1 zw418 (by decide) rfl h0 ?_
      refine zS_iconst 107 rfl (0 : Int32) (by decide) dX1_takeFrom_106 ?_
      refine zS_iald 108 rfl dX1_takeFrom_107 (zP1_warm h0) ?_
      refine zS_imul 109 rfl dX1_takeFrom_108 ?_
      refine zS_iload 111 rfl 10 rfl dX1_takeFrom_109 ?_
      refine zS_aload_n 112 rfl 1 rfl dX1_takeFrom_111 ?_
      refine zS_getfp 115 rfl 1 dX1_takeFrom_112 zC1 zw418 (by decide) rfl h0 ?_
      refine zS_iconst 116 rfl (1 : Int32) (by decide) dX1_takeFrom_115 ?_
      refine zS_iald 117 rfl dX1_takeFrom_116 (zP1_warm h0) ?_
      refine zS_imul 118 rfl dX1_takeFrom_117 ?_
      refine zS_iadd 119 rfl dX1_takeFrom_118 ?_
      refine zS_iload 121 rfl 11 rfl dX1_takeFrom_119 ?_
      refine zS_aload_n 122 rfl 1 rfl dX1_takeFrom_121 ?_
      refine zS_getfp 125 rfl 1 dX1_takeFrom_122 zC1 zw418 (by decide) rfl h0 ?_
      refine zS_iconst 126 rfl (2 : Int32) (by decide) dX1_takeFrom_125 ?_
      refine zS_iald 127 rfl dX1_takeFrom_126 (zP1_warm h0) ?_
      refine zS_imul 128 rfl dX1_takeFrom_127 ?_
      refine zS_iadd 129 rfl dX1_takeFrom_128 ?_
      refine zS_iload 131 rfl 0 rfl dX1_takeFrom_129 ?_
      refine zS_aload_n 132 rfl 1 rfl dX1_takeFrom_131 ?_
      refine zS_getfp 135 rfl 1 dX1_takeFrom_132 zC1 zw418 (by decide) rfl h0 ?_
      refine zS_iconst 136 rfl (3 : Int32) (by decide) dX1_takeFrom_135 ?_
      refine zS_iald 137 rfl dX1_takeFrom_136 (zP1_warm h0) ?_
      refine zS_imul 138 rfl dX1_takeFrom_137 ?_
      refine zS_iadd 139 rfl dX1_takeFrom_138 ?_
      refine zS_bni (fun x6 => ?_)
      refine zS_istore 141 rfl dX1_takeFrom_139 (by show 12 < 13; decide) (show _ = [(12, .int _), (11, .int _), (0, .ref _), (1, .int _), (2, .int _), (3, .int _), (4, .int _), (5, .int _), (6, .int _), (7, .int _), (8, .int _), (9, .int _), (10, .int _)] from rfl) ?_
      refine zS_iload 143 rfl 1 rfl dX1_takeFrom_141 ?_
      refine zS_iload 145 rfl 9 rfl dX1_takeFrom_143 ?_
      refine zS_icmp_gt 180 148 rfl dX1_takeFrom_145 (by decide) ?_ ?_
      · refine zS_sub [2, 3, 4, 5, 6, 7, 8, 9, 10, 11, 12] (show _ = [(0, .ref _), (1, .int _), (2, .int _), (3, .int _), (4, .int _), (5, .int _), (6, .int _), (7, .int _), (8, .int _), (9, .int _), (10, .int _)] from rfl) ?_
        exact sX1_takeFrom_180 k34 k50 k69 _ _ _ _ _ _ _ _ _ _ _ hk34 hk50 hk69 h0 _
      · refine zS_iload 150 rfl 0 rfl dX1_takeFrom_148 ?_
        refine zS_iload_n 151 rfl 5 rfl dX1_takeFrom_150 ?_
        refine zS_icmp_lt 180 154 rfl dX1_takeFrom_151 (by decide) ?_ ?_
        · refine zS_sub [2, 3, 4, 5, 6, 7, 8, 9, 10, 11, 12] (show _ = [(0, .ref _), (1, .int _), (2, .int _), (3, .int _), (4, .int _), (5, .int _), (6, .int _), (7, .int _), (8, .int _), (9, .int _), (10, .int _)] from rfl) ?_
          exact sX1_takeFrom_180 k34 k50 k69 _ _ _ _ _ _ _ _ _ _ _ hk34 hk50 hk69 h0 _
        · refine zS_aload_n 155 rfl 2 rfl dX1_takeFrom_154 ?_
          refine zS_iload_n 156 rfl 3 rfl dX1_takeFrom_155 ?_
          refine zS_iload 158 rfl 1 rfl dX1_takeFrom_156 ?_
          refine zS_bipush 160 rfl (7 : Int32) (by decide) dX1_takeFrom_158 ?_
          refine zS_imul 161 rfl dX1_takeFrom_160 ?_
          refine zS_iload 163 rfl 12 rfl dX1_takeFrom_161 ?_
          refine zS_iadd 164 rfl dX1_takeFrom_163 ?_
          refine zS_bipush 166 rfl (7 : Int32) (by decide) dX1_takeFrom_164 ?_
          refine zS_imul 167 rfl dX1_takeFrom_166 ?_
          refine zS_iload 169 rfl 11 rfl dX1_takeFrom_167 ?_
          refine zS_iadd 170 rfl dX1_takeFrom_169 ?_
          refine zS_bipush 172 rfl (7 : Int32) (by decide) dX1_takeFrom_170 ?_
          refine zS_imul 173 rfl dX1_takeFrom_172 ?_
          refine zS_iload 175 rfl 10 rfl dX1_takeFrom_173 ?_
          refine zS_iadd 176 rfl dX1_takeFrom_175 ?_
          refine zS_isub 177 rfl dX1_takeFrom_176 ?_
          refine zS_cVv (as := [.int _]) (st := []) (g' := gX1_keep) 180 rfl (okX1_keep _ _ _ h0) dX1_takeFrom_177 zC1 h0 zw904 cbX1_keep rfl rfl (by decide) (Nat.le_of_ble_eq_true rfl) (fun r7 w8 => ?_)
          refine zS_sub [2, 3, 4, 5, 6, 7, 8, 9, 10, 11, 12] (show _ = [(0, .ref _), (1, .int _), (2, .int _), (3, .int _), (4, .int _), (5, .int _), (6, .int _), (7, .int _), (8, .int _), (9, .int _), (10, .int _)] from rfl) ?_
          exact sX1_takeFrom_180 k34 k50 k69 _ _ _ _ _ _ _ _ _ _ _ hk34 hk50 hk69 h0 _

theorem sX1_takeFrom_69 (k34 : Int32 × zWd → Option (Unit × zWd)) (k50 : Int32 × zWd → Option (Unit × zWd)) (v0 : Nat) (v1 : Int32) (v2 : Int32) (v3 : Int32) (v4 : Int32) (v5 : Int32) (v6 : Int32) (v7 : Int32) (v8 : Int32) (v9 : Int32) (v10 : Int32) (hk34 : ∀ (v8 : Int32) (w : zWd), zS gX1_takeFrom zEv 34 [(0, .ref v0), (1, .int v1), (2, .int v2), (3, .int v3), (4, .int v4), (5, .int v5), (6, .int v6), (7, .int v7), (8, .int v8)] [] w (k34 (v8, w))) (hk50 : ∀ (v9 : Int32) (w : zWd), zS gX1_takeFrom zEv 50 [(0, .ref v0), (1, .int v1), (2, .int v2), (3, .int v3), (4, .int v4), (5, .int v5), (6, .int v6), (7, .int v7), (8, .int v8), (9, .int v9)] [] w (k50 (v9, w))) (h0 : zShp v0 = (1, 8)) (w : zWd) : zS gX1_takeFrom zEv 69 [(0, .ref v0), (1, .int v1), (2, .int v2), (3, .int v3), (4, .int v4), (5, .int v5), (6, .int v6), (7, .int v7), (8, .int v8), (9, .int v9), (10, .int v10)] [] w (mX1_takeFrom_69 k34 k50 v0 v1 v2 v3 v4 v5 v6 v7 v8 v9 v10 w) :=
  zS_loop (L := fun q : Int32 × zWd => [(0, .ref v0), (1, .int v1), (2, .int v2), (3, .int v3), (4, .int v4), (5, .int v5), (6, .int v6), (7, .int v7), (8, .int v8), (9, .int v9), (10, .int q.1)]) (V := fun q => q.2) (T := fun _ => []) (F := fun k q => mX1_takeFrom_69b k34 k50 v0 v1 v2 v3 v4 v5 v6 v7 v8 v9 k q.1 q.2) (fun k hk q => sX1_takeFrom_69b k34 k50 v0 v1 v2 v3 v4 v5 v6 v7 v8 v9 k q.1 hk34 hk50 (fun a10 w => hk (a10, w)) h0 q.2) zFU (v10, w)
set_option maxHeartbeats 4000000 in
set_option maxRecDepth 100000 in
theorem sX1_takeFrom_50b (k34 : Int32 × zWd → Option (Unit × zWd)) (v0 : Nat) (v1 : Int32) (v2 : Int32) (v3 : Int32) (v4 : Int32) (v5 : Int32) (v6 : Int32) (v7 : Int32) (v8 : Int32) (k50 : Int32 × zWd → Option (Unit × zWd)) (v9 : Int32) (hk34 : ∀ (v8 : Int32) (w : zWd), zS gX1_takeFrom zEv 34 [(0, .ref v0), (1, .int v1), (2, .int v2), (3, .int v3), (4, .int v4), (5, .int v5), (6, .int v6), (7, .int v7), (8, .int v8)] [] w (k34 (v8, w))) (hk50 : ∀ (v9 : Int32) (w : zWd), zS gX1_takeFrom zEv 50 [(0, .ref v0), (1, .int v1), (2, .int v2), (3, .int v3), (4, .int v4), (5, .int v5), (6, .int v6), (7, .int v7), (8, .int v8), (9, .int v9)] [] w (k50 (v9, w))) (h0 : zShp v0 = (1, 8)) (w : zWd) : zS gX1_takeFrom zEv 50 [(0, .ref v0), (1, .int v1), (2, .int v2), (3, .int v3), (4, .int v4), (5, .int v5), (6, .int v6), (7, .int v7), (8, .int v8), (9, .int v9)] [] w (mX1_takeFrom_50b k34 v0 v1 v2 v3 v4 v5 v6 v7 v8 k50 v9 w) := by
  unfold mX1_takeFrom_50b
  refine zS_iload 52 rfl 8 rfl dX1_takeFrom_50 ?_
  refine zS_iload 54 rfl 9 rfl dX1_takeFrom_52 ?_
  refine zS_iadd 55 rfl dX1_takeFrom_54 ?_
  refine zS_iload_n 56 rfl 2 rfl dX1_takeFrom_55 ?_
  refine zS_icmp_gt 192 59 rfl dX1_takeFrom_56 (by decide) ?_ ?_
  · refine zS_sub [0, 1, 2, 3, 4, 5, 6, 7, 8] (show _ = [(0, .ref _), (1, .int _), (2, .int _), (3, .int _), (4, .int _), (5, .int _), (6, .int _), (7, .int _), (8, .int _)] from rfl) ?_
    exact sX1_takeFrom_192 k34 _ _ _ _ _ _ _ _ _ hk34 h0 _
  · refine zS_iload 61 rfl 9 rfl dX1_takeFrom_59 ?_
    refine zS_iload 63 rfl 5 rfl dX1_takeFrom_61 ?_
    refine zS_icmp_gt 192 66 rfl dX1_takeFrom_63 (by decide) ?_ ?_
    · refine zS_sub [0, 1, 2, 3, 4, 5, 6, 7, 8] (show _ = [(0, .ref _), (1, .int _), (2, .int _), (3, .int _), (4, .int _), (5, .int _), (6, .int _), (7, .int _), (8, .int _)] from rfl) ?_
      exact sX1_takeFrom_192 k34 _ _ _ _ _ _ _ _ _ hk34 h0 _
    · refine zS_iconst 67 rfl (0 : Int32) (by decide) dX1_takeFrom_66 ?_
      refine zS_istore 69 rfl dX1_takeFrom_67 (by show 10 < 13; decide) (show _ = [(10, .int _), (0, .ref _), (1, .int _), (2, .int _), (3, .int _), (4, .int _), (5, .int _), (6, .int _), (7, .int _), (8, .int _), (9, .int _)] from rfl) ?_
      refine zS_sub [1, 2, 3, 4, 5, 6, 7, 8, 9, 10, 0] (show _ = [(0, .ref _), (1, .int _), (2, .int _), (3, .int _), (4, .int _), (5, .int _), (6, .int _), (7, .int _), (8, .int _), (9, .int _), (10, .int _)] from rfl) ?_
      exact sX1_takeFrom_69 k34 k50 _ _ _ _ _ _ _ _ _ _ _ hk34 hk50 h0 _

theorem sX1_takeFrom_50 (k34 : Int32 × zWd → Option (Unit × zWd)) (v0 : Nat) (v1 : Int32) (v2 : Int32) (v3 : Int32) (v4 : Int32) (v5 : Int32) (v6 : Int32) (v7 : Int32) (v8 : Int32) (v9 : Int32) (hk34 : ∀ (v8 : Int32) (w : zWd), zS gX1_takeFrom zEv 34 [(0, .ref v0), (1, .int v1), (2, .int v2), (3, .int v3), (4, .int v4), (5, .int v5), (6, .int v6), (7, .int v7), (8, .int v8)] [] w (k34 (v8, w))) (h0 : zShp v0 = (1, 8)) (w : zWd) : zS gX1_takeFrom zEv 50 [(0, .ref v0), (1, .int v1), (2, .int v2), (3, .int v3), (4, .int v4), (5, .int v5), (6, .int v6), (7, .int v7), (8, .int v8), (9, .int v9)] [] w (mX1_takeFrom_50 k34 v0 v1 v2 v3 v4 v5 v6 v7 v8 v9 w) :=
  zS_loop (L := fun q : Int32 × zWd => [(0, .ref v0), (1, .int v1), (2, .int v2), (3, .int v3), (4, .int v4), (5, .int v5), (6, .int v6), (7, .int v7), (8, .int v8), (9, .int q.1)]) (V := fun q => q.2) (T := fun _ => []) (F := fun k q => mX1_takeFrom_50b k34 v0 v1 v2 v3 v4 v5 v6 v7 v8 k q.1 q.2) (fun k hk q => sX1_takeFrom_50b k34 v0 v1 v2 v3 v4 v5 v6 v7 v8 k q.1 hk34 (fun a9 w => hk (a9, w)) h0 q.2) zFU (v9, w)
set_option maxHeartbeats 4000000 in
set_option maxRecDepth 100000 in
theorem sX1_takeFrom_34b (v0 : Nat) (v1 : Int32) (v2 : Int32) (v3 : Int32) (v4 : Int32) (v5 : Int32) (v6 : Int32) (v7 : Int32) (k34 : Int32 × zWd → Option (Unit × zWd)) (v8 : Int32) (hk34 : ∀ (v8 : Int32) (w : zWd), zS gX1_takeFrom zEv 34 [(0, .ref v0), (1, .int v1), (2, .int v2), (3, .int v3), (4, .int v4), (5, .int v5), (6, .int v6), (7, .int v7), (8, .int v8)] [] w (k34 (v8, w))) (h0 : zShp v0 = (1, 8)) (w : zWd) : zS gX1_takeFrom zEv 34 [(0, .ref v0), (1, .int v1), (2, .int v2), (3, .int v3), (4, .int v4), (5, .int v5), (6, .int v6), (7, .int v7), (8, .int v8)] [] w (mX1_takeFrom_34b v0 v1 v2 v3 v4 v5 v6 v7 k34 v8 w) := by
  unfold mX1_takeFrom_34b
  refine zS_iload 36 rfl 8 rfl dX1_takeFrom_34 ?_
  refine zS_iload_n 37 rfl 2 rfl dX1_takeFrom_36 ?_
  refine zS_icmp_gt 198 40 rfl dX1_takeFrom_37 (by decide) ?_ ?_
  · refine zS_sub [] (show _ = [] from rfl) ?_
    exact sX1_takeFrom_198 _
  · refine zS_iload 42 rfl 8 rfl dX1_takeFrom_40 ?_
    refine zS_iload 44 rfl 4 rfl dX1_takeFrom_42 ?_
    refine zS_icmp_gt 198 47 rfl dX1_takeFrom_44 (by decide) ?_ ?_
    · refine zS_sub [] (show _ = [] from rfl) ?_
      exact sX1_takeFrom_198 _
    · refine zS_iconst 48 rfl (0 : Int32) (by decide) dX1_takeFrom_47 ?_
      refine zS_istore 50 rfl dX1_takeFrom_48 (by show 9 < 13; decide) (show _ = [(9, .int _), (0, .ref _), (1, .int _), (2, .int _), (3, .int _), (4, .int _), (5, .int _), (6, .int _), (7, .int _), (8, .int _)] from rfl) ?_
      refine zS_sub [1, 2, 3, 4, 5, 6, 7, 8, 9, 0] (show _ = [(0, .ref _), (1, .int _), (2, .int _), (3, .int _), (4, .int _), (5, .int _), (6, .int _), (7, .int _), (8, .int _), (9, .int _)] from rfl) ?_
      exact sX1_takeFrom_50 k34 _ _ _ _ _ _ _ _ _ _ hk34 h0 _

theorem sX1_takeFrom_34 (v0 : Nat) (v1 : Int32) (v2 : Int32) (v3 : Int32) (v4 : Int32) (v5 : Int32) (v6 : Int32) (v7 : Int32) (v8 : Int32) (h0 : zShp v0 = (1, 8)) (w : zWd) : zS gX1_takeFrom zEv 34 [(0, .ref v0), (1, .int v1), (2, .int v2), (3, .int v3), (4, .int v4), (5, .int v5), (6, .int v6), (7, .int v7), (8, .int v8)] [] w (mX1_takeFrom_34 v0 v1 v2 v3 v4 v5 v6 v7 v8 w) :=
  zS_loop (L := fun q : Int32 × zWd => [(0, .ref v0), (1, .int v1), (2, .int v2), (3, .int v3), (4, .int v4), (5, .int v5), (6, .int v6), (7, .int v7), (8, .int q.1)]) (V := fun q => q.2) (T := fun _ => []) (F := fun k q => mX1_takeFrom_34b v0 v1 v2 v3 v4 v5 v6 v7 k q.1 q.2) (fun k hk q => sX1_takeFrom_34b v0 v1 v2 v3 v4 v5 v6 v7 k q.1 (fun a8 w => hk (a8, w)) h0 q.2) zFU (v8, w)
set_option maxHeartbeats 4000000 in
set_option maxRecDepth 100000 in
theorem sX1_takeFrom (v0 : Nat) (v1 : Int32) (v2 : Int32) (v3 : Int32) (h0 : zShp v0 = (1, 8)) (w : zWd) : zS gX1_takeFrom zEv 0 [(0, .ref v0), (1, .int v1), (2, .int v2), (3, .int v3)] [] w (mX1_takeFrom v0 v1 v2 v3 w) := by
  unfold mX1_takeFrom
  refine zS_iload_n 1 rfl 1 rfl dX1_takeFrom_0 ?_
  refine zS_bipush 3 rfl (7 : Int32) (by decide) dX1_takeFrom_1 ?_
  refine zS_iremC 4 rfl dX1_takeFrom_3 (by decide) ?_
  refine zS_bni (fun x1 => ?_)
  refine zS_istore 6 rfl dX1_takeFrom_4 (by show 4 < 13; decide) (show _ = [(4, .int _), (0, .ref _), (1, .int _), (2, .int _), (3, .int _)] from rfl) ?_
  refine zS_iload_n 7 rfl 2 rfl dX1_takeFrom_6 ?_
  refine zS_bipush 9 rfl (7 : Int32) (by decide) dX1_takeFrom_7 ?_
  refine zS_idivC 10 rfl dX1_takeFrom_9 (by decide) ?_
  refine zS_bipush 12 rfl (7 : Int32) (by decide) dX1_takeFrom_10 ?_
  refine zS_iremC 13 rfl dX1_takeFrom_12 (by decide) ?_
  refine zS_bni (fun x2 => ?_)
  refine zS_istore 15 rfl dX1_takeFrom_13 (by show 5 < 13; decide) (show _ = [(5, .int _), (4, .int _), (0, .ref _), (1, .int _), (2, .int _), (3, .int _)] from rfl) ?_
  refine zS_iload_n 16 rfl 3 rfl dX1_takeFrom_15 ?_
  refine zS_bipush 18 rfl (49 : Int32) (by decide) dX1_takeFrom_16 ?_
  refine zS_idivC 19 rfl dX1_takeFrom_18 (by decide) ?_
  refine zS_bipush 21 rfl (7 : Int32) (by decide) dX1_takeFrom_19 ?_
  refine zS_iremC 22 rfl dX1_takeFrom_21 (by decide) ?_
  refine zS_bni (fun x3 => ?_)
  refine zS_istore 24 rfl dX1_takeFrom_22 (by show 6 < 13; decide) (show _ = [(6, .int _), (5, .int _), (4, .int _), (0, .ref _), (1, .int _), (2, .int _), (3, .int _)] from rfl) ?_
  refine zS_iload_n 25 rfl 4 rfl dX1_takeFrom_24 ?_
  refine zS_sipush 28 rfl (343 : Int32) (by decide) dX1_takeFrom_25 ?_
  refine zS_idivC 29 rfl dX1_takeFrom_28 (by decide) ?_
  refine zS_bni (fun x4 => ?_)
  refine zS_istore 31 rfl dX1_takeFrom_29 (by show 7 < 13; decide) (show _ = [(7, .int _), (6, .int _), (5, .int _), (4, .int _), (0, .ref _), (1, .int _), (2, .int _), (3, .int _)] from rfl) ?_
  refine zS_iconst 32 rfl (0 : Int32) (by decide) dX1_takeFrom_31 ?_
  refine zS_istore 34 rfl dX1_takeFrom_32 (by show 8 < 13; decide) (show _ = [(8, .int _), (7, .int _), (6, .int _), (5, .int _), (4, .int _), (0, .ref _), (1, .int _), (2, .int _), (3, .int _)] from rfl) ?_
  refine zS_sub [5, 6, 7, 8, 4, 3, 2, 1, 0] (show _ = [(0, .ref _), (1, .int _), (2, .int _), (3, .int _), (4, .int _), (5, .int _), (6, .int _), (7, .int _), (8, .int _)] from rfl) ?_
  exact sX1_takeFrom_34 _ _ _ _ _ _ _ _ _ h0 _

theorem okX1_takeFrom (v0 : Nat) (v1 : Int32) (v2 : Int32) (v3 : Int32) (w : zWd) (h0 : zShp v0 = (1, 8)) : zOk gX1_takeFrom zEv [.ref v0, .int v1, .int v2, .int v3] w (mX1_takeFrom v0 v1 v2 v3 w) := zOk_of (by decide) rfl (Nat.le_of_ble_eq_true rfl) (sX1_takeFrom v0 v1 v2 v3 h0 w)
abbrev gX1_canAdd : zMth := (yX1_canAdd, cX1_canAdd, 4, (some .boolean), 4, zE0)
theorem cbX1_canAdd : zCbV yX1_canAdd cX1_canAdd 4 (some .boolean) 2 := ⟨zw898, zw27, zw87, zw899, by decide, by decide, by decide +kernel⟩
set_option maxHeartbeats 4000000 in
set_option maxRecDepth 100000 in
theorem sX1_canAdd_17b (v0 : Nat) (v1 : Int32) (v2 : Int32) (k17 : Int32 × zWd → Option (Int32 × zWd)) (v3 : Int32) (hk17 : ∀ (v3 : Int32) (w : zWd), zS gX1_canAdd zEi 17 [(0, .ref v0), (1, .int v1), (2, .int v2), (3, .int v3)] [] w (k17 (v3, w))) (h0 : zShp v0 = (1, 8)) (w : zWd) : zS gX1_canAdd zEi 17 [(0, .ref v0), (1, .int v1), (2, .int v2), (3, .int v3)] [] w (mX1_canAdd_17b v0 v1 v2 k17 v3 w) := by
  unfold mX1_canAdd_17b
  refine zS_iload_n 18 rfl 3 rfl dX1_canAdd_17 ?_
  refine zS_aload_n 19 rfl 0 rfl dX1_canAdd_18 ?_
  refine zS_getfi 22 rfl 4 dX1_canAdd_19 zC1 zw421 (by decide) rfl h0 ?_
  refine zS_icmp_ge 45 25 rfl dX1_canAdd_22 (by decide) ?_ ?_
  · refine zS_aload_n 46 rfl 0 rfl dX1_canAdd_45 ?_
    refine zS_getfi 49 rfl 5 dX1_canAdd_46 zC1 zw422 (by decide) rfl h0 ?_
    refine zS_if_ne 54 52 rfl dX1_canAdd_49 (by decide) ?_ ?_
    · refine zS_iconst 53 rfl (0 : Int32) (by decide) dX1_canAdd_52 ?_
      exact zS_retb dX1_canAdd_53 rfl
    · refine zS_aload_n 55 rfl 0 rfl dX1_canAdd_54 ?_
      refine zS_getfd 58 rfl 2 dX1_canAdd_55 zC1 zw419 (by decide) rfl h0 ?_
      refine zS_gd (fun g3 => ?_)
      refine zS_astore_n 59 rfl dX1_canAdd_58 (by show 3 < 4; decide) (show _ = [(3, .ref _), (0, .ref _), (1, .int _), (2, .int _)] from rfl) ?_
      refine zS_aload_n 60 rfl 1 rfl dX1_canAdd_59 ?_
      refine zS_aload_n 61 rfl 1 rfl dX1_canAdd_60 ?_
      refine zS_getfd 64 rfl 3 dX1_canAdd_61 zC1 zw420 (by decide) rfl h0 ?_
      refine zS_gd (fun g4 => ?_)
      refine zS_putfd (n := "") 67 rfl 2 dX1_canAdd_64 zC1 zw419 (by decide) rfl rfl (Or.inr rfl) (zNe0 g4 (by decide)) (zShp_lt g4 (by decide)) h0 ?_
      refine zS_bnw (fun w5 => ?_)
      refine zS_aload_n 68 rfl 1 rfl dX1_canAdd_67 ?_
      refine zS_aload_n 69 rfl 0 rfl dX1_canAdd_68 ?_
      refine zS_putfd (n := "") 72 rfl 3 dX1_canAdd_69 zC1 zw420 (by decide) rfl rfl (Or.inr rfl) (zNe0 g3 (by decide)) (zShp_lt g3 (by decide)) h0 ?_
      refine zS_bnw (fun w6 => ?_)
      refine zS_aload_n 73 rfl 1 rfl dX1_canAdd_72 ?_
      refine zS_aload_n 74 rfl 1 rfl dX1_canAdd_73 ?_
      refine zS_getfi 77 rfl 5 dX1_canAdd_74 zC1 zw422 (by decide) rfl h0 ?_
      refine zS_putfi 80 rfl 4 dX1_canAdd_77 zC1 zw421 (by decide) rfl rfl rfl h0 ?_
      refine zS_bnw (fun w7 => ?_)
      refine zS_iconst 81 rfl (1 : Int32) (by decide) dX1_canAdd_80 ?_
      exact zS_retb dX1_canAdd_81 rfl
  · refine zS_aload_n 26 rfl 0 rfl dX1_canAdd_25 ?_
    refine zS_aload_n 27 rfl 0 rfl dX1_canAdd_26 ?_
    refine zS_getfd 30 rfl 2 dX1_canAdd_27 zC1 zw419 (by decide) rfl h0 ?_
    refine zS_gd (fun g8 => ?_)
    refine zS_iload_n 31 rfl 3 rfl dX1_canAdd_30 ?_
    refine zS_iald 32 rfl dX1_canAdd_31 g8 ?_
    refine zS_iload_n 33 rfl 1 rfl dX1_canAdd_32 ?_
    refine zS_iload_n 34 rfl 1 rfl dX1_canAdd_33 ?_
    refine zS_iload_n 35 rfl 2 rfl dX1_canAdd_34 ?_
    refine zS_imul 36 rfl dX1_canAdd_35 ?_
    refine zS_cVv (as := [.int _, .int _, .int _]) (st := []) (g' := gX1_takeFrom) 39 rfl (okX1_takeFrom _ _ _ _ _ h0) dX1_canAdd_36 zC1 h0 zw900 cbX1_takeFrom rfl rfl (by decide) (Nat.le_of_ble_eq_true rfl) (fun r9 w10 => ?_)
    refine zS_iinc 42 rfl 3 (_ + (1 : Int32)) dX1_canAdd_39 rfl (by show 3 < 4; decide) rfl (show _ = [(3, .int _), (0, .ref _), (1, .int _), (2, .int _)] from rfl) ?_
    refine zS_goto 17 dX1_canAdd_42 (by decide) ?_
    refine zS_sub [1, 2, 3, 0] (show _ = [(0, .ref _), (1, .int _), (2, .int _), (3, .int _)] from rfl) ?_
    exact hk17 _ _

theorem sX1_canAdd_17 (v0 : Nat) (v1 : Int32) (v2 : Int32) (v3 : Int32) (h0 : zShp v0 = (1, 8)) (w : zWd) : zS gX1_canAdd zEi 17 [(0, .ref v0), (1, .int v1), (2, .int v2), (3, .int v3)] [] w (mX1_canAdd_17 v0 v1 v2 v3 w) :=
  zS_loop (L := fun q : Int32 × zWd => [(0, .ref v0), (1, .int v1), (2, .int v2), (3, .int q.1)]) (V := fun q => q.2) (T := fun _ => []) (F := fun k q => mX1_canAdd_17b v0 v1 v2 k q.1 q.2) (fun k hk q => sX1_canAdd_17b v0 v1 v2 k q.1 (fun a3 w => hk (a3, w)) h0 q.2) zFU (v3, w)
set_option maxHeartbeats 4000000 in
set_option maxRecDepth 100000 in
theorem sX1_canAdd (v0 : Nat) (v1 : Int32) (v2 : Int32) (h0 : zShp v0 = (1, 8)) (w : zWd) : zS gX1_canAdd zEi 0 [(0, .ref v0), (1, .int v1), (2, .int v2)] [] w (mX1_canAdd v0 v1 v2 w) := by
  unfold mX1_canAdd
  refine zS_aload_n 1 rfl 0 rfl dX1_canAdd_0 ?_
  refine zS_dup 2 rfl rfl dX1_canAdd_1 ?_
  refine zS_getfi 5 rfl 7 dX1_canAdd_2 zC1 zw424 (by decide) rfl h0 ?_
  refine zS_iconst 6 rfl (1 : Int32) (by decide) dX1_canAdd_5 ?_
  refine zS_iadd 7 rfl dX1_canAdd_6 ?_
  refine zS_putfi 10 rfl 7 dX1_canAdd_7 zC1 zw424 (by decide) rfl rfl rfl h0 ?_
  refine zS_bnw (fun w1 => ?_)
  refine zS_aload_n 11 rfl 0 rfl dX1_canAdd_10 ?_
  refine zS_iconst 12 rfl (0 : Int32) (by decide) dX1_canAdd_11 ?_
  refine zS_putfi 15 rfl 5 dX1_canAdd_12 zC1 zw422 (by decide) rfl rfl rfl h0 ?_
  refine zS_bnw (fun w2 => ?_)
  refine zS_iconst 16 rfl (0 : Int32) (by decide) dX1_canAdd_15 ?_
  refine zS_istore_n 17 rfl dX1_canAdd_16 (by show 3 < 4; decide) (show _ = [(3, .int _), (0, .ref _), (1, .int _), (2, .int _)] from rfl) ?_
  refine zS_sub [1, 2, 3, 0] (show _ = [(0, .ref _), (1, .int _), (2, .int _), (3, .int _)] from rfl) ?_
  exact sX1_canAdd_17 _ _ _ _ h0 _

theorem okX1_canAdd (v0 : Nat) (v1 : Int32) (v2 : Int32) (w : zWd) (h0 : zShp v0 = (1, 8)) : zOk gX1_canAdd zEi [.ref v0, .int v1, .int v2] w (mX1_canAdd v0 v1 v2 w) := zOk_of (by decide) rfl (Nat.le_of_ble_eq_true rfl) (sX1_canAdd v0 v1 v2 h0 w)
abbrev gX1_serve : zMth := (yX1_serve, cX1_serve, 6, (some .int), 5, zE0)
theorem cbX1_serve : zCbV yX1_serve cX1_serve 6 (some .int) 2 := ⟨zw892, zw893, zw87, zw894, by decide, by decide, by decide +kernel⟩
set_option maxHeartbeats 4000000 in
set_option maxRecDepth 100000 in
theorem sX1_serve_97 (k52 : Int32 × Int32 × zWd → Option (Int32 × zWd)) (v0 : Nat) (v1 : Nat) (v2 : Nat) (v3 : Int32) (v4 : Int32) (hk52 : ∀ (v3 : Int32) (v4 : Int32) (w : zWd), zS gX1_serve zEi 52 [(0, .ref v0), (1, .ref v1), (2, .ref v2), (3, .int v3), (4, .int v4)] [] w (k52 (v3, v4, w))) (h0 : zShp v0 = (1, 8)) (h1 : zShp v1 = (5, 3)) (h2 : zShp v2 = (8, 13)) (w : zWd) : zS gX1_serve zEi 97 [(0, .ref v0), (1, .ref v1), (2, .ref v2), (3, .int v3), (4, .int v4)] [] w (mX1_serve_97 k52 v0 v1 v2 v3 v4 w) := by
  unfold mX1_serve_97
  refine zS_iinc 100 rfl 4 (_ + (1 : Int32)) dX1_serve_97 rfl (by show 4 < 6; decide) rfl (show _ = [(4, .int _), (0, .ref _), (1, .ref _), (2, .ref _), (3, .int _)] from rfl) ?_
  refine zS_goto 52 dX1_serve_100 (by decide) ?_
  refine zS_sub [1, 2, 3, 4, 0] (show _ = [(0, .ref _), (1, .ref _), (2, .ref _), (3, .int _), (4, .int _)] from rfl) ?_
  exact hk52 _ _ _

set_option maxHeartbeats 4000000 in
set_option maxRecDepth 100000 in
theorem sX1_serve_52b (v0 : Nat) (v1 : Nat) (v2 : Nat) (k52 : Int32 × Int32 × zWd → Option (Int32 × zWd)) (v3 : Int32) (v4 : Int32) (hk52 : ∀ (v3 : Int32) (v4 : Int32) (w : zWd), zS gX1_serve zEi 52 [(0, .ref v0), (1, .ref v1), (2, .ref v2), (3, .int v3), (4, .int v4)] [] w (k52 (v3, v4, w))) (h0 : zShp v0 = (1, 8)) (h1 : zShp v1 = (5, 3)) (h2 : zShp v2 = (8, 13)) (w : zWd) : zS gX1_serve zEi 52 [(0, .ref v0), (1, .ref v1), (2, .ref v2), (3, .int v3), (4, .int v4)] [] w (mX1_serve_52b v0 v1 v2 k52 v3 v4 w) := by
  unfold mX1_serve_52b
  refine zS_iload 54 rfl 4 rfl dX1_serve_52 ?_
  refine zS_aload_n 55 rfl 1 rfl dX1_serve_54 ?_
  refine zS_getfi 58 rfl 0 dX1_serve_55 zC5 zw397 (by decide) rfl h1 ?_
  refine zS_icmp_ge 103 61 rfl dX1_serve_58 (by decide) ?_ ?_
  · refine zS_iload_n 104 rfl 3 rfl dX1_serve_103 ?_
    exact zS_reti dX1_serve_104 rfl
  · refine zS_aload_n 62 rfl 1 rfl dX1_serve_61 ?_
    refine zS_getfp 65 rfl 2 dX1_serve_62 zC5 zw402 (by decide) rfl h1 ?_
    refine zS_iload 67 rfl 4 rfl dX1_serve_65 ?_
    refine zS_iald 68 rfl dX1_serve_67 (zP5_order h1) ?_
    refine zS_bni (fun x4 => ?_)
    refine zS_istore 70 rfl dX1_serve_68 (by show 5 < 6; decide) (show _ = [(5, .int _), (0, .ref _), (1, .ref _), (2, .ref _), (3, .int _), (4, .int _)] from rfl) ?_
    refine zS_aload_n 71 rfl 1 rfl dX1_serve_70 ?_
    refine zS_aload_n 72 rfl 3 rfl dX1_serve_71 ?_
    refine zS_getfp 75 rfl 3 dX1_serve_72 zC8 zw246 (by decide) rfl h2 ?_
    refine zS_iload 77 rfl 0 rfl dX1_serve_75 ?_
    refine zS_iald 78 rfl dX1_serve_77 (zP8_gallons h2) ?_
    refine zS_aload_n 79 rfl 3 rfl dX1_serve_78 ?_
    refine zS_iload 81 rfl 0 rfl dX1_serve_79 ?_
    refine zS_cVi (as := [.int _]) (st := [.int _, .ref _]) (g' := gX8_needs) 84 rfl (okX8_needs _ _ _ h2) dX1_serve_81 zC8 h2 zw895 cbX8_needs rfl rfl (by decide) (Nat.le_of_ble_eq_true rfl) (fun r5 w6 => ?_)
    refine zS_cVi (as := [.int _, .int _]) (st := []) (g' := gX1_canAdd) 87 rfl (okX1_canAdd _ _ _ _ h0) dX1_serve_84 zC1 h0 zw896 cbX1_canAdd rfl rfl (by decide) (Nat.le_of_ble_eq_true rfl) (fun r7 w8 => ?_)
    refine zS_if_eq 97 90 rfl dX1_serve_87 (by decide) ?_ ?_
    · refine zS_sub [1, 2, 3, 4, 5] (show _ = [(0, .ref _), (1, .ref _), (2, .ref _), (3, .int _), (4, .int _)] from rfl) ?_
      exact sX1_serve_97 k52 _ _ _ _ _ hk52 h0 h1 h2 _
    · refine zS_iload_n 91 rfl 4 rfl dX1_serve_90 ?_
      refine zS_iconst 92 rfl (1 : Int32) (by decide) dX1_serve_91 ?_
      refine zS_iload 94 rfl 0 rfl dX1_serve_92 ?_
      refine zS_ishl 95 rfl dX1_serve_94 ?_
      refine zS_ior 96 rfl dX1_serve_95 ?_
      refine zS_bni (fun x9 => ?_)
      refine zS_istore_n 97 rfl dX1_serve_96 (by show 3 < 6; decide) (show _ = [(3, .int _), (5, .int _), (0, .ref _), (1, .ref _), (2, .ref _), (4, .int _)] from rfl) ?_
      refine zS_sub [2, 3, 4, 0, 5] (show _ = [(0, .ref _), (1, .ref _), (2, .ref _), (3, .int _), (4, .int _)] from rfl) ?_
      exact sX1_serve_97 k52 _ _ _ _ _ hk52 h0 h1 h2 _

theorem sX1_serve_52 (v0 : Nat) (v1 : Nat) (v2 : Nat) (v3 : Int32) (v4 : Int32) (h0 : zShp v0 = (1, 8)) (h1 : zShp v1 = (5, 3)) (h2 : zShp v2 = (8, 13)) (w : zWd) : zS gX1_serve zEi 52 [(0, .ref v0), (1, .ref v1), (2, .ref v2), (3, .int v3), (4, .int v4)] [] w (mX1_serve_52 v0 v1 v2 v3 v4 w) :=
  zS_loop (L := fun q : Int32 × Int32 × zWd => [(0, .ref v0), (1, .ref v1), (2, .ref v2), (3, .int q.1), (4, .int q.2.1)]) (V := fun q => q.2.2) (T := fun _ => []) (F := fun k q => mX1_serve_52b v0 v1 v2 k q.1 q.2.1 q.2.2) (fun k hk q => sX1_serve_52b v0 v1 v2 k q.1 q.2.1 (fun a3 a4 w => hk (a3, a4, w)) h0 h1 h2 q.2.2) zFU (v3, v4, w)
set_option maxHeartbeats 4000000 in
set_option maxRecDepth 100000 in
theorem sX1_serve (v0 : Nat) (v1 : Nat) (v2 : Nat) (h0 : zShp v0 = (1, 8)) (h1 : zShp v1 = (5, 3)) (h2 : zShp v2 = (8, 13)) (w : zWd) : zS gX1_serve zEi 0 [(0, .ref v0), (1, .ref v1), (2, .ref v2)] [] w (mX1_serve v0 v1 v2 w) := by
  unfold mX1_serve
  refine zS_aload_n 1 rfl 0 rfl dX1_serve_0 ?_
  refine zS_getfd 4 rfl 2 dX1_serve_1 zC1 zw419 (by decide) rfl h0 ?_
  refine zS_gd (fun g1 => ?_)
  refine zS_iconst 5 rfl (0 : Int32) (by decide) dX1_serve_4 ?_
  refine zS_aload_n 6 rfl 0 rfl dX1_serve_5 ?_
  refine zS_getfp 9 rfl 0 dX1_serve_6 zC1 zw417 (by decide) rfl h0 ?_
  refine zS_iconst 10 rfl (3 : Int32) (by decide) dX1_serve_9 ?_
  refine zS_iald 11 rfl dX1_serve_10 (zP1_tens h0) ?_
  refine zS_bipush 13 rfl (7 : Int32) (by decide) dX1_serve_11 ?_
  refine zS_imul 14 rfl dX1_serve_13 ?_
  refine zS_aload_n 15 rfl 0 rfl dX1_serve_14 ?_
  refine zS_getfp 18 rfl 0 dX1_serve_15 zC1 zw417 (by decide) rfl h0 ?_
  refine zS_iconst 19 rfl (2 : Int32) (by decide) dX1_serve_18 ?_
  refine zS_iald 20 rfl dX1_serve_19 (zP1_tens h0) ?_
  refine zS_iadd 21 rfl dX1_serve_20 ?_
  refine zS_bipush 23 rfl (7 : Int32) (by decide) dX1_serve_21 ?_
  refine zS_imul 24 rfl dX1_serve_23 ?_
  refine zS_aload_n 25 rfl 0 rfl dX1_serve_24 ?_
  refine zS_getfp 28 rfl 0 dX1_serve_25 zC1 zw417 (by decide) rfl h0 ?_
  refine zS_iconst 29 rfl (1 : Int32) (by decide) dX1_serve_28 ?_
  refine zS_iald 30 rfl dX1_serve_29 (zP1_tens h0) ?_
  refine zS_iadd 31 rfl dX1_serve_30 ?_
  refine zS_bipush 33 rfl (7 : Int32) (by decide) dX1_serve_31 ?_
  refine zS_imul 34 rfl dX1_serve_33 ?_
  refine zS_aload_n 35 rfl 0 rfl dX1_serve_34 ?_
  refine zS_getfp 38 rfl 0 dX1_serve_35 zC1 zw417 (by decide) rfl h0 ?_
  refine zS_iconst 39 rfl (0 : Int32) (by decide) dX1_serve_38 ?_
  refine zS_iald 40 rfl dX1_serve_39 (zP1_tens h0) ?_
  refine zS_iadd 41 rfl dX1_serve_40 ?_
  refine zS_iast 42 rfl dX1_serve_41 g1 ?_
  refine zS_bnw (fun w2 => ?_)
  refine zS_aload_n 43 rfl 0 rfl dX1_serve_42 ?_
  refine zS_iconst 44 rfl (1 : Int32) (by decide) dX1_serve_43 ?_
  refine zS_putfi 47 rfl 4 dX1_serve_44 zC1 zw421 (by decide) rfl rfl rfl h0 ?_
  refine zS_bnw (fun w3 => ?_)
  refine zS_iconst 48 rfl (0 : Int32) (by decide) dX1_serve_47 ?_
  refine zS_istore_n 49 rfl dX1_serve_48 (by show 3 < 6; decide) (show _ = [(3, .int _), (0, .ref _), (1, .ref _), (2, .ref _)] from rfl) ?_
  refine zS_iconst 50 rfl (0 : Int32) (by decide) dX1_serve_49 ?_
  refine zS_istore 52 rfl dX1_serve_50 (by show 4 < 6; decide) (show _ = [(4, .int _), (3, .int _), (0, .ref _), (1, .ref _), (2, .ref _)] from rfl) ?_
  refine zS_sub [2, 3, 4, 1, 0] (show _ = [(0, .ref _), (1, .ref _), (2, .ref _), (3, .int _), (4, .int _)] from rfl) ?_
  exact sX1_serve_52 _ _ _ _ _ h0 h1 h2 _

theorem okX1_serve (v0 : Nat) (v1 : Nat) (v2 : Nat) (w : zWd) (h0 : zShp v0 = (1, 8)) (h1 : zShp v1 = (5, 3)) (h2 : zShp v2 = (8, 13)) : zOk gX1_serve zEi [.ref v0, .ref v1, .ref v2] w (mX1_serve v0 v1 v2 w) := zOk_of (by decide) rfl (Nat.le_of_ble_eq_true rfl) (sX1_serve v0 v1 v2 h0 h1 h2 w)
abbrev gX2_copyFrom : zMth := (yX2_copyFrom, cX2_copyFrom, 2, none, 1, zE0)
theorem cbX2_copyFrom : zCbV yX2_copyFrom cX2_copyFrom 2 none 1 := ⟨zw1081, zw1082, zw82, zw1083, by decide, by decide, by decide +kernel⟩
set_option maxHeartbeats 4000000 in
set_option maxRecDepth 100000 in
theorem sX2_copyFrom (v0 : Nat) (v1 : Nat) (h0 : zShp v0 = (2, 8)) (h1 : zShp v1 = (2, 8)) (w : zWd) : zS gX2_copyFrom zEv 0 [(0, .ref v0), (1, .ref v1)] [] w (mX2_copyFrom v0 v1 w) := by
  unfold mX2_copyFrom
  refine zS_aload_n 1 rfl 0 rfl dX2_copyFrom_0 ?_
  refine zS_aload_n 2 rfl 1 rfl dX2_copyFrom_1 ?_
  refine zS_getfi 5 rfl 0 dX2_copyFrom_2 zC2 zw194 (by decide) rfl h1 ?_
  refine zS_putfi 8 rfl 0 dX2_copyFrom_5 zC2 zw194 (by decide) rfl rfl rfl h0 ?_
  refine zS_bnw (fun w1 => ?_)
  refine zS_aload_n 9 rfl 0 rfl dX2_copyFrom_8 ?_
  refine zS_aload_n 10 rfl 1 rfl dX2_copyFrom_9 ?_
  refine zS_getfi 13 rfl 1 dX2_copyFrom_10 zC2 zw196 (by decide) rfl h1 ?_
  refine zS_putfi 16 rfl 1 dX2_copyFrom_13 zC2 zw196 (by decide) rfl rfl rfl h0 ?_
  refine zS_bnw (fun w2 => ?_)
  refine zS_aload_n 17 rfl 1 rfl dX2_copyFrom_16 ?_
  refine zS_getfp 20 rfl 2 dX2_copyFrom_17 zC2 zw197 (by decide) rfl h1 ?_
  refine zS_iconst 21 rfl (0 : Int32) (by decide) dX2_copyFrom_20 ?_
  refine zS_aload_n 22 rfl 0 rfl dX2_copyFrom_21 ?_
  refine zS_getfp 25 rfl 2 dX2_copyFrom_22 zC2 zw197 (by decide) rfl h0 ?_
  refine zS_iconst 26 rfl (0 : Int32) (by decide) dX2_copyFrom_25 ?_
  refine zS_bipush 28 rfl (8 : Int32) (by decide) dX2_copyFrom_26 ?_
  refine zS_copy 31 rfl dX2_copyFrom_28 zw1084 zw611 zw610 zw91 (zP2_word h1) (zP2_word h0) (by decide) (Nat.le_of_ble_eq_true rfl) zNfw ?_
  refine zS_bnw (fun w3 => ?_)
  refine zS_aload_n 32 rfl 1 rfl dX2_copyFrom_31 ?_
  refine zS_getfp 35 rfl 3 dX2_copyFrom_32 zC2 zw198 (by decide) rfl h1 ?_
  refine zS_iconst 36 rfl (0 : Int32) (by decide) dX2_copyFrom_35 ?_
  refine zS_aload_n 37 rfl 0 rfl dX2_copyFrom_36 ?_
  refine zS_getfp 40 rfl 3 dX2_copyFrom_37 zC2 zw198 (by decide) rfl h0 ?_
  refine zS_iconst 41 rfl (0 : Int32) (by decide) dX2_copyFrom_40 ?_
  refine zS_bipush 43 rfl (8 : Int32) (by decide) dX2_copyFrom_41 ?_
  refine zS_copy 46 rfl dX2_copyFrom_43 zw1084 zw611 zw610 zw91 (zP2_number h1) (zP2_number h0) (by decide) (Nat.le_of_ble_eq_true rfl) zNfw ?_
  refine zS_bnw (fun w4 => ?_)
  refine zS_aload_n 47 rfl 1 rfl dX2_copyFrom_46 ?_
  refine zS_getfp 50 rfl 4 dX2_copyFrom_47 zC2 zw200 (by decide) rfl h1 ?_
  refine zS_iconst 51 rfl (0 : Int32) (by decide) dX2_copyFrom_50 ?_
  refine zS_aload_n 52 rfl 0 rfl dX2_copyFrom_51 ?_
  refine zS_getfp 55 rfl 4 dX2_copyFrom_52 zC2 zw200 (by decide) rfl h0 ?_
  refine zS_iconst 56 rfl (0 : Int32) (by decide) dX2_copyFrom_55 ?_
  refine zS_bipush 58 rfl (8 : Int32) (by decide) dX2_copyFrom_56 ?_
  refine zS_copy 61 rfl dX2_copyFrom_58 zw1084 zw611 zw610 zw91 (zP2_first h1) (zP2_first h0) (by decide) (Nat.le_of_ble_eq_true rfl) zNfw ?_
  refine zS_bnw (fun w5 => ?_)
  refine zS_aload_n 62 rfl 1 rfl dX2_copyFrom_61 ?_
  refine zS_getfp 65 rfl 5 dX2_copyFrom_62 zC2 zw201 (by decide) rfl h1 ?_
  refine zS_iconst 66 rfl (0 : Int32) (by decide) dX2_copyFrom_65 ?_
  refine zS_aload_n 67 rfl 0 rfl dX2_copyFrom_66 ?_
  refine zS_getfp 70 rfl 5 dX2_copyFrom_67 zC2 zw201 (by decide) rfl h0 ?_
  refine zS_iconst 71 rfl (0 : Int32) (by decide) dX2_copyFrom_70 ?_
  refine zS_bipush 73 rfl (8 : Int32) (by decide) dX2_copyFrom_71 ?_
  refine zS_copy 76 rfl dX2_copyFrom_73 zw1084 zw611 zw610 zw91 (zP2_end h1) (zP2_end h0) (by decide) (Nat.le_of_ble_eq_true rfl) zNfw ?_
  refine zS_bnw (fun w6 => ?_)
  refine zS_aload_n 77 rfl 0 rfl dX2_copyFrom_76 ?_
  refine zS_aload_n 78 rfl 1 rfl dX2_copyFrom_77 ?_
  refine zS_getfi 81 rfl 6 dX2_copyFrom_78 zC2 zw203 (by decide) rfl h1 ?_
  refine zS_putfi 84 rfl 6 dX2_copyFrom_81 zC2 zw203 (by decide) rfl rfl rfl h0 ?_
  refine zS_bnw (fun w7 => ?_)
  refine zS_aload_n 85 rfl 1 rfl dX2_copyFrom_84 ?_
  refine zS_getfp 88 rfl 7 dX2_copyFrom_85 zC2 zw204 (by decide) rfl h1 ?_
  refine zS_iconst 89 rfl (0 : Int32) (by decide) dX2_copyFrom_88 ?_
  refine zS_aload_n 90 rfl 0 rfl dX2_copyFrom_89 ?_
  refine zS_getfp 93 rfl 7 dX2_copyFrom_90 zC2 zw204 (by decide) rfl h0 ?_
  refine zS_iconst 94 rfl (0 : Int32) (by decide) dX2_copyFrom_93 ?_
  refine zS_bipush 96 rfl (120 : Int32) (by decide) dX2_copyFrom_94 ?_
  refine zS_copy 99 rfl dX2_copyFrom_96 zw1084 zw611 zw610 zw91 (zP2_steps h1) (zP2_steps h0) (by decide) (Nat.le_of_ble_eq_true rfl) zNfw ?_
  refine zS_bnw (fun w8 => ?_)
  exact zS_retv dX2_copyFrom_99 rfl

theorem okX2_copyFrom (v0 : Nat) (v1 : Nat) (w : zWd) (h0 : zShp v0 = (2, 8)) (h1 : zShp v1 = (2, 8)) : zOk gX2_copyFrom zEv [.ref v0, .ref v1] w (mX2_copyFrom v0 v1 w) := zOk_of (by decide) rfl (Nat.le_of_ble_eq_true rfl) (sX2_copyFrom v0 v1 h0 h1 w)
abbrev gX2_clear : zMth := (yX2_clear, cX2_clear, 2, none, 1, zE0)
theorem cbX2_clear : zCbV yX2_clear cX2_clear 2 none 1 := ⟨zw657, zw658, zw82, zw659, by decide, by decide, by decide +kernel⟩
set_option maxHeartbeats 4000000 in
set_option maxRecDepth 100000 in
theorem sX2_clear (v0 : Nat) (v1 : Int32) (h0 : zShp v0 = (2, 8)) (w : zWd) : zS gX2_clear zEv 0 [(0, .ref v0), (1, .int v1)] [] w (mX2_clear v0 v1 w) := by
  unfold mX2_clear
  refine zS_aload_n 1 rfl 0 rfl dX2_clear_0 ?_
  refine zS_iload_n 2 rfl 1 rfl dX2_clear_1 ?_
  refine zS_putfi 5 rfl 0 dX2_clear_2 zC2 zw194 (by decide) rfl rfl rfl h0 ?_
  refine zS_bnw (fun w1 => ?_)
  refine zS_aload_n 6 rfl 0 rfl dX2_clear_5 ?_
  refine zS_iconst 7 rfl (0 : Int32) (by decide) dX2_clear_6 ?_
  refine zS_putfi 10 rfl 1 dX2_clear_7 zC2 zw196 (by decide) rfl rfl rfl h0 ?_
  refine zS_bnw (fun w2 => ?_)
  refine zS_aload_n 11 rfl 0 rfl dX2_clear_10 ?_
  refine zS_iconst 12 rfl (0 : Int32) (by decide) dX2_clear_11 ?_
  refine zS_putfi 15 rfl 6 dX2_clear_12 zC2 zw203 (by decide) rfl rfl rfl h0 ?_
  refine zS_bnw (fun w3 => ?_)
  exact zS_retv dX2_clear_15 rfl

theorem okX2_clear (v0 : Nat) (v1 : Int32) (w : zWd) (h0 : zShp v0 = (2, 8)) : zOk gX2_clear zEv [.ref v0, .int v1] w (mX2_clear v0 v1 w) := zOk_of (by decide) rfl (Nat.le_of_ble_eq_true rfl) (sX2_clear v0 v1 h0 w)
abbrev gX2_addStep : zMth := (yX2_addStep, cX2_addStep, 3, none, 1, zE0)
theorem cbX2_addStep : zCbV yX2_addStep cX2_addStep 3 none 2 := ⟨zw759, zw760, zw82, zw761, by decide, by decide, by decide +kernel⟩
set_option maxHeartbeats 4000000 in
set_option maxRecDepth 100000 in
theorem sX2_addStep_35 (w : zWd) : zS gX2_addStep zEv 35 [] [] w (mX2_addStep_35 w) := by
  unfold mX2_addStep_35
  exact zS_retv dX2_addStep_35 rfl

set_option maxHeartbeats 4000000 in
set_option maxRecDepth 100000 in
theorem sX2_addStep (v0 : Nat) (v1 : Int32) (v2 : Int32) (h0 : zShp v0 = (2, 8)) (w : zWd) : zS gX2_addStep zEv 0 [(0, .ref v0), (1, .int v1), (2, .int v2)] [] w (mX2_addStep v0 v1 v2 w) := by
  unfold mX2_addStep
  refine zS_aload_n 1 rfl 0 rfl dX2_addStep_0 ?_
  refine zS_getfi 4 rfl 6 dX2_addStep_1 zC2 zw203 (by decide) rfl h0 ?_
  refine zS_bipush 6 rfl (120 : Int32) (by decide) dX2_addStep_4 ?_
  refine zS_icmp_ge 35 9 rfl dX2_addStep_6 (by decide) ?_ ?_
  · refine zS_sub [] (show _ = [] from rfl) ?_
    exact sX2_addStep_35 _
  · refine zS_aload_n 10 rfl 0 rfl dX2_addStep_9 ?_
    refine zS_getfp 13 rfl 7 dX2_addStep_10 zC2 zw204 (by decide) rfl h0 ?_
    refine zS_aload_n 14 rfl 0 rfl dX2_addStep_13 ?_
    refine zS_getfi 17 rfl 6 dX2_addStep_14 zC2 zw203 (by decide) rfl h0 ?_
    refine zS_iload_n 18 rfl 1 rfl dX2_addStep_17 ?_
    refine zS_sipush 21 rfl (1000 : Int32) (by decide) dX2_addStep_18 ?_
    refine zS_imul 22 rfl dX2_addStep_21 ?_
    refine zS_iload_n 23 rfl 2 rfl dX2_addStep_22 ?_
    refine zS_iadd 24 rfl dX2_addStep_23 ?_
    refine zS_iast 25 rfl dX2_addStep_24 (zP2_steps h0) ?_
    refine zS_bnw (fun w1 => ?_)
    refine zS_aload_n 26 rfl 0 rfl dX2_addStep_25 ?_
    refine zS_dup 27 rfl rfl dX2_addStep_26 ?_
    refine zS_getfi 30 rfl 6 dX2_addStep_27 zC2 zw203 (by decide) rfl h0 ?_
    refine zS_iconst 31 rfl (1 : Int32) (by decide) dX2_addStep_30 ?_
    refine zS_iadd 32 rfl dX2_addStep_31 ?_
    refine zS_putfi 35 rfl 6 dX2_addStep_32 zC2 zw203 (by decide) rfl rfl rfl h0 ?_
    refine zS_bnw (fun w2 => ?_)
    refine zS_sub [] (show _ = [] from rfl) ?_
    exact sX2_addStep_35 _

theorem okX2_addStep (v0 : Nat) (v1 : Int32) (v2 : Int32) (w : zWd) (h0 : zShp v0 = (2, 8)) : zOk gX2_addStep zEv [.ref v0, .int v1, .int v2] w (mX2_addStep v0 v1 v2 w) := zOk_of (by decide) rfl (Nat.le_of_ble_eq_true rfl) (sX2_addStep v0 v1 v2 h0 w)
abbrev gX2_addClause : zMth := (yX2_addClause, cX2_addClause, 4, none, 1, zE0)
theorem cbX2_addClause : zCbV yX2_addClause cX2_addClause 4 none 3 := ⟨zw763, zw764, zw82, zw765, by decide, by decide, by decide +kernel⟩
set_option maxHeartbeats 4000000 in
set_option maxRecDepth 100000 in
theorem sX2_addClause_62 (w : zWd) : zS gX2_addClause zEv 62 [] [] w (mX2_addClause_62 w) := by
  unfold mX2_addClause_62
  exact zS_retv dX2_addClause_62 rfl

set_option maxHeartbeats 4000000 in
set_option maxRecDepth 100000 in
theorem sX2_addClause (v0 : Nat) (v1 : Int32) (v2 : Int32) (v3 : Int32) (h0 : zShp v0 = (2, 8)) (w : zWd) : zS gX2_addClause zEv 0 [(0, .ref v0), (1, .int v1), (2, .int v2), (3, .int v3)] [] w (mX2_addClause v0 v1 v2 v3 w) := by
  unfold mX2_addClause
  refine zS_aload_n 1 rfl 0 rfl dX2_addClause_0 ?_
  refine zS_getfi 4 rfl 1 dX2_addClause_1 zC2 zw196 (by decide) rfl h0 ?_
  refine zS_bipush 6 rfl (8 : Int32) (by decide) dX2_addClause_4 ?_
  refine zS_icmp_ge 62 9 rfl dX2_addClause_6 (by decide) ?_ ?_
  · refine zS_sub [] (show _ = [] from rfl) ?_
    exact sX2_addClause_62 _
  · refine zS_aload_n 10 rfl 0 rfl dX2_addClause_9 ?_
    refine zS_getfp 13 rfl 2 dX2_addClause_10 zC2 zw197 (by decide) rfl h0 ?_
    refine zS_aload_n 14 rfl 0 rfl dX2_addClause_13 ?_
    refine zS_getfi 17 rfl 1 dX2_addClause_14 zC2 zw196 (by decide) rfl h0 ?_
    refine zS_iload_n 18 rfl 1 rfl dX2_addClause_17 ?_
    refine zS_iast 19 rfl dX2_addClause_18 (zP2_word h0) ?_
    refine zS_bnw (fun w1 => ?_)
    refine zS_aload_n 20 rfl 0 rfl dX2_addClause_19 ?_
    refine zS_getfp 23 rfl 3 dX2_addClause_20 zC2 zw198 (by decide) rfl h0 ?_
    refine zS_aload_n 24 rfl 0 rfl dX2_addClause_23 ?_
    refine zS_getfi 27 rfl 1 dX2_addClause_24 zC2 zw196 (by decide) rfl h0 ?_
    refine zS_iload_n 28 rfl 2 rfl dX2_addClause_27 ?_
    refine zS_iast 29 rfl dX2_addClause_28 (zP2_number h0) ?_
    refine zS_bnw (fun w2 => ?_)
    refine zS_aload_n 30 rfl 0 rfl dX2_addClause_29 ?_
    refine zS_getfp 33 rfl 4 dX2_addClause_30 zC2 zw200 (by decide) rfl h0 ?_
    refine zS_aload_n 34 rfl 0 rfl dX2_addClause_33 ?_
    refine zS_getfi 37 rfl 1 dX2_addClause_34 zC2 zw196 (by decide) rfl h0 ?_
    refine zS_iload_n 38 rfl 3 rfl dX2_addClause_37 ?_
    refine zS_iast 39 rfl dX2_addClause_38 (zP2_first h0) ?_
    refine zS_bnw (fun w3 => ?_)
    refine zS_aload_n 40 rfl 0 rfl dX2_addClause_39 ?_
    refine zS_getfp 43 rfl 5 dX2_addClause_40 zC2 zw201 (by decide) rfl h0 ?_
    refine zS_aload_n 44 rfl 0 rfl dX2_addClause_43 ?_
    refine zS_getfi 47 rfl 1 dX2_addClause_44 zC2 zw196 (by decide) rfl h0 ?_
    refine zS_aload_n 48 rfl 0 rfl dX2_addClause_47 ?_
    refine zS_getfi 51 rfl 6 dX2_addClause_48 zC2 zw203 (by decide) rfl h0 ?_
    refine zS_iast 52 rfl dX2_addClause_51 (zP2_end h0) ?_
    refine zS_bnw (fun w4 => ?_)
    refine zS_aload_n 53 rfl 0 rfl dX2_addClause_52 ?_
    refine zS_dup 54 rfl rfl dX2_addClause_53 ?_
    refine zS_getfi 57 rfl 1 dX2_addClause_54 zC2 zw196 (by decide) rfl h0 ?_
    refine zS_iconst 58 rfl (1 : Int32) (by decide) dX2_addClause_57 ?_
    refine zS_iadd 59 rfl dX2_addClause_58 ?_
    refine zS_putfi 62 rfl 1 dX2_addClause_59 zC2 zw196 (by decide) rfl rfl rfl h0 ?_
    refine zS_bnw (fun w5 => ?_)
    refine zS_sub [] (show _ = [] from rfl) ?_
    exact sX2_addClause_62 _

theorem okX2_addClause (v0 : Nat) (v1 : Int32) (v2 : Int32) (v3 : Int32) (w : zWd) (h0 : zShp v0 = (2, 8)) : zOk gX2_addClause zEv [.ref v0, .int v1, .int v2, .int v3] w (mX2_addClause v0 v1 v2 v3 w) := zOk_of (by decide) rfl (Nat.le_of_ble_eq_true rfl) (sX2_addClause v0 v1 v2 v3 h0 w)
abbrev gX2_isSo : zMth := (yX2_isSo, cX2_isSo, 4, (some .boolean), 1, zE0)
theorem cbX2_isSo : zCbS yX2_isSo cX2_isSo 4 (some .boolean) 4 := ⟨zw545, zw82, zw546, by decide, by decide, by decide +kernel⟩
set_option maxHeartbeats 4000000 in
set_option maxRecDepth 100000 in
theorem sX2_isSo_59 (s0 : Int32) (w : zWd) : zS gX2_isSo zEi 59 [] [.int s0] w (mX2_isSo_59 s0 w) := by
  unfold mX2_isSo_59
  exact zS_retb dX2_isSo_59 rfl

set_option maxHeartbeats 4000000 in
set_option maxRecDepth 100000 in
theorem sX2_isSo_75 (s0 : Int32) (w : zWd) : zS gX2_isSo zEi 75 [] [.int s0] w (mX2_isSo_75 s0 w) := by
  unfold mX2_isSo_75
  exact zS_retb dX2_isSo_75 rfl

set_option maxHeartbeats 4000000 in
set_option maxRecDepth 100000 in
theorem sX2_isSo_91 (s0 : Int32) (w : zWd) : zS gX2_isSo zEi 91 [] [.int s0] w (mX2_isSo_91 s0 w) := by
  unfold mX2_isSo_91
  exact zS_retb dX2_isSo_91 rfl

set_option maxHeartbeats 4000000 in
set_option maxRecDepth 100000 in
theorem sX2_isSo_107 (s0 : Int32) (w : zWd) : zS gX2_isSo zEi 107 [] [.int s0] w (mX2_isSo_107 s0 w) := by
  unfold mX2_isSo_107
  exact zS_retb dX2_isSo_107 rfl

set_option maxHeartbeats 4000000 in
set_option maxRecDepth 100000 in
theorem sX2_isSo_123 (s0 : Int32) (w : zWd) : zS gX2_isSo zEi 123 [] [.int s0] w (mX2_isSo_123 s0 w) := by
  unfold mX2_isSo_123
  exact zS_retb dX2_isSo_123 rfl

set_option maxHeartbeats 4000000 in
set_option maxRecDepth 100000 in
theorem sX2_isSo_139 (s0 : Int32) (w : zWd) : zS gX2_isSo zEi 139 [] [.int s0] w (mX2_isSo_139 s0 w) := by
  unfold mX2_isSo_139
  exact zS_retb dX2_isSo_139 rfl

set_option maxHeartbeats 4000000 in
set_option maxRecDepth 100000 in
theorem sX2_isSo_155 (s0 : Int32) (w : zWd) : zS gX2_isSo zEi 155 [] [.int s0] w (mX2_isSo_155 s0 w) := by
  unfold mX2_isSo_155
  exact zS_retb dX2_isSo_155 rfl

set_option maxHeartbeats 4000000 in
set_option maxRecDepth 100000 in
theorem sX2_isSo_171 (s0 : Int32) (w : zWd) : zS gX2_isSo zEi 171 [] [.int s0] w (mX2_isSo_171 s0 w) := by
  unfold mX2_isSo_171
  exact zS_retb dX2_isSo_171 rfl

set_option maxHeartbeats 4000000 in
set_option maxRecDepth 100000 in
theorem sX2_isSo (v0 : Int32) (v1 : Int32) (v2 : Nat) (v3 : Int32) (h2 : zShp v2 = (8, 13)) (w : zWd) : zS gX2_isSo zEi 0 [(0, .int v0), (1, .int v1), (2, .ref v2), (3, .int v3)] [] w (mX2_isSo v0 v1 v2 v3 w) := by
  unfold mX2_isSo
  refine zS_iload_n 1 rfl 0 rfl dX2_isSo_0 ?_
  refine zS_tsw (lo := 0) ?_
  refine zSw_in (c0 := (0 : Int32)) 0 44 dX2_isSo_1 (by decide) (by decide) rfl (by decide) ?_ ?_
  · refine zS_aload_n 45 rfl 2 rfl dX2_isSo_44 ?_
    refine zS_getfp 48 rfl 1 dX2_isSo_45 zC8 zw241 (by decide) rfl h2 ?_
    refine zS_iload_n 49 rfl 3 rfl dX2_isSo_48 ?_
    refine zS_iald 50 rfl dX2_isSo_49 (zP8_kind h2) ?_
    refine zS_iload_n 51 rfl 1 rfl dX2_isSo_50 ?_
    refine zS_icmp_ne 58 54 rfl dX2_isSo_51 (by decide) ?_ ?_
    · refine zS_iconst 55 rfl (1 : Int32) (by decide) dX2_isSo_54 ?_
      refine zS_goto 59 dX2_isSo_55 (by decide) ?_
      refine zS_sub [] (show _ = [] from rfl) ?_
      exact sX2_isSo_59 _ _
    · refine zS_iconst 59 rfl (0 : Int32) (by decide) dX2_isSo_58 ?_
      refine zS_sub [] (show _ = [] from rfl) ?_
      exact sX2_isSo_59 _ _
  refine zSw_in (c0 := (1 : Int32)) 1 60 dX2_isSo_1 (by decide) (by decide) rfl (by decide) ?_ ?_
  · refine zS_aload_n 61 rfl 2 rfl dX2_isSo_60 ?_
    refine zS_getfp 64 rfl 2 dX2_isSo_61 zC8 zw244 (by decide) rfl h2 ?_
    refine zS_iload_n 65 rfl 3 rfl dX2_isSo_64 ?_
    refine zS_iald 66 rfl dX2_isSo_65 (zP8_tap h2) ?_
    refine zS_iload_n 67 rfl 1 rfl dX2_isSo_66 ?_
    refine zS_icmp_ne 74 70 rfl dX2_isSo_67 (by decide) ?_ ?_
    · refine zS_iconst 71 rfl (1 : Int32) (by decide) dX2_isSo_70 ?_
      refine zS_goto 75 dX2_isSo_71 (by decide) ?_
      refine zS_sub [] (show _ = [] from rfl) ?_
      exact sX2_isSo_75 _ _
    · refine zS_iconst 75 rfl (0 : Int32) (by decide) dX2_isSo_74 ?_
      refine zS_sub [] (show _ = [] from rfl) ?_
      exact sX2_isSo_75 _ _
  refine zSw_in (c0 := (2 : Int32)) 2 76 dX2_isSo_1 (by decide) (by decide) rfl (by decide) ?_ ?_
  · refine zS_aload_n 77 rfl 2 rfl dX2_isSo_76 ?_
    refine zS_getfp 80 rfl 3 dX2_isSo_77 zC8 zw247 (by decide) rfl h2 ?_
    refine zS_iload_n 81 rfl 3 rfl dX2_isSo_80 ?_
    refine zS_iald 82 rfl dX2_isSo_81 (zP8_gallons h2) ?_
    refine zS_iload_n 83 rfl 1 rfl dX2_isSo_82 ?_
    refine zS_icmp_ge 90 86 rfl dX2_isSo_83 (by decide) ?_ ?_
    · refine zS_iconst 91 rfl (0 : Int32) (by decide) dX2_isSo_90 ?_
      refine zS_sub [] (show _ = [] from rfl) ?_
      exact sX2_isSo_91 _ _
    · refine zS_iconst 87 rfl (1 : Int32) (by decide) dX2_isSo_86 ?_
      refine zS_goto 91 dX2_isSo_87 (by decide) ?_
      refine zS_sub [] (show _ = [] from rfl) ?_
      exact sX2_isSo_91 _ _
  refine zSw_in (c0 := (3 : Int32)) 3 92 dX2_isSo_1 (by decide) (by decide) rfl (by decide) ?_ ?_
  · refine zS_aload_n 93 rfl 2 rfl dX2_isSo_92 ?_
    refine zS_getfp 96 rfl 3 dX2_isSo_93 zC8 zw247 (by decide) rfl h2 ?_
    refine zS_iload_n 97 rfl 3 rfl dX2_isSo_96 ?_
    refine zS_iald 98 rfl dX2_isSo_97 (zP8_gallons h2) ?_
    refine zS_iload_n 99 rfl 1 rfl dX2_isSo_98 ?_
    refine zS_icmp_le 106 102 rfl dX2_isSo_99 (by decide) ?_ ?_
    · refine zS_iconst 107 rfl (0 : Int32) (by decide) dX2_isSo_106 ?_
      refine zS_sub [] (show _ = [] from rfl) ?_
      exact sX2_isSo_107 _ _
    · refine zS_iconst 103 rfl (1 : Int32) (by decide) dX2_isSo_102 ?_
      refine zS_goto 107 dX2_isSo_103 (by decide) ?_
      refine zS_sub [] (show _ = [] from rfl) ?_
      exact sX2_isSo_107 _ _
  refine zSw_in (c0 := (4 : Int32)) 4 108 dX2_isSo_1 (by decide) (by decide) rfl (by decide) ?_ ?_
  · refine zS_aload_n 109 rfl 2 rfl dX2_isSo_108 ?_
    refine zS_getfp 112 rfl 5 dX2_isSo_109 zC8 zw253 (by decide) rfl h2 ?_
    refine zS_iload_n 113 rfl 3 rfl dX2_isSo_112 ?_
    refine zS_iald 114 rfl dX2_isSo_113 (zP8_since h2) ?_
    refine zS_iload_n 115 rfl 1 rfl dX2_isSo_114 ?_
    refine zS_icmp_ge 122 118 rfl dX2_isSo_115 (by decide) ?_ ?_
    · refine zS_iconst 123 rfl (0 : Int32) (by decide) dX2_isSo_122 ?_
      refine zS_sub [] (show _ = [] from rfl) ?_
      exact sX2_isSo_123 _ _
    · refine zS_iconst 119 rfl (1 : Int32) (by decide) dX2_isSo_118 ?_
      refine zS_goto 123 dX2_isSo_119 (by decide) ?_
      refine zS_sub [] (show _ = [] from rfl) ?_
      exact sX2_isSo_123 _ _
  refine zSw_in (c0 := (5 : Int32)) 5 124 dX2_isSo_1 (by decide) (by decide) rfl (by decide) ?_ ?_
  · refine zS_aload_n 125 rfl 2 rfl dX2_isSo_124 ?_
    refine zS_getfp 128 rfl 5 dX2_isSo_125 zC8 zw253 (by decide) rfl h2 ?_
    refine zS_iload_n 129 rfl 3 rfl dX2_isSo_128 ?_
    refine zS_iald 130 rfl dX2_isSo_129 (zP8_since h2) ?_
    refine zS_iload_n 131 rfl 1 rfl dX2_isSo_130 ?_
    refine zS_icmp_le 138 134 rfl dX2_isSo_131 (by decide) ?_ ?_
    · refine zS_iconst 139 rfl (0 : Int32) (by decide) dX2_isSo_138 ?_
      refine zS_sub [] (show _ = [] from rfl) ?_
      exact sX2_isSo_139 _ _
    · refine zS_iconst 135 rfl (1 : Int32) (by decide) dX2_isSo_134 ?_
      refine zS_goto 139 dX2_isSo_135 (by decide) ?_
      refine zS_sub [] (show _ = [] from rfl) ?_
      exact sX2_isSo_139 _ _
  refine zSw_in (c0 := (6 : Int32)) 6 140 dX2_isSo_1 (by decide) (by decide) rfl (by decide) ?_ ?_
  · refine zS_aload_n 141 rfl 2 rfl dX2_isSo_140 ?_
    refine zS_getfp 144 rfl 4 dX2_isSo_141 zC8 zw250 (by decide) rfl h2 ?_
    refine zS_iload_n 145 rfl 3 rfl dX2_isSo_144 ?_
    refine zS_iald 146 rfl dX2_isSo_145 (zP8_heat h2) ?_
    refine zS_iload_n 147 rfl 1 rfl dX2_isSo_146 ?_
    refine zS_icmp_ge 154 150 rfl dX2_isSo_147 (by decide) ?_ ?_
    · refine zS_iconst 155 rfl (0 : Int32) (by decide) dX2_isSo_154 ?_
      refine zS_sub [] (show _ = [] from rfl) ?_
      exact sX2_isSo_155 _ _
    · refine zS_iconst 151 rfl (1 : Int32) (by decide) dX2_isSo_150 ?_
      refine zS_goto 155 dX2_isSo_151 (by decide) ?_
      refine zS_sub [] (show _ = [] from rfl) ?_
      exact sX2_isSo_155 _ _
  refine zSw_out 156 dX2_isSo_1 (by decide) (by decide) ?_
  · refine zS_aload_n 157 rfl 2 rfl dX2_isSo_156 ?_
    refine zS_getfp 160 rfl 4 dX2_isSo_157 zC8 zw250 (by decide) rfl h2 ?_
    refine zS_iload_n 161 rfl 3 rfl dX2_isSo_160 ?_
    refine zS_iald 162 rfl dX2_isSo_161 (zP8_heat h2) ?_
    refine zS_iload_n 163 rfl 1 rfl dX2_isSo_162 ?_
    refine zS_icmp_le 170 166 rfl dX2_isSo_163 (by decide) ?_ ?_
    · refine zS_iconst 171 rfl (0 : Int32) (by decide) dX2_isSo_170 ?_
      refine zS_sub [] (show _ = [] from rfl) ?_
      exact sX2_isSo_171 _ _
    · refine zS_iconst 167 rfl (1 : Int32) (by decide) dX2_isSo_166 ?_
      refine zS_goto 171 dX2_isSo_167 (by decide) ?_
      refine zS_sub [] (show _ = [] from rfl) ?_
      exact sX2_isSo_171 _ _

theorem okX2_isSo (v0 : Int32) (v1 : Int32) (v2 : Nat) (v3 : Int32) (w : zWd) (h2 : zShp v2 = (8, 13)) : zOk gX2_isSo zEi [.int v0, .int v1, .ref v2, .int v3] w (mX2_isSo v0 v1 v2 v3 w) := zOk_of (by decide) rfl (Nat.le_of_ble_eq_true rfl) (sX2_isSo v0 v1 v2 v3 h2 w)
abbrev gX2_holds : zMth := (yX2_holds, cX2_holds, 7, (some .boolean), 2, zE0)
theorem cbX2_holds : zCbV yX2_holds cX2_holds 7 (some .boolean) 3 := ⟨zw542, zw1, zw82, zw543, by decide, by decide, by decide +kernel⟩
set_option maxHeartbeats 4000000 in
set_option maxRecDepth 100000 in
theorem sX2_holds_152 (s0 : Int32) (w : zWd) : zS gX2_holds zEi 152 [] [.int s0] w (mX2_holds_152 s0 w) := by
  unfold mX2_holds_152
  exact zS_retb dX2_holds_152 rfl

set_option maxHeartbeats 4000000 in
set_option maxRecDepth 100000 in
theorem sX2_holds_140 (v4 : Int32) (w : zWd) : zS gX2_holds zEi 140 [(4, .int v4)] [] w (mX2_holds_140 v4 w) := by
  unfold mX2_holds_140
  refine zS_iload 142 rfl 0 rfl dX2_holds_140 ?_
  refine zS_iconst 143 rfl (1 : Int32) (by decide) dX2_holds_142 ?_
  refine zS_iand 144 rfl dX2_holds_143 ?_
  refine zS_if_eq 151 147 rfl dX2_holds_144 (by decide) ?_ ?_
  · refine zS_iconst 152 rfl (0 : Int32) (by decide) dX2_holds_151 ?_
    refine zS_sub [] (show _ = [] from rfl) ?_
    exact sX2_holds_152 _ _
  · refine zS_iconst 148 rfl (1 : Int32) (by decide) dX2_holds_147 ?_
    refine zS_goto 152 dX2_holds_148 (by decide) ?_
    refine zS_sub [] (show _ = [] from rfl) ?_
    exact sX2_holds_152 _ _

set_option maxHeartbeats 4000000 in
set_option maxRecDepth 100000 in
theorem sX2_holds_134 (k11 : Int32 × Int32 × zWd → Option (Int32 × zWd)) (v0 : Nat) (v1 : Int32) (v2 : Nat) (v3 : Int32) (v4 : Int32) (v5 : Int32) (hk11 : ∀ (v4 : Int32) (v5 : Int32) (w : zWd), zS gX2_holds zEi 11 [(0, .ref v0), (1, .int v1), (2, .ref v2), (3, .int v3), (4, .int v4), (5, .int v5)] [] w (k11 (v4, v5, w))) (h0 : zShp v0 = (2, 8)) (h2 : zShp v2 = (8, 13)) (w : zWd) : zS gX2_holds zEi 134 [(0, .ref v0), (1, .int v1), (2, .ref v2), (3, .int v3), (4, .int v4), (5, .int v5)] [] w (mX2_holds_134 k11 v0 v1 v2 v3 v4 v5 w) := by
  unfold mX2_holds_134
  refine zS_iinc 137 rfl 5 (_ + (1 : Int32)) dX2_holds_134 rfl (by show 5 < 7; decide) rfl (show _ = [(5, .int _), (0, .ref _), (1, .int _), (2, .ref _), (3, .int _), (4, .int _)] from rfl) ?_
  refine zS_goto 11 dX2_holds_137 (by decide) ?_
  refine zS_sub [1, 2, 3, 4, 5, 0] (show _ = [(0, .ref _), (1, .int _), (2, .ref _), (3, .int _), (4, .int _), (5, .int _)] from rfl) ?_
  exact hk11 _ _ _

set_option maxHeartbeats 4000000 in
set_option maxRecDepth 100000 in
theorem sX2_holds_131 (k11 : Int32 × Int32 × zWd → Option (Int32 × zWd)) (v0 : Nat) (v1 : Int32) (v2 : Nat) (v3 : Int32) (v5 : Int32) (s0 : Int32) (s1 : Int32) (hk11 : ∀ (v4 : Int32) (v5 : Int32) (w : zWd), zS gX2_holds zEi 11 [(0, .ref v0), (1, .int v1), (2, .ref v2), (3, .int v3), (4, .int v4), (5, .int v5)] [] w (k11 (v4, v5, w))) (h0 : zShp v0 = (2, 8)) (h2 : zShp v2 = (8, 13)) (w : zWd) : zS gX2_holds zEi 131 [(0, .ref v0), (1, .int v1), (2, .ref v2), (3, .int v3), (5, .int v5)] [.int s0, .int s1] w (mX2_holds_131 k11 v0 v1 v2 v3 v5 s0 s1 w) := by
  unfold mX2_holds_131
  refine zS_ior 132 rfl dX2_holds_131 ?_
  refine zS_bni (fun x8 => ?_)
  refine zS_istore 134 rfl dX2_holds_132 (by show 4 < 7; decide) (show _ = [(4, .int _), (0, .ref _), (1, .int _), (2, .ref _), (3, .int _), (5, .int _)] from rfl) ?_
  refine zS_sub [1, 2, 3, 4, 0, 5] (show _ = [(0, .ref _), (1, .int _), (2, .ref _), (3, .int _), (4, .int _), (5, .int _)] from rfl) ?_
  exact sX2_holds_134 k11 _ _ _ _ _ _ hk11 h0 h2 _

set_option maxHeartbeats 4000000 in
set_option maxRecDepth 100000 in
theorem sX2_holds_11b (v0 : Nat) (v1 : Int32) (v2 : Nat) (v3 : Int32) (k11 : Int32 × Int32 × zWd → Option (Int32 × zWd)) (v4 : Int32) (v5 : Int32) (hk11 : ∀ (v4 : Int32) (v5 : Int32) (w : zWd), zS gX2_holds zEi 11 [(0, .ref v0), (1, .int v1), (2, .ref v2), (3, .int v3), (4, .int v4), (5, .int v5)] [] w (k11 (v4, v5, w))) (h0 : zShp v0 = (2, 8)) (h2 : zShp v2 = (8, 13)) (w : zWd) : zS gX2_holds zEi 11 [(0, .ref v0), (1, .int v1), (2, .ref v2), (3, .int v3), (4, .int v4), (5, .int v5)] [] w (mX2_holds_11b v0 v1 v2 v3 k11 v4 v5 w) := by
  unfold mX2_holds_11b
  refine zS_iload 13 rfl 5 rfl dX2_holds_11 ?_
  refine zS_aload_n 14 rfl 0 rfl dX2_holds_13 ?_
  refine zS_getfp 17 rfl 5 dX2_holds_14 zC2 zw201 (by decide) rfl h0 ?_
  refine zS_iload_n 18 rfl 1 rfl dX2_holds_17 ?_
  refine zS_iald 19 rfl dX2_holds_18 (zP2_end h0) ?_
  refine zS_icmp_ge 140 22 rfl dX2_holds_19 (by decide) ?_ ?_
  · refine zS_sub [4] (show _ = [(4, .int _)] from rfl) ?_
    exact sX2_holds_140 _ _
  · refine zS_iload 24 rfl 5 rfl dX2_holds_22 ?_
    refine zS_bipush 26 rfl (120 : Int32) (by decide) dX2_holds_24 ?_
    refine zS_icmp_ge 140 29 rfl dX2_holds_26 (by decide) ?_ ?_
    · refine zS_sub [4] (show _ = [(4, .int _)] from rfl) ?_
      exact sX2_holds_140 _ _
    · refine zS_aload_n 30 rfl 0 rfl dX2_holds_29 ?_
      refine zS_getfp 33 rfl 7 dX2_holds_30 zC2 zw204 (by decide) rfl h0 ?_
      refine zS_iload 35 rfl 5 rfl dX2_holds_33 ?_
      refine zS_iald 36 rfl dX2_holds_35 (zP2_steps h0) ?_
      refine zS_sipush 39 rfl (1000 : Int32) (by decide) dX2_holds_36 ?_
      refine zS_idivC 40 rfl dX2_holds_39 (by decide) ?_
      refine zS_bni (fun x2 => ?_)
      refine zS_istore 42 rfl dX2_holds_40 (by show 6 < 7; decide) (show _ = [(6, .int _), (0, .ref _), (1, .int _), (2, .ref _), (3, .int _), (4, .int _), (5, .int _)] from rfl) ?_
      refine zS_iload 44 rfl 0 rfl dX2_holds_42 ?_
      refine zS_bipush 46 rfl (8 : Int32) (by decide) dX2_holds_44 ?_
      refine zS_icmp_ne 58 49 rfl dX2_holds_46 (by decide) ?_ ?_
      · refine zS_iload 51 rfl 5 rfl dX2_holds_49 ?_
        refine zS_iconst 52 rfl (1 : Int32) (by decide) dX2_holds_51 ?_
        refine zS_ixor 53 rfl dX2_holds_52 ?_
        refine zS_bni (fun x3 => ?_)
        refine zS_istore 55 rfl dX2_holds_53 (by show 4 < 7; decide) (show _ = [(4, .int _), (6, .int _), (0, .ref _), (1, .int _), (2, .ref _), (3, .int _), (5, .int _)] from rfl) ?_
        refine zS_goto 134 dX2_holds_55 (by decide) ?_
        refine zS_sub [2, 3, 4, 5, 0, 6] (show _ = [(0, .ref _), (1, .int _), (2, .ref _), (3, .int _), (4, .int _), (5, .int _)] from rfl) ?_
        exact sX2_holds_134 k11 _ _ _ _ _ _ hk11 h0 h2 _
      · refine zS_iload 60 rfl 0 rfl dX2_holds_58 ?_
        refine zS_bipush 62 rfl (9 : Int32) (by decide) dX2_holds_60 ?_
        refine zS_icmp_ne 80 65 rfl dX2_holds_62 (by decide) ?_ ?_
        · refine zS_iload 67 rfl 5 rfl dX2_holds_65 ?_
          refine zS_iconst 68 rfl (1 : Int32) (by decide) dX2_holds_67 ?_
          refine zS_iushr 69 rfl dX2_holds_68 ?_
          refine zS_iload 71 rfl 5 rfl dX2_holds_69 ?_
          refine zS_bipush 73 rfl (-2 : Int32) (by decide) dX2_holds_71 ?_
          refine zS_ior 74 rfl dX2_holds_73 ?_
          refine zS_iand 75 rfl dX2_holds_74 ?_
          refine zS_bni (fun x4 => ?_)
          refine zS_istore 77 rfl dX2_holds_75 (by show 4 < 7; decide) (show _ = [(4, .int _), (6, .int _), (0, .ref _), (1, .int _), (2, .ref _), (3, .int _), (5, .int _)] from rfl) ?_
          refine zS_goto 134 dX2_holds_77 (by decide) ?_
          refine zS_sub [2, 3, 4, 5, 0, 6] (show _ = [(0, .ref _), (1, .int _), (2, .ref _), (3, .int _), (4, .int _), (5, .int _)] from rfl) ?_
          exact sX2_holds_134 k11 _ _ _ _ _ _ hk11 h0 h2 _
        · refine zS_iload 82 rfl 0 rfl dX2_holds_80 ?_
          refine zS_bipush 84 rfl (10 : Int32) (by decide) dX2_holds_82 ?_
          refine zS_icmp_ne 101 87 rfl dX2_holds_84 (by decide) ?_ ?_
          · refine zS_iload 89 rfl 5 rfl dX2_holds_87 ?_
            refine zS_iconst 90 rfl (1 : Int32) (by decide) dX2_holds_89 ?_
            refine zS_iushr 91 rfl dX2_holds_90 ?_
            refine zS_iload 93 rfl 5 rfl dX2_holds_91 ?_
            refine zS_iconst 94 rfl (1 : Int32) (by decide) dX2_holds_93 ?_
            refine zS_iand 95 rfl dX2_holds_94 ?_
            refine zS_ior 96 rfl dX2_holds_95 ?_
            refine zS_bni (fun x5 => ?_)
            refine zS_istore 98 rfl dX2_holds_96 (by show 4 < 7; decide) (show _ = [(4, .int _), (6, .int _), (0, .ref _), (1, .int _), (2, .ref _), (3, .int _), (5, .int _)] from rfl) ?_
            refine zS_goto 134 dX2_holds_98 (by decide) ?_
            refine zS_sub [2, 3, 4, 5, 0, 6] (show _ = [(0, .ref _), (1, .int _), (2, .ref _), (3, .int _), (4, .int _), (5, .int _)] from rfl) ?_
            exact sX2_holds_134 k11 _ _ _ _ _ _ hk11 h0 h2 _
          · refine zS_iload 103 rfl 5 rfl dX2_holds_101 ?_
            refine zS_iconst 104 rfl (1 : Int32) (by decide) dX2_holds_103 ?_
            refine zS_ishl 105 rfl dX2_holds_104 ?_
            refine zS_iload 107 rfl 0 rfl dX2_holds_105 ?_
            refine zS_aload_n 108 rfl 1 rfl dX2_holds_107 ?_
            refine zS_getfp 111 rfl 7 dX2_holds_108 zC2 zw204 (by decide) rfl h0 ?_
            refine zS_iload 113 rfl 6 rfl dX2_holds_111 ?_
            refine zS_iald 114 rfl dX2_holds_113 (zP2_steps h0) ?_
            refine zS_sipush 117 rfl (1000 : Int32) (by decide) dX2_holds_114 ?_
            refine zS_iremC 118 rfl dX2_holds_117 (by decide) ?_
            refine zS_aload_n 119 rfl 3 rfl dX2_holds_118 ?_
            refine zS_iload_n 120 rfl 4 rfl dX2_holds_119 ?_
            refine zS_cSi (as := [.int _, .int _, .ref _, .int _]) (st := [.int _]) (g' := gX2_isSo) 123 rfl (okX2_isSo _ _ _ _ _ h2) dX2_holds_120 zw544 cbX2_isSo rfl rfl (by decide) (Nat.le_of_ble_eq_true rfl) (fun r6 w7 => ?_)
            refine zS_if_eq 130 126 rfl dX2_holds_123 (by decide) ?_ ?_
            · refine zS_iconst 131 rfl (0 : Int32) (by decide) dX2_holds_130 ?_
              refine zS_sub [1, 2, 3, 4, 6] (show _ = [(0, .ref _), (1, .int _), (2, .ref _), (3, .int _), (5, .int _)] from rfl) ?_
              exact sX2_holds_131 k11 _ _ _ _ _ _ _ hk11 h0 h2 _
            · refine zS_iconst 127 rfl (1 : Int32) (by decide) dX2_holds_126 ?_
              refine zS_goto 131 dX2_holds_127 (by decide) ?_
              refine zS_sub [1, 2, 3, 4, 6] (show _ = [(0, .ref _), (1, .int _), (2, .ref _), (3, .int _), (5, .int _)] from rfl) ?_
              exact sX2_holds_131 k11 _ _ _ _ _ _ _ hk11 h0 h2 _

theorem sX2_holds_11 (v0 : Nat) (v1 : Int32) (v2 : Nat) (v3 : Int32) (v4 : Int32) (v5 : Int32) (h0 : zShp v0 = (2, 8)) (h2 : zShp v2 = (8, 13)) (w : zWd) : zS gX2_holds zEi 11 [(0, .ref v0), (1, .int v1), (2, .ref v2), (3, .int v3), (4, .int v4), (5, .int v5)] [] w (mX2_holds_11 v0 v1 v2 v3 v4 v5 w) :=
  zS_loop (L := fun q : Int32 × Int32 × zWd => [(0, .ref v0), (1, .int v1), (2, .ref v2), (3, .int v3), (4, .int q.1), (5, .int q.2.1)]) (V := fun q => q.2.2) (T := fun _ => []) (F := fun k q => mX2_holds_11b v0 v1 v2 v3 k q.1 q.2.1 q.2.2) (fun k hk q => sX2_holds_11b v0 v1 v2 v3 k q.1 q.2.1 (fun a4 a5 w => hk (a4, a5, w)) h0 h2 q.2.2) zFU (v4, v5, w)
set_option maxHeartbeats 4000000 in
set_option maxRecDepth 100000 in
theorem sX2_holds (v0 : Nat) (v1 : Int32) (v2 : Nat) (v3 : Int32) (h0 : zShp v0 = (2, 8)) (h2 : zShp v2 = (8, 13)) (w : zWd) : zS gX2_holds zEi 0 [(0, .ref v0), (1, .int v1), (2, .ref v2), (3, .int v3)] [] w (mX2_holds v0 v1 v2 v3 w) := by
  unfold mX2_holds
  refine zS_iconst 1 rfl (0 : Int32) (by decide) dX2_holds_0 ?_
  refine zS_istore 3 rfl dX2_holds_1 (by show 4 < 7; decide) (show _ = [(4, .int _), (0, .ref _), (1, .int _), (2, .ref _), (3, .int _)] from rfl) ?_
  refine zS_aload_n 4 rfl 1 rfl dX2_holds_3 ?_
  refine zS_getfp 7 rfl 4 dX2_holds_4 zC2 zw200 (by decide) rfl h0 ?_
  refine zS_iload_n 8 rfl 2 rfl dX2_holds_7 ?_
  refine zS_iald 9 rfl dX2_holds_8 (zP2_first h0) ?_
  refine zS_bni (fun x1 => ?_)
  refine zS_istore 11 rfl dX2_holds_9 (by show 5 < 7; decide) (show _ = [(5, .int _), (4, .int _), (0, .ref _), (1, .int _), (2, .ref _), (3, .int _)] from rfl) ?_
  refine zS_sub [2, 3, 4, 5, 1, 0] (show _ = [(0, .ref _), (1, .int _), (2, .ref _), (3, .int _), (4, .int _), (5, .int _)] from rfl) ?_
  exact sX2_holds_11 _ _ _ _ _ _ h0 h2 _

theorem okX2_holds (v0 : Nat) (v1 : Int32) (v2 : Nat) (v3 : Int32) (w : zWd) (h0 : zShp v0 = (2, 8)) (h2 : zShp v2 = (8, 13)) : zOk gX2_holds zEi [.ref v0, .int v1, .ref v2, .int v3] w (mX2_holds v0 v1 v2 v3 w) := zOk_of (by decide) rfl (Nat.le_of_ble_eq_true rfl) (sX2_holds v0 v1 v2 v3 h0 h2 w)
abbrev gX2_lastClause : zMth := (yX2_lastClause, cX2_lastClause, 5, (some .int), 3, zE0)
theorem cbX2_lastClause : zCbV yX2_lastClause cX2_lastClause 5 (some .int) 3 := ⟨zw537, zw538, zw82, zw539, by decide, by decide, by decide +kernel⟩
set_option maxHeartbeats 4000000 in
set_option maxRecDepth 100000 in
theorem sX2_lastClause_42 (k8 : Int32 × zWd → Option (Int32 × zWd)) (v0 : Nat) (v1 : Int32) (v2 : Nat) (v3 : Int32) (v4 : Int32) (hk8 : ∀ (v4 : Int32) (w : zWd), zS gX2_lastClause zEi 8 [(0, .ref v0), (1, .int v1), (2, .ref v2), (3, .int v3), (4, .int v4)] [] w (k8 (v4, w))) (h0 : zShp v0 = (2, 8)) (h2 : zShp v2 = (8, 13)) (w : zWd) : zS gX2_lastClause zEi 42 [(0, .ref v0), (1, .int v1), (2, .ref v2), (3, .int v3), (4, .int v4)] [] w (mX2_lastClause_42 k8 v0 v1 v2 v3 v4 w) := by
  unfold mX2_lastClause_42
  refine zS_iinc 45 rfl 4 (_ + (-1 : Int32)) dX2_lastClause_42 rfl (by show 4 < 5; decide) rfl (show _ = [(4, .int _), (0, .ref _), (1, .int _), (2, .ref _), (3, .int _)] from rfl) ?_
  refine zS_goto 8 dX2_lastClause_45 (by decide) ?_
  refine zS_sub [1, 2, 3, 4, 0] (show _ = [(0, .ref _), (1, .int _), (2, .ref _), (3, .int _), (4, .int _)] from rfl) ?_
  exact hk8 _ _

set_option maxHeartbeats 4000000 in
set_option maxRecDepth 100000 in
theorem sX2_lastClause_39 (v4 : Int32) (w : zWd) : zS gX2_lastClause zEi 39 [(4, .int v4)] [] w (mX2_lastClause_39 v4 w) := by
  unfold mX2_lastClause_39
  refine zS_iload 41 rfl 0 rfl dX2_lastClause_39 ?_
  exact zS_reti dX2_lastClause_41 rfl

set_option maxHeartbeats 4000000 in
set_option maxRecDepth 100000 in
theorem sX2_lastClause_8b (v0 : Nat) (v1 : Int32) (v2 : Nat) (v3 : Int32) (k8 : Int32 × zWd → Option (Int32 × zWd)) (v4 : Int32) (hk8 : ∀ (v4 : Int32) (w : zWd), zS gX2_lastClause zEi 8 [(0, .ref v0), (1, .int v1), (2, .ref v2), (3, .int v3), (4, .int v4)] [] w (k8 (v4, w))) (h0 : zShp v0 = (2, 8)) (h2 : zShp v2 = (8, 13)) (w : zWd) : zS gX2_lastClause zEi 8 [(0, .ref v0), (1, .int v1), (2, .ref v2), (3, .int v3), (4, .int v4)] [] w (mX2_lastClause_8b v0 v1 v2 v3 k8 v4 w) := by
  unfold mX2_lastClause_8b
  refine zS_iload 10 rfl 4 rfl dX2_lastClause_8 ?_
  refine zS_if_lt 48 13 rfl dX2_lastClause_10 (by decide) ?_ ?_
  · refine zS_iconst 49 rfl (-1 : Int32) (by decide) dX2_lastClause_48 ?_
    exact zS_reti dX2_lastClause_49 rfl
  · refine zS_aload_n 14 rfl 0 rfl dX2_lastClause_13 ?_
    refine zS_getfp 17 rfl 2 dX2_lastClause_14 zC2 zw197 (by decide) rfl h0 ?_
    refine zS_iload 19 rfl 4 rfl dX2_lastClause_17 ?_
    refine zS_iald 20 rfl dX2_lastClause_19 (zP2_word h0) ?_
    refine zS_iload_n 21 rfl 1 rfl dX2_lastClause_20 ?_
    refine zS_icmp_ne 42 24 rfl dX2_lastClause_21 (by decide) ?_ ?_
    · refine zS_iload_n 25 rfl 1 rfl dX2_lastClause_24 ?_
      refine zS_if_ne 39 28 rfl dX2_lastClause_25 (by decide) ?_ ?_
      · refine zS_aload_n 29 rfl 0 rfl dX2_lastClause_28 ?_
        refine zS_iload 31 rfl 4 rfl dX2_lastClause_29 ?_
        refine zS_aload_n 32 rfl 2 rfl dX2_lastClause_31 ?_
        refine zS_iload_n 33 rfl 3 rfl dX2_lastClause_32 ?_
        refine zS_cVi (as := [.int _, .ref _, .int _]) (st := []) (g' := gX2_holds) 36 rfl (okX2_holds _ _ _ _ _ h0 h2) dX2_lastClause_33 zC2 h0 zw540 cbX2_holds rfl rfl (by decide) (Nat.le_of_ble_eq_true rfl) (fun r2 w3 => ?_)
        refine zS_if_eq 42 39 rfl dX2_lastClause_36 (by decide) ?_ ?_
        · exact sX2_lastClause_42 k8 _ _ _ _ _ hk8 h0 h2 _
        · refine zS_sub [4] (show _ = [(4, .int _)] from rfl) ?_
          exact sX2_lastClause_39 _ _
      · refine zS_sub [4] (show _ = [(4, .int _)] from rfl) ?_
        exact sX2_lastClause_39 _ _
    · exact sX2_lastClause_42 k8 _ _ _ _ _ hk8 h0 h2 _

theorem sX2_lastClause_8 (v0 : Nat) (v1 : Int32) (v2 : Nat) (v3 : Int32) (v4 : Int32) (h0 : zShp v0 = (2, 8)) (h2 : zShp v2 = (8, 13)) (w : zWd) : zS gX2_lastClause zEi 8 [(0, .ref v0), (1, .int v1), (2, .ref v2), (3, .int v3), (4, .int v4)] [] w (mX2_lastClause_8 v0 v1 v2 v3 v4 w) :=
  zS_loop (L := fun q : Int32 × zWd => [(0, .ref v0), (1, .int v1), (2, .ref v2), (3, .int v3), (4, .int q.1)]) (V := fun q => q.2) (T := fun _ => []) (F := fun k q => mX2_lastClause_8b v0 v1 v2 v3 k q.1 q.2) (fun k hk q => sX2_lastClause_8b v0 v1 v2 v3 k q.1 (fun a4 w => hk (a4, w)) h0 h2 q.2) zFU (v4, w)
set_option maxHeartbeats 4000000 in
set_option maxRecDepth 100000 in
theorem sX2_lastClause (v0 : Nat) (v1 : Int32) (v2 : Nat) (v3 : Int32) (h0 : zShp v0 = (2, 8)) (h2 : zShp v2 = (8, 13)) (w : zWd) : zS gX2_lastClause zEi 0 [(0, .ref v0), (1, .int v1), (2, .ref v2), (3, .int v3)] [] w (mX2_lastClause v0 v1 v2 v3 w) := by
  unfold mX2_lastClause
  refine zS_aload_n 1 rfl 0 rfl dX2_lastClause_0 ?_
  refine zS_getfi 4 rfl 1 dX2_lastClause_1 zC2 zw196 (by decide) rfl h0 ?_
  refine zS_iconst 5 rfl (1 : Int32) (by decide) dX2_lastClause_4 ?_
  refine zS_isub 6 rfl dX2_lastClause_5 ?_
  refine zS_bni (fun x1 => ?_)
  refine zS_istore 8 rfl dX2_lastClause_6 (by show 4 < 5; decide) (show _ = [(4, .int _), (0, .ref _), (1, .int _), (2, .ref _), (3, .int _)] from rfl) ?_
  refine zS_sub [1, 2, 3, 4, 0] (show _ = [(0, .ref _), (1, .int _), (2, .ref _), (3, .int _), (4, .int _)] from rfl) ?_
  exact sX2_lastClause_8 _ _ _ _ _ h0 h2 _

theorem okX2_lastClause (v0 : Nat) (v1 : Int32) (v2 : Nat) (v3 : Int32) (w : zWd) (h0 : zShp v0 = (2, 8)) (h2 : zShp v2 = (8, 13)) : zOk gX2_lastClause zEi [.ref v0, .int v1, .ref v2, .int v3] w (mX2_lastClause v0 v1 v2 v3 w) := zOk_of (by decide) rfl (Nat.le_of_ble_eq_true rfl) (sX2_lastClause v0 v1 v2 v3 h0 h2 w)
abbrev gX3_copyFrom : zMth := (yX3_copyFrom, cX3_copyFrom, 3, none, 2, zE0)
theorem cbX3_copyFrom : zCbV yX3_copyFrom cX3_copyFrom 3 none 1 := ⟨zw1077, zw1078, zw81, zw1079, by decide, by decide, by decide +kernel⟩
set_option maxHeartbeats 4000000 in
set_option maxRecDepth 100000 in
theorem sX3_copyFrom_48 (w : zWd) : zS gX3_copyFrom zEv 48 [] [] w (mX3_copyFrom_48 w) := by
  unfold mX3_copyFrom_48
  exact zS_retv dX3_copyFrom_48 rfl

set_option maxHeartbeats 4000000 in
set_option maxRecDepth 100000 in
theorem sX3_copyFrom_10b (v0 : Nat) (v1 : Nat) (k10 : Int32 × zWd → Option (Unit × zWd)) (v2 : Int32) (hk10 : ∀ (v2 : Int32) (w : zWd), zS gX3_copyFrom zEv 10 [(0, .ref v0), (1, .ref v1), (2, .int v2)] [] w (k10 (v2, w))) (h0 : zShp v0 = (3, 2)) (h1 : zShp v1 = (3, 2)) (w : zWd) : zS gX3_copyFrom zEv 10 [(0, .ref v0), (1, .ref v1), (2, .int v2)] [] w (mX3_copyFrom_10b v0 v1 k10 v2 w) := by
  unfold mX3_copyFrom_10b
  refine zS_iload_n 11 rfl 2 rfl dX3_copyFrom_10 ?_
  refine zS_aload_n 12 rfl 0 rfl dX3_copyFrom_11 ?_
  refine zS_getfi 15 rfl 0 dX3_copyFrom_12 zC3 zw222 (by decide) rfl h0 ?_
  refine zS_icmp_ge 48 18 rfl dX3_copyFrom_15 (by decide) ?_ ?_
  · refine zS_sub [] (show _ = [] from rfl) ?_
    exact sX3_copyFrom_48 _
  · refine zS_iload_n 19 rfl 2 rfl dX3_copyFrom_18 ?_
    refine zS_aload_n 20 rfl 0 rfl dX3_copyFrom_19 ?_
    refine zS_getfp 23 rfl 1 dX3_copyFrom_20 zC3 zw224 (by decide) rfl h0 ?_
    refine zS_alen 24 rfl (11 : Int32) (by decide) dX3_copyFrom_23 (by decide) (zP3_orders h0) ?_
    refine zS_icmp_ge 48 27 rfl dX3_copyFrom_24 (by decide) ?_ ?_
    · refine zS_sub [] (show _ = [] from rfl) ?_
      exact sX3_copyFrom_48 _
    · refine zS_aload_n 28 rfl 0 rfl dX3_copyFrom_27 ?_
      refine zS_getfp 31 rfl 1 dX3_copyFrom_28 zC3 zw224 (by decide) rfl h0 ?_
      refine zS_iload_n 32 rfl 2 rfl dX3_copyFrom_31 ?_
      refine zS_aald 33 rfl dX3_copyFrom_32 (zP3_orders h0) (fun g2 => ?_)
      refine zS_aload_n 34 rfl 1 rfl dX3_copyFrom_33 ?_
      refine zS_getfp 37 rfl 1 dX3_copyFrom_34 zC3 zw224 (by decide) rfl h1 ?_
      refine zS_iload_n 38 rfl 2 rfl dX3_copyFrom_37 ?_
      refine zS_aald 39 rfl dX3_copyFrom_38 (zP3_orders h1) (fun g3 => ?_)
      refine zS_cVv (as := [.ref _]) (st := []) (g' := gX2_copyFrom) 42 rfl (okX2_copyFrom _ _ _ (zP_ord (zP3_orders h0) (zin_lt g2)) (zP_ord (zP3_orders h1) (zin_lt g3))) dX3_copyFrom_39 zC2 (zP_ord (zP3_orders h0) (zin_lt g2)) zw1080 cbX2_copyFrom rfl rfl (by decide) (Nat.le_of_ble_eq_true rfl) (fun r4 w5 => ?_)
      refine zS_iinc 45 rfl 2 (_ + (1 : Int32)) dX3_copyFrom_42 rfl (by show 2 < 3; decide) rfl (show _ = [(2, .int _), (0, .ref _), (1, .ref _)] from rfl) ?_
      refine zS_goto 10 dX3_copyFrom_45 (by decide) ?_
      refine zS_sub [1, 2, 0] (show _ = [(0, .ref _), (1, .ref _), (2, .int _)] from rfl) ?_
      exact hk10 _ _

theorem sX3_copyFrom_10 (v0 : Nat) (v1 : Nat) (v2 : Int32) (h0 : zShp v0 = (3, 2)) (h1 : zShp v1 = (3, 2)) (w : zWd) : zS gX3_copyFrom zEv 10 [(0, .ref v0), (1, .ref v1), (2, .int v2)] [] w (mX3_copyFrom_10 v0 v1 v2 w) :=
  zS_loop (L := fun q : Int32 × zWd => [(0, .ref v0), (1, .ref v1), (2, .int q.1)]) (V := fun q => q.2) (T := fun _ => []) (F := fun k q => mX3_copyFrom_10b v0 v1 k q.1 q.2) (fun k hk q => sX3_copyFrom_10b v0 v1 k q.1 (fun a2 w => hk (a2, w)) h0 h1 q.2) zFU (v2, w)
set_option maxHeartbeats 4000000 in
set_option maxRecDepth 100000 in
theorem sX3_copyFrom (v0 : Nat) (v1 : Nat) (h0 : zShp v0 = (3, 2)) (h1 : zShp v1 = (3, 2)) (w : zWd) : zS gX3_copyFrom zEv 0 [(0, .ref v0), (1, .ref v1)] [] w (mX3_copyFrom v0 v1 w) := by
  unfold mX3_copyFrom
  refine zS_aload_n 1 rfl 0 rfl dX3_copyFrom_0 ?_
  refine zS_aload_n 2 rfl 1 rfl dX3_copyFrom_1 ?_
  refine zS_getfi 5 rfl 0 dX3_copyFrom_2 zC3 zw222 (by decide) rfl h1 ?_
  refine zS_putfi 8 rfl 0 dX3_copyFrom_5 zC3 zw222 (by decide) rfl rfl rfl h0 ?_
  refine zS_bnw (fun w1 => ?_)
  refine zS_iconst 9 rfl (0 : Int32) (by decide) dX3_copyFrom_8 ?_
  refine zS_istore_n 10 rfl dX3_copyFrom_9 (by show 2 < 3; decide) (show _ = [(2, .int _), (0, .ref _), (1, .ref _)] from rfl) ?_
  refine zS_sub [1, 2, 0] (show _ = [(0, .ref _), (1, .ref _), (2, .int _)] from rfl) ?_
  exact sX3_copyFrom_10 _ _ _ h0 h1 _

theorem okX3_copyFrom (v0 : Nat) (v1 : Nat) (w : zWd) (h0 : zShp v0 = (3, 2)) (h1 : zShp v1 = (3, 2)) : zOk gX3_copyFrom zEv [.ref v0, .ref v1] w (mX3_copyFrom v0 v1 w) := zOk_of (by decide) rfl (Nat.le_of_ble_eq_true rfl) (sX3_copyFrom v0 v1 h0 h1 w)
abbrev gX3_spare : zMth := (yX3_spare, cX3_spare, 1, (some (.object "HotSprings$Order")), 1, zE0)
theorem cbX3_spare : zCbV yX3_spare cX3_spare 1 (some (.object "HotSprings$Order")) 0 := ⟨zw648, zw649, zw81, zw650, by decide, by decide, by decide +kernel⟩
set_option maxHeartbeats 4000000 in
set_option maxRecDepth 100000 in
theorem sX3_spare (v0 : Nat) (h0 : zShp v0 = (3, 2)) (w : zWd) : zS gX3_spare zEr 0 [(0, .ref v0)] [] w (mX3_spare v0 w) := by
  unfold mX3_spare
  refine zS_aload_n 1 rfl 0 rfl dX3_spare_0 ?_
  refine zS_getfp 4 rfl 1 dX3_spare_1 zC3 zw224 (by decide) rfl h0 ?_
  refine zS_aload_n 5 rfl 0 rfl dX3_spare_4 ?_
  refine zS_getfi 8 rfl 0 dX3_spare_5 zC3 zw222 (by decide) rfl h0 ?_
  refine zS_bipush 10 rfl (10 : Int32) (by decide) dX3_spare_8 ?_
  refine zS_mmin 13 rfl dX3_spare_10 zw651 zw584 zw90 zw585 (by decide) (Nat.le_of_ble_eq_true rfl) ?_
  refine zS_bni (fun x1 => ?_)
  refine zS_aald 14 rfl dX3_spare_13 (zP3_orders h0) (fun g2 => ?_)
  exact zS_reta dX3_spare_14 rfl

theorem okX3_spare (v0 : Nat) (w : zWd) (h0 : zShp v0 = (3, 2)) : zOk gX3_spare zEr [.ref v0] w (mX3_spare v0 w) := zOk_of (by decide) rfl (Nat.le_of_ble_eq_true rfl) (sX3_spare v0 h0 w)
abbrev gX3_accept : zMth := (yX3_accept, cX3_accept, 2, (some .int), 1, zE0)
theorem cbX3_accept : zCbV yX3_accept cX3_accept 2 (some .int) 0 := ⟨zw767, zw768, zw81, zw769, by decide, by decide, by decide +kernel⟩
set_option maxHeartbeats 4000000 in
set_option maxRecDepth 100000 in
theorem sX3_accept (v0 : Nat) (h0 : zShp v0 = (3, 2)) (w : zWd) : zS gX3_accept zEi 0 [(0, .ref v0)] [] w (mX3_accept v0 w) := by
  unfold mX3_accept
  refine zS_aload_n 1 rfl 0 rfl dX3_accept_0 ?_
  refine zS_getfi 4 rfl 0 dX3_accept_1 zC3 zw222 (by decide) rfl h0 ?_
  refine zS_bni (fun x1 => ?_)
  refine zS_istore_n 5 rfl dX3_accept_4 (by show 1 < 2; decide) (show _ = [(1, .int _), (0, .ref _)] from rfl) ?_
  refine zS_aload_n 6 rfl 1 rfl dX3_accept_5 ?_
  refine zS_aload_n 7 rfl 1 rfl dX3_accept_6 ?_
  refine zS_getfi 10 rfl 0 dX3_accept_7 zC3 zw222 (by decide) rfl h0 ?_
  refine zS_iconst 11 rfl (1 : Int32) (by decide) dX3_accept_10 ?_
  refine zS_iadd 12 rfl dX3_accept_11 ?_
  refine zS_aload_n 13 rfl 1 rfl dX3_accept_12 ?_
  refine zS_getfp 16 rfl 1 dX3_accept_13 zC3 zw224 (by decide) rfl h0 ?_
  refine zS_alen 17 rfl (11 : Int32) (by decide) dX3_accept_16 (by decide) (zP3_orders h0) ?_
  refine zS_mmin 20 rfl dX3_accept_17 zw651 zw584 zw90 zw585 (by decide) (Nat.le_of_ble_eq_true rfl) ?_
  refine zS_bni (fun x2 => ?_)
  refine zS_putfi 23 rfl 0 dX3_accept_20 zC3 zw222 (by decide) rfl rfl rfl h0 ?_
  refine zS_bnw (fun w3 => ?_)
  refine zS_iload_n 24 rfl 0 rfl dX3_accept_23 ?_
  exact zS_reti dX3_accept_24 rfl

theorem okX3_accept (v0 : Nat) (w : zWd) (h0 : zShp v0 = (3, 2)) : zOk gX3_accept zEi [.ref v0] w (mX3_accept v0 w) := zOk_of (by decide) rfl (Nat.le_of_ble_eq_true rfl) (sX3_accept v0 h0 w)
abbrev gX3_forgetLast : zMth := (yX3_forgetLast, cX3_forgetLast, 1, none, 1, zE0)
theorem cbX3_forgetLast : zCbV yX3_forgetLast cX3_forgetLast 1 none 0 := ⟨zw1057, zw1058, zw81, zw1059, by decide, by decide, by decide +kernel⟩
set_option maxHeartbeats 4000000 in
set_option maxRecDepth 100000 in
theorem sX3_forgetLast (v0 : Nat) (h0 : zShp v0 = (3, 2)) (w : zWd) : zS gX3_forgetLast zEv 0 [(0, .ref v0)] [] w (mX3_forgetLast v0 w) := by
  unfold mX3_forgetLast
  refine zS_aload_n 1 rfl 0 rfl dX3_forgetLast_0 ?_
  refine zS_iconst 2 rfl (0 : Int32) (by decide) dX3_forgetLast_1 ?_
  refine zS_aload_n 3 rfl 0 rfl dX3_forgetLast_2 ?_
  refine zS_getfi 6 rfl 0 dX3_forgetLast_3 zC3 zw222 (by decide) rfl h0 ?_
  refine zS_iconst 7 rfl (1 : Int32) (by decide) dX3_forgetLast_6 ?_
  refine zS_isub 8 rfl dX3_forgetLast_7 ?_
  refine zS_mmax 11 rfl dX3_forgetLast_8 zw1060 zw599 zw90 zw600 (by decide) (Nat.le_of_ble_eq_true rfl) ?_
  refine zS_bni (fun x1 => ?_)
  refine zS_putfi 14 rfl 0 dX3_forgetLast_11 zC3 zw222 (by decide) rfl rfl rfl h0 ?_
  refine zS_bnw (fun w2 => ?_)
  exact zS_retv dX3_forgetLast_14 rfl

theorem okX3_forgetLast (v0 : Nat) (w : zWd) (h0 : zShp v0 = (3, 2)) : zOk gX3_forgetLast zEv [.ref v0] w (mX3_forgetLast v0 w) := zOk_of (by decide) rfl (Nat.le_of_ble_eq_true rfl) (sX3_forgetLast v0 h0 w)
abbrev gX3_numberBy : zMth := (yX3_numberBy, cX3_numberBy, 3, (some .int), 1, zE0)
theorem cbX3_numberBy : zCbV yX3_numberBy cX3_numberBy 3 (some .int) 2 := ⟨zw548, zw549, zw81, zw550, by decide, by decide, by decide +kernel⟩
set_option maxHeartbeats 4000000 in
set_option maxRecDepth 100000 in
theorem sX3_numberBy (v0 : Nat) (v1 : Int32) (v2 : Int32) (h0 : zShp v0 = (3, 2)) (w : zWd) : zS gX3_numberBy zEi 0 [(0, .ref v0), (1, .int v1), (2, .int v2)] [] w (mX3_numberBy v0 v1 v2 w) := by
  unfold mX3_numberBy
  refine zS_iload_n 1 rfl 1 rfl dX3_numberBy_0 ?_
  refine zS_if_ge 10 4 rfl dX3_numberBy_1 (by decide) ?_ ?_
  · refine zS_aload_n 11 rfl 0 rfl dX3_numberBy_10 ?_
    refine zS_getfp 14 rfl 1 dX3_numberBy_11 zC3 zw224 (by decide) rfl h0 ?_
    refine zS_iload_n 15 rfl 1 rfl dX3_numberBy_14 ?_
    refine zS_bipush 17 rfl (100 : Int32) (by decide) dX3_numberBy_15 ?_
    refine zS_idivC 18 rfl dX3_numberBy_17 (by decide) ?_
    refine zS_aald 19 rfl dX3_numberBy_18 (zP3_orders h0) (fun g1 => ?_)
    refine zS_getfp 22 rfl 3 dX3_numberBy_19 zC2 zw199 (by decide) rfl (zP_ord (zP3_orders h0) (zin_lt g1)) ?_
    refine zS_iload_n 23 rfl 1 rfl dX3_numberBy_22 ?_
    refine zS_bipush 25 rfl (100 : Int32) (by decide) dX3_numberBy_23 ?_
    refine zS_iremC 26 rfl dX3_numberBy_25 (by decide) ?_
    refine zS_iald 27 rfl dX3_numberBy_26 (zP2_number (zP_ord (zP3_orders h0) (zin_lt g1))) ?_
    exact zS_reti dX3_numberBy_27 rfl
  · refine zS_getsN 7 rfl 1 rfl dX3_numberBy_4 (by decide +kernel) ?_
    refine zS_iload_n 8 rfl 2 rfl dX3_numberBy_7 ?_
    refine zS_tald 9 rfl 1 rfl rfl dX3_numberBy_8 ?_
    exact zS_reti dX3_numberBy_9 rfl

theorem okX3_numberBy (v0 : Nat) (v1 : Int32) (v2 : Int32) (w : zWd) (h0 : zShp v0 = (3, 2)) : zOk gX3_numberBy zEi [.ref v0, .int v1, .int v2] w (mX3_numberBy v0 v1 v2 w) := zOk_of (by decide) rfl (Nat.le_of_ble_eq_true rfl) (sX3_numberBy v0 v1 v2 h0 w)
abbrev gX3_keyBelow : zMth := (yX3_keyBelow, cX3_keyBelow, 6, (some .int), 1, zE0)
theorem cbX3_keyBelow : zCbV yX3_keyBelow cX3_keyBelow 6 (some .int) 2 := ⟨zw534, zw0, zw81, zw535, by decide, by decide, by decide +kernel⟩
set_option maxHeartbeats 4000000 in
set_option maxRecDepth 100000 in
theorem sX3_keyBelow_61 (k5 : Int32 × Int32 × zWd → Option (Int32 × zWd)) (v0 : Nat) (v1 : Int32) (v2 : Int32) (v3 : Int32) (v4 : Int32) (hk5 : ∀ (v3 : Int32) (v4 : Int32) (w : zWd), zS gX3_keyBelow zEi 5 [(0, .ref v0), (1, .int v1), (2, .int v2), (3, .int v3), (4, .int v4)] [] w (k5 (v3, v4, w))) (h0 : zShp v0 = (3, 2)) (w : zWd) : zS gX3_keyBelow zEi 61 [(0, .ref v0), (1, .int v1), (2, .int v2), (3, .int v3), (4, .int v4)] [] w (mX3_keyBelow_61 k5 v0 v1 v2 v3 v4 w) := by
  unfold mX3_keyBelow_61
  refine zS_iinc 64 rfl 4 (_ + (1 : Int32)) dX3_keyBelow_61 rfl (by show 4 < 6; decide) rfl (show _ = [(4, .int _), (0, .ref _), (1, .int _), (2, .int _), (3, .int _)] from rfl) ?_
  refine zS_goto 5 dX3_keyBelow_64 (by decide) ?_
  refine zS_sub [1, 2, 3, 4, 0] (show _ = [(0, .ref _), (1, .int _), (2, .int _), (3, .int _), (4, .int _)] from rfl) ?_
  exact hk5 _ _ _

set_option maxHeartbeats 4000000 in
set_option maxRecDepth 100000 in
theorem sX3_keyBelow_5b (v0 : Nat) (v1 : Int32) (v2 : Int32) (k5 : Int32 × Int32 × zWd → Option (Int32 × zWd)) (v3 : Int32) (v4 : Int32) (hk5 : ∀ (v3 : Int32) (v4 : Int32) (w : zWd), zS gX3_keyBelow zEi 5 [(0, .ref v0), (1, .int v1), (2, .int v2), (3, .int v3), (4, .int v4)] [] w (k5 (v3, v4, w))) (h0 : zShp v0 = (3, 2)) (w : zWd) : zS gX3_keyBelow zEi 5 [(0, .ref v0), (1, .int v1), (2, .int v2), (3, .int v3), (4, .int v4)] [] w (mX3_keyBelow_5b v0 v1 v2 k5 v3 v4 w) := by
  unfold mX3_keyBelow_5b
  refine zS_iload 7 rfl 4 rfl dX3_keyBelow_5 ?_
  refine zS_aload_n 8 rfl 0 rfl dX3_keyBelow_7 ?_
  refine zS_getfi 11 rfl 0 dX3_keyBelow_8 zC3 zw222 (by decide) rfl h0 ?_
  refine zS_icmp_ge 67 14 rfl dX3_keyBelow_11 (by decide) ?_ ?_
  · refine zS_iload_n 68 rfl 3 rfl dX3_keyBelow_67 ?_
    exact zS_reti dX3_keyBelow_68 rfl
  · refine zS_aload_n 15 rfl 0 rfl dX3_keyBelow_14 ?_
    refine zS_getfp 18 rfl 1 dX3_keyBelow_15 zC3 zw224 (by decide) rfl h0 ?_
    refine zS_iload 20 rfl 4 rfl dX3_keyBelow_18 ?_
    refine zS_aald 21 rfl dX3_keyBelow_20 (zP3_orders h0) (fun g1 => ?_)
    refine zS_getfi 24 rfl 0 dX3_keyBelow_21 zC2 zw195 (by decide) rfl (zP_ord (zP3_orders h0) (zin_lt g1)) ?_
    refine zS_bipush 26 rfl (100 : Int32) (by decide) dX3_keyBelow_24 ?_
    refine zS_imul 27 rfl dX3_keyBelow_26 ?_
    refine zS_iload 29 rfl 4 rfl dX3_keyBelow_27 ?_
    refine zS_iadd 30 rfl dX3_keyBelow_29 ?_
    refine zS_bni (fun x2 => ?_)
    refine zS_istore 32 rfl dX3_keyBelow_30 (by show 5 < 6; decide) (show _ = [(5, .int _), (0, .ref _), (1, .int _), (2, .int _), (3, .int _), (4, .int _)] from rfl) ?_
    refine zS_aload_n 33 rfl 1 rfl dX3_keyBelow_32 ?_
    refine zS_getfp 36 rfl 1 dX3_keyBelow_33 zC3 zw224 (by decide) rfl h0 ?_
    refine zS_iload 38 rfl 5 rfl dX3_keyBelow_36 ?_
    refine zS_aald 39 rfl dX3_keyBelow_38 (zP3_orders h0) (fun g3 => ?_)
    refine zS_getfi 42 rfl 0 dX3_keyBelow_39 zC2 zw195 (by decide) rfl (zP_ord (zP3_orders h0) (zin_lt g3)) ?_
    refine zS_iload_n 43 rfl 3 rfl dX3_keyBelow_42 ?_
    refine zS_icmp_gt 61 46 rfl dX3_keyBelow_43 (by decide) ?_ ?_
    · refine zS_sub [1, 2, 3, 4, 5] (show _ = [(0, .ref _), (1, .int _), (2, .int _), (3, .int _), (4, .int _)] from rfl) ?_
      exact sX3_keyBelow_61 k5 _ _ _ _ _ hk5 h0 _
    · refine zS_iload 48 rfl 0 rfl dX3_keyBelow_46 ?_
      refine zS_iload_n 49 rfl 2 rfl dX3_keyBelow_48 ?_
      refine zS_icmp_ge 61 52 rfl dX3_keyBelow_49 (by decide) ?_ ?_
      · refine zS_sub [1, 2, 3, 4, 5] (show _ = [(0, .ref _), (1, .int _), (2, .int _), (3, .int _), (4, .int _)] from rfl) ?_
        exact sX3_keyBelow_61 k5 _ _ _ _ _ hk5 h0 _
      · refine zS_iload 54 rfl 0 rfl dX3_keyBelow_52 ?_
        refine zS_iload_n 55 rfl 4 rfl dX3_keyBelow_54 ?_
        refine zS_icmp_le 61 58 rfl dX3_keyBelow_55 (by decide) ?_ ?_
        · refine zS_sub [1, 2, 3, 4, 5] (show _ = [(0, .ref _), (1, .int _), (2, .int _), (3, .int _), (4, .int _)] from rfl) ?_
          exact sX3_keyBelow_61 k5 _ _ _ _ _ hk5 h0 _
        · refine zS_iload 60 rfl 0 rfl dX3_keyBelow_58 ?_
          refine zS_istore_n 61 rfl dX3_keyBelow_60 (by show 3 < 6; decide) (show _ = [(3, .int _), (5, .int _), (0, .ref _), (1, .int _), (2, .int _), (4, .int _)] from rfl) ?_
          refine zS_sub [2, 3, 4, 0, 5] (show _ = [(0, .ref _), (1, .int _), (2, .int _), (3, .int _), (4, .int _)] from rfl) ?_
          exact sX3_keyBelow_61 k5 _ _ _ _ _ hk5 h0 _

theorem sX3_keyBelow_5 (v0 : Nat) (v1 : Int32) (v2 : Int32) (v3 : Int32) (v4 : Int32) (h0 : zShp v0 = (3, 2)) (w : zWd) : zS gX3_keyBelow zEi 5 [(0, .ref v0), (1, .int v1), (2, .int v2), (3, .int v3), (4, .int v4)] [] w (mX3_keyBelow_5 v0 v1 v2 v3 v4 w) :=
  zS_loop (L := fun q : Int32 × Int32 × zWd => [(0, .ref v0), (1, .int v1), (2, .int v2), (3, .int q.1), (4, .int q.2.1)]) (V := fun q => q.2.2) (T := fun _ => []) (F := fun k q => mX3_keyBelow_5b v0 v1 v2 k q.1 q.2.1 q.2.2) (fun k hk q => sX3_keyBelow_5b v0 v1 v2 k q.1 q.2.1 (fun a3 a4 w => hk (a3, a4, w)) h0 q.2.2) zFU (v3, v4, w)
set_option maxHeartbeats 4000000 in
set_option maxRecDepth 100000 in
theorem sX3_keyBelow (v0 : Nat) (v1 : Int32) (v2 : Int32) (h0 : zShp v0 = (3, 2)) (w : zWd) : zS gX3_keyBelow zEi 0 [(0, .ref v0), (1, .int v1), (2, .int v2)] [] w (mX3_keyBelow v0 v1 v2 w) := by
  unfold mX3_keyBelow
  refine zS_iconst 1 rfl (-1 : Int32) (by decide) dX3_keyBelow_0 ?_
  refine zS_istore_n 2 rfl dX3_keyBelow_1 (by show 3 < 6; decide) (show _ = [(3, .int _), (0, .ref _), (1, .int _), (2, .int _)] from rfl) ?_
  refine zS_iconst 3 rfl (0 : Int32) (by decide) dX3_keyBelow_2 ?_
  refine zS_istore 5 rfl dX3_keyBelow_3 (by show 4 < 6; decide) (show _ = [(4, .int _), (3, .int _), (0, .ref _), (1, .int _), (2, .int _)] from rfl) ?_
  refine zS_sub [2, 3, 4, 1, 0] (show _ = [(0, .ref _), (1, .int _), (2, .int _), (3, .int _), (4, .int _)] from rfl) ?_
  exact sX3_keyBelow_5 _ _ _ _ _ h0 _

theorem okX3_keyBelow (v0 : Nat) (v1 : Int32) (v2 : Int32) (w : zWd) (h0 : zShp v0 = (3, 2)) : zOk gX3_keyBelow zEi [.ref v0, .int v1, .int v2] w (mX3_keyBelow v0 v1 v2 w) := zOk_of (by decide) rfl (Nat.le_of_ble_eq_true rfl) (sX3_keyBelow v0 v1 v2 h0 w)
abbrev gX3_ruling : zMth := (yX3_ruling, cX3_ruling, 8, (some .int), 4, zE0)
theorem cbX3_ruling : zCbV yX3_ruling cX3_ruling 8 (some .int) 4 := ⟨zw528, zw529, zw81, zw530, by decide, by decide, by decide +kernel⟩
set_option maxHeartbeats 4000000 in
set_option maxRecDepth 100000 in
theorem sX3_ruling_7b (v0 : Nat) (v1 : Int32) (v2 : Nat) (v3 : Int32) (v4 : Int32) (k7 : Int32 × Int32 × zWd → Option (Int32 × zWd)) (v5 : Int32) (v6 : Int32) (hk7 : ∀ (v5 : Int32) (v6 : Int32) (w : zWd), zS gX3_ruling zEi 7 [(0, .ref v0), (1, .int v1), (2, .ref v2), (3, .int v3), (4, .int v4), (5, .int v5), (6, .int v6)] [] w (k7 (v5, v6, w))) (h0 : zShp v0 = (3, 2)) (h2 : zShp v2 = (8, 13)) (w : zWd) : zS gX3_ruling zEi 7 [(0, .ref v0), (1, .int v1), (2, .ref v2), (3, .int v3), (4, .int v4), (5, .int v5), (6, .int v6)] [] w (mX3_ruling_7b v0 v1 v2 v3 v4 k7 v5 v6 w) := by
  unfold mX3_ruling_7b
  refine zS_iload 9 rfl 6 rfl dX3_ruling_7 ?_
  refine zS_aload_n 10 rfl 0 rfl dX3_ruling_9 ?_
  refine zS_getfi 13 rfl 0 dX3_ruling_10 zC3 zw222 (by decide) rfl h0 ?_
  refine zS_icmp_ge 75 16 rfl dX3_ruling_13 (by decide) ?_ ?_
  · refine zS_bipush 77 rfl (-5 : Int32) (by decide) dX3_ruling_75 ?_
    exact zS_reti dX3_ruling_77 rfl
  · refine zS_aload_n 17 rfl 0 rfl dX3_ruling_16 ?_
    refine zS_iload 19 rfl 5 rfl dX3_ruling_17 ?_
    refine zS_iload 21 rfl 4 rfl dX3_ruling_19 ?_
    refine zS_cVi (as := [.int _, .int _]) (st := []) (g' := gX3_keyBelow) 24 rfl (okX3_keyBelow _ _ _ _ h0) dX3_ruling_21 zC3 h0 zw532 cbX3_keyBelow rfl rfl (by decide) (Nat.le_of_ble_eq_true rfl) (fun r1 w2 => ?_)
    refine zS_istore 26 rfl dX3_ruling_24 (by show 5 < 8; decide) (show _ = [(5, .int _), (0, .ref _), (1, .int _), (2, .ref _), (3, .int _), (4, .int _), (6, .int _)] from rfl) ?_
    refine zS_iload 28 rfl 0 rfl dX3_ruling_26 ?_
    refine zS_if_ge 34 31 rfl dX3_ruling_28 (by decide) ?_ ?_
    · refine zS_aload_n 35 rfl 1 rfl dX3_ruling_34 ?_
      refine zS_getfp 38 rfl 1 dX3_ruling_35 zC3 zw224 (by decide) rfl h0 ?_
      refine zS_iload 40 rfl 0 rfl dX3_ruling_38 ?_
      refine zS_bipush 42 rfl (100 : Int32) (by decide) dX3_ruling_40 ?_
      refine zS_iremC 43 rfl dX3_ruling_42 (by decide) ?_
      refine zS_aald 44 rfl dX3_ruling_43 (zP3_orders h0) (fun g3 => ?_)
      refine zS_iload_n 45 rfl 2 rfl dX3_ruling_44 ?_
      refine zS_aload_n 46 rfl 3 rfl dX3_ruling_45 ?_
      refine zS_iload_n 47 rfl 4 rfl dX3_ruling_46 ?_
      refine zS_cVi (as := [.int _, .ref _, .int _]) (st := []) (g' := gX2_lastClause) 50 rfl (okX2_lastClause _ _ _ _ _ (zP_ord (zP3_orders h0) (zin_lt g3)) h2) dX3_ruling_47 zC2 (zP_ord (zP3_orders h0) (zin_lt g3)) zw536 cbX2_lastClause rfl rfl (by decide) (Nat.le_of_ble_eq_true rfl) (fun r4 w5 => ?_)
      refine zS_istore 52 rfl dX3_ruling_50 (by show 7 < 8; decide) (show _ = [(7, .int _), (5, .int _), (0, .ref _), (1, .int _), (2, .ref _), (3, .int _), (4, .int _), (6, .int _)] from rfl) ?_
      refine zS_iload 54 rfl 0 rfl dX3_ruling_52 ?_
      refine zS_if_lt 69 57 rfl dX3_ruling_54 (by decide) ?_ ?_
      · refine zS_iinc 72 rfl 7 (_ + (1 : Int32)) dX3_ruling_69 rfl (by show 6 < 8; decide) rfl (show _ = [(6, .int _), (7, .int _), (5, .int _), (0, .ref _), (1, .int _), (2, .ref _), (3, .int _), (4, .int _)] from rfl) ?_
        refine zS_goto 7 dX3_ruling_72 (by decide) ?_
        refine zS_sub [3, 4, 5, 6, 7, 2, 0] (show _ = [(0, .ref _), (1, .int _), (2, .ref _), (3, .int _), (4, .int _), (5, .int _), (6, .int _)] from rfl) ?_
        exact hk7 _ _ _
      · refine zS_iload 59 rfl 1 rfl dX3_ruling_57 ?_
        refine zS_bipush 61 rfl (100 : Int32) (by decide) dX3_ruling_59 ?_
        refine zS_iremC 62 rfl dX3_ruling_61 (by decide) ?_
        refine zS_bipush 64 rfl (100 : Int32) (by decide) dX3_ruling_62 ?_
        refine zS_imul 65 rfl dX3_ruling_64 ?_
        refine zS_iload 67 rfl 0 rfl dX3_ruling_65 ?_
        refine zS_iadd 68 rfl dX3_ruling_67 ?_
        exact zS_reti dX3_ruling_68 rfl
    · refine zS_bipush 33 rfl (-5 : Int32) (by decide) dX3_ruling_31 ?_
      exact zS_reti dX3_ruling_33 rfl

theorem sX3_ruling_7 (v0 : Nat) (v1 : Int32) (v2 : Nat) (v3 : Int32) (v4 : Int32) (v5 : Int32) (v6 : Int32) (h0 : zShp v0 = (3, 2)) (h2 : zShp v2 = (8, 13)) (w : zWd) : zS gX3_ruling zEi 7 [(0, .ref v0), (1, .int v1), (2, .ref v2), (3, .int v3), (4, .int v4), (5, .int v5), (6, .int v6)] [] w (mX3_ruling_7 v0 v1 v2 v3 v4 v5 v6 w) :=
  zS_loop (L := fun q : Int32 × Int32 × zWd => [(0, .ref v0), (1, .int v1), (2, .ref v2), (3, .int v3), (4, .int v4), (5, .int q.1), (6, .int q.2.1)]) (V := fun q => q.2.2) (T := fun _ => []) (F := fun k q => mX3_ruling_7b v0 v1 v2 v3 v4 k q.1 q.2.1 q.2.2) (fun k hk q => sX3_ruling_7b v0 v1 v2 v3 v4 k q.1 q.2.1 (fun a5 a6 w => hk (a5, a6, w)) h0 h2 q.2.2) zFU (v5, v6, w)
set_option maxHeartbeats 4000000 in
set_option maxRecDepth 100000 in
theorem sX3_ruling (v0 : Nat) (v1 : Int32) (v2 : Nat) (v3 : Int32) (v4 : Int32) (h0 : zShp v0 = (3, 2)) (h2 : zShp v2 = (8, 13)) (w : zWd) : zS gX3_ruling zEi 0 [(0, .ref v0), (1, .int v1), (2, .ref v2), (3, .int v3), (4, .int v4)] [] w (mX3_ruling v0 v1 v2 v3 v4 w) := by
  unfold mX3_ruling
  refine zS_ldc 2 rfl (40100 : Int32) zw531 dX3_ruling_0 ?_
  refine zS_istore 4 rfl dX3_ruling_2 (by show 5 < 8; decide) (show _ = [(5, .int _), (0, .ref _), (1, .int _), (2, .ref _), (3, .int _), (4, .int _)] from rfl) ?_
  refine zS_iconst 5 rfl (0 : Int32) (by decide) dX3_ruling_4 ?_
  refine zS_istore 7 rfl dX3_ruling_5 (by show 6 < 8; decide) (show _ = [(6, .int _), (5, .int _), (0, .ref _), (1, .int _), (2, .ref _), (3, .int _), (4, .int _)] from rfl) ?_
  refine zS_sub [2, 3, 4, 5, 6, 1, 0] (show _ = [(0, .ref _), (1, .int _), (2, .ref _), (3, .int _), (4, .int _), (5, .int _), (6, .int _)] from rfl) ?_
  exact sX3_ruling_7 _ _ _ _ _ _ _ h0 h2 _

theorem okX3_ruling (v0 : Nat) (v1 : Int32) (v2 : Nat) (v3 : Int32) (v4 : Int32) (w : zWd) (h0 : zShp v0 = (3, 2)) (h2 : zShp v2 = (8, 13)) : zOk gX3_ruling zEi [.ref v0, .int v1, .ref v2, .int v3, .int v4] w (mX3_ruling v0 v1 v2 v3 v4 w) := zOk_of (by decide) rfl (Nat.le_of_ble_eq_true rfl) (sX3_ruling v0 v1 v2 v3 v4 h0 h2 w)
abbrev gX4_lettersOf : zMth := (yX4_lettersOf, cX4_lettersOf, 1, (some (.object "java/lang/String")), 1, zE0)
theorem cbX4_lettersOf : zCbS yX4_lettersOf cX4_lettersOf 1 (some (.object "java/lang/String")) 1 := ⟨zw665, zw85, zw666, by decide, by decide, by decide +kernel⟩
set_option maxHeartbeats 4000000 in
set_option maxRecDepth 100000 in
theorem sX4_lettersOf (v0 : Int32) (w : zWd) : zS gX4_lettersOf zEr 0 [(0, .int v0)] [] w (mX4_lettersOf v0 w) := by
  unfold mX4_lettersOf
  refine zS_iload_n 1 rfl 0 rfl dX4_lettersOf_0 ?_
  refine zS_tsw (lo := 0) ?_
  refine zSw_in (c0 := (0 : Int32)) 0 36 dX4_lettersOf_1 (by decide) (by decide) rfl (by decide) ?_ ?_
  · refine zS_ldcS 38 rfl 0 rfl rfl rfl dX4_lettersOf_36 ?_
    exact zS_reta dX4_lettersOf_38 rfl
  refine zSw_in (c0 := (1 : Int32)) 1 39 dX4_lettersOf_1 (by decide) (by decide) rfl (by decide) ?_ ?_
  · refine zS_ldcS 41 rfl 1 rfl rfl rfl dX4_lettersOf_39 ?_
    exact zS_reta dX4_lettersOf_41 rfl
  refine zSw_in (c0 := (2 : Int32)) 2 42 dX4_lettersOf_1 (by decide) (by decide) rfl (by decide) ?_ ?_
  · refine zS_ldcS 44 rfl 2 rfl rfl rfl dX4_lettersOf_42 ?_
    exact zS_reta dX4_lettersOf_44 rfl
  refine zSw_in (c0 := (3 : Int32)) 3 45 dX4_lettersOf_1 (by decide) (by decide) rfl (by decide) ?_ ?_
  · refine zS_ldcS 47 rfl 3 rfl rfl rfl dX4_lettersOf_45 ?_
    exact zS_reta dX4_lettersOf_47 rfl
  refine zSw_in (c0 := (4 : Int32)) 4 48 dX4_lettersOf_1 (by decide) (by decide) rfl (by decide) ?_ ?_
  · refine zS_ldcS 50 rfl 4 rfl rfl rfl dX4_lettersOf_48 ?_
    exact zS_reta dX4_lettersOf_50 rfl
  refine zSw_out 51 dX4_lettersOf_1 (by decide) (by decide) ?_
  · refine zS_ldcS 53 rfl 5 rfl rfl rfl dX4_lettersOf_51 ?_
    exact zS_reta dX4_lettersOf_53 rfl

theorem okX4_lettersOf (v0 : Int32) (w : zWd) : zOk gX4_lettersOf zEr [.int v0] w (mX4_lettersOf v0 w) := zOk_of (by decide) rfl (Nat.le_of_ble_eq_true rfl) (sX4_lettersOf v0 w)
