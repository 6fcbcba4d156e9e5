abbrev gX12_needsOf : zMth := (yX12_needsOf, cX12_needsOf, 4, (some .int), 1, zE0)
theorem cbX12_needsOf : zCbV yX12_needsOf cX12_needsOf 4 (some .int) 1 := ⟨zw1367, zw62, zw89, zw1368, by decide, by decide, by decide +kernel⟩
set_option maxHeartbeats 4000000 in
set_option maxRecDepth 100000 in
theorem sX12_needsOf_77 (v3 : Int32) (w : zWd) : zS gX12_needsOf zEi 77 [(3, .int v3)] [] w (mX12_needsOf_77 v3 w) := by
  unfold mX12_needsOf_77
  refine zS_iload_n 78 rfl 0 rfl dX12_needsOf_77 ?_
  exact zS_reti dX12_needsOf_78 rfl

set_option maxHeartbeats 4000000 in
set_option maxRecDepth 100000 in
theorem sX12_needsOf_25 (v0 : Nat) (v1 : Int32) (v2 : Int32) (s0 : Int32) (h0 : zShp v0 = (12, 25)) (w : zWd) : zS gX12_needsOf zEi 25 [(0, .ref v0), (1, .int v1), (2, .int v2)] [.int s0] w (mX12_needsOf_25 v0 v1 v2 s0 w) := by
  unfold mX12_needsOf_25
  refine zS_istore_n 26 rfl dX12_needsOf_25 (by show 3 < 4; decide) (show _ = [(3, .int _), (0, .ref _), (1, .int _), (2, .int _)] from rfl) ?_
  refine zS_aload_n 27 rfl 1 rfl dX12_needsOf_26 ?_
  refine zS_getfp 30 rfl 1 dX12_needsOf_27 zC12 zw1113 (by decide) rfl h0 ?_
  refine zS_sipush 33 rfl (2000 : Int32) (by decide) dX12_needsOf_30 ?_
  refine zS_iload_n 34 rfl 2 rfl dX12_needsOf_33 ?_
  refine zS_iadd 35 rfl dX12_needsOf_34 ?_
  refine zS_iald 36 rfl dX12_needsOf_35 (zP12_s h0) ?_
  refine zS_tsw (lo := 1) ?_
  refine zSw_in (c0 := (1 : Int32)) 0 72 dX12_needsOf_36 (by decide) (by decide) rfl (by decide) ?_ ?_
  · refine zS_iload_n 73 rfl 3 rfl dX12_needsOf_72 ?_
    refine zS_bipush 75 rfl (10 : Int32) (by decide) dX12_needsOf_73 ?_
    refine zS_iadd 76 rfl dX12_needsOf_75 ?_
    exact zS_reti dX12_needsOf_76 rfl
  refine zSw_in (c0 := (2 : Int32)) 1 77 dX12_needsOf_36 (by decide) (by decide) rfl (by decide) ?_ ?_
  · refine zS_sub [0] (show _ = [(3, .int _)] from rfl) ?_
    exact sX12_needsOf_77 _ _
  refine zSw_in (c0 := (3 : Int32)) 2 79 dX12_needsOf_36 (by decide) (by decide) rfl (by decide) ?_ ?_
  · refine zS_iload_n 80 rfl 3 rfl dX12_needsOf_79 ?_
    refine zS_iconst 81 rfl (2 : Int32) (by decide) dX12_needsOf_80 ?_
    refine zS_idivC 82 rfl dX12_needsOf_81 (by decide) ?_
    exact zS_reti dX12_needsOf_82 rfl
  refine zSw_in (c0 := (4 : Int32)) 3 77 dX12_needsOf_36 (by decide) (by decide) rfl (by decide) ?_ ?_
  · refine zS_sub [0] (show _ = [(3, .int _)] from rfl) ?_
    exact sX12_needsOf_77 _ _
  refine zSw_in (c0 := (5 : Int32)) 4 83 dX12_needsOf_36 (by decide) (by decide) rfl (by decide) ?_ ?_
  · refine zS_iload_n 84 rfl 0 rfl dX12_needsOf_83 ?_
    refine zS_iconst 85 rfl (5 : Int32) (by decide) dX12_needsOf_84 ?_
    refine zS_iadd 86 rfl dX12_needsOf_85 ?_
    exact zS_reti dX12_needsOf_86 rfl
  refine zSw_out 87 dX12_needsOf_36 (by decide) (by decide) ?_
  · refine zS_iload_n 88 rfl 3 rfl dX12_needsOf_87 ?_
    exact zS_reti dX12_needsOf_88 rfl

set_option maxHeartbeats 4000000 in
set_option maxRecDepth 100000 in
theorem sX12_needsOf (v0 : Nat) (v1 : Int32) (h0 : zShp v0 = (12, 25)) (w : zWd) : zS gX12_needsOf zEi 0 [(0, .ref v0), (1, .int v1)] [] w (mX12_needsOf v0 v1 w) := by
  unfold mX12_needsOf
  refine zS_aload_n 1 rfl 0 rfl dX12_needsOf_0 ?_
  refine zS_getfp 4 rfl 1 dX12_needsOf_1 zC12 zw1113 (by decide) rfl h0 ?_
  refine zS_sipush 7 rfl (2024 : Int32) (by decide) dX12_needsOf_4 ?_
  refine zS_iload_n 8 rfl 1 rfl dX12_needsOf_7 ?_
  refine zS_iadd 9 rfl dX12_needsOf_8 ?_
  refine zS_iald 10 rfl dX12_needsOf_9 (zP12_s h0) ?_
  refine zS_bni (fun x1 => ?_)
  refine zS_istore_n 11 rfl dX12_needsOf_10 (by show 2 < 4; decide) (show _ = [(2, .int _), (0, .ref _), (1, .int _)] from rfl) ?_
  refine zS_iload_n 12 rfl 0 rfl dX12_needsOf_11 ?_
  refine zS_bipush 14 rfl (20 : Int32) (by decide) dX12_needsOf_12 ?_
  refine zS_icmp_ge 21 17 rfl dX12_needsOf_14 (by decide) ?_ ?_
  · refine zS_iload_n 22 rfl 0 rfl dX12_needsOf_21 ?_
    refine zS_bipush 24 rfl (20 : Int32) (by decide) dX12_needsOf_22 ?_
    refine zS_isub 25 rfl dX12_needsOf_24 ?_
    refine zS_sub [1, 2, 0] (show _ = [(0, .ref _), (1, .int _), (2, .int _)] from rfl) ?_
    exact sX12_needsOf_25 _ _ _ _ h0 _
  · refine zS_iconst 18 rfl (0 : Int32) (by decide) dX12_needsOf_17 ?_
    refine zS_goto 25 dX12_needsOf_18 (by decide) ?_
    refine zS_sub [1, 2, 0] (show _ = [(0, .ref _), (1, .int _), (2, .int _)] from rfl) ?_
    exact sX12_needsOf_25 _ _ _ _ h0 _

theorem okX12_needsOf (v0 : Nat) (v1 : Int32) (w : zWd) (h0 : zShp v0 = (12, 25)) : zOk gX12_needsOf zEi [.ref v0, .int v1] w (mX12_needsOf v0 v1 w) := zOk_of (by decide) rfl (Nat.le_of_ble_eq_true rfl) (sX12_needsOf v0 v1 h0 w)
abbrev gX12_rankOf : zMth := (yX12_rankOf, cX12_rankOf, 4, (some .int), 47, zE0)
theorem cbX12_rankOf : zCbV yX12_rankOf cX12_rankOf 4 (some .int) 2 := ⟨zw1371, zw63, zw89, zw1372, by decide, by decide, by decide +kernel⟩
set_option maxHeartbeats 4000000 in
set_option maxRecDepth 100000 in
theorem sX12_rankOf_37 (s0 : Int32) (s1 : Int32) (w : zWd) : zS gX12_rankOf zEi 37 [] [.int s0, .int s1] w (mX12_rankOf_37 s0 s1 w) := by
  unfold mX12_rankOf_37
  refine zS_isub 38 rfl dX12_rankOf_37 ?_
  exact zS_reti dX12_rankOf_38 rfl

set_option maxHeartbeats 4000000 in
set_option maxRecDepth 100000 in
theorem sX12_rankOf (v0 : Nat) (v1 : Int32) (v2 : Int32) (h0 : zShp v0 = (12, 25)) (w : zWd) : zS gX12_rankOf zEi 0 [(0, .ref v0), (1, .int v1), (2, .int v2)] [] w (mX12_rankOf v0 v1 v2 w) := by
  unfold mX12_rankOf
  refine zS_aload_n 1 rfl 0 rfl dX12_rankOf_0 ?_
  refine zS_getfp 4 rfl 1 dX12_rankOf_1 zC12 zw1113 (by decide) rfl h0 ?_
  refine zS_sipush 7 rfl (2000 : Int32) (by decide) dX12_rankOf_4 ?_
  refine zS_iload_n 8 rfl 1 rfl dX12_rankOf_7 ?_
  refine zS_iadd 9 rfl dX12_rankOf_8 ?_
  refine zS_iald 10 rfl dX12_rankOf_9 (zP12_s h0) ?_
  refine zS_bni (fun x1 => ?_)
  refine zS_istore_n 11 rfl dX12_rankOf_10 (by show 3 < 4; decide) (show _ = [(3, .int _), (0, .ref _), (1, .int _), (2, .int _)] from rfl) ?_
  refine zS_aload_n 12 rfl 1 rfl dX12_rankOf_11 ?_
  refine zS_iconst 13 rfl (0 : Int32) (by decide) dX12_rankOf_12 ?_
  refine zS_iload_n 14 rfl 2 rfl dX12_rankOf_13 ?_
  refine zS_iload_n 15 rfl 3 rfl dX12_rankOf_14 ?_
  refine zS_cVi (as := [.int _, .int _, .int _]) (st := []) (g' := gX12_ruleFor) 18 rfl (okX12_ruleFor _ _ _ _ _ h0) dX12_rankOf_15 zC12 h0 zw1219 cbX12_ruleFor rfl rfl (by decide) (Nat.le_of_ble_eq_true rfl) (fun r2 w3 => ?_)
  refine zS_iload_n 19 rfl 0 rfl dX12_rankOf_18 ?_
  refine zS_iconst 20 rfl (4 : Int32) (by decide) dX12_rankOf_19 ?_
  refine zS_icmp_ne 27 23 rfl dX12_rankOf_20 (by decide) ?_ ?_
  · refine zS_iconst 24 rfl (1 : Int32) (by decide) dX12_rankOf_23 ?_
    refine zS_goto 37 dX12_rankOf_24 (by decide) ?_
    refine zS_sub [] (show _ = [] from rfl) ?_
    exact sX12_rankOf_37 _ _ _
  · refine zS_iload_n 28 rfl 0 rfl dX12_rankOf_27 ?_
    refine zS_iconst 29 rfl (5 : Int32) (by decide) dX12_rankOf_28 ?_
    refine zS_icmp_ne 36 32 rfl dX12_rankOf_29 (by decide) ?_ ?_
    · refine zS_iconst 33 rfl (2 : Int32) (by decide) dX12_rankOf_32 ?_
      refine zS_goto 37 dX12_rankOf_33 (by decide) ?_
      refine zS_sub [] (show _ = [] from rfl) ?_
      exact sX12_rankOf_37 _ _ _
    · refine zS_iconst 37 rfl (0 : Int32) (by decide) dX12_rankOf_36 ?_
      refine zS_sub [] (show _ = [] from rfl) ?_
      exact sX12_rankOf_37 _ _ _

theorem okX12_rankOf (v0 : Nat) (v1 : Int32) (v2 : Int32) (w : zWd) (h0 : zShp v0 = (12, 25)) : zOk gX12_rankOf zEi [.ref v0, .int v1, .int v2] w (mX12_rankOf v0 v1 v2 w) := zOk_of (by decide) rfl (Nat.le_of_ble_eq_true rfl) (sX12_rankOf v0 v1 v2 h0 w)
abbrev gX12_rows : zMth := (yX12_rows, cX12_rows, 4, none, 48, zE0)
theorem cbX12_rows : zCbV yX12_rows cX12_rows 4 none 1 := ⟨zw1375, zw64, zw89, zw1376, by decide, by decide, by decide +kernel⟩
set_option maxHeartbeats 4000000 in
set_option maxRecDepth 100000 in
theorem sX12_rows_124 (k2 : Int32 × zWd → Option (Unit × zWd)) (v0 : Nat) (v1 : Int32) (v2 : Int32) (v3 : Int32) (hk2 : ∀ (v2 : Int32) (w : zWd), zS gX12_rows zEv 2 [(0, .ref v0), (1, .int v1), (2, .int v2)] [] w (k2 (v2, w))) (h0 : zShp v0 = (12, 25)) (w : zWd) : zS gX12_rows zEv 124 [(0, .ref v0), (1, .int v1), (2, .int v2), (3, .int v3)] [] w (mX12_rows_124 k2 v0 v1 v2 v3 w) := by
  unfold mX12_rows_124
  refine zS_aload_n 125 rfl 0 rfl dX12_rows_124 ?_
  refine zS_getfp 128 rfl 15 dX12_rows_125 zC12 zw1127 (by decide) rfl h0 ?_
  refine zS_iload_n 129 rfl 3 rfl dX12_rows_128 ?_
  refine zS_iload_n 130 rfl 2 rfl dX12_rows_129 ?_
  refine zS_iast 131 rfl dX12_rows_130 (zP12_line h0) ?_
  refine zS_bnw (fun w4 => ?_)
  refine zS_iinc 134 rfl 2 (_ + (1 : Int32)) dX12_rows_131 rfl (by show 2 < 4; decide) rfl (show _ = [(2, .int _), (0, .ref _), (1, .int _), (3, .int _)] from rfl) ?_
  refine zS_goto 2 dX12_rows_134 (by decide) ?_
  refine zS_sub [1, 2, 0] (show _ = [(0, .ref _), (1, .int _), (2, .int _)] from rfl) ?_
  exact hk2 _ _

set_option maxHeartbeats 4000000 in
set_option maxRecDepth 100000 in
theorem sX12_rows_104 (k2 : Int32 × zWd → Option (Unit × zWd)) (k26 : Int32 × zWd → Option (Unit × zWd)) (v0 : Nat) (v1 : Int32) (v2 : Int32) (v3 : Int32) (hk2 : ∀ (v2 : Int32) (w : zWd), zS gX12_rows zEv 2 [(0, .ref v0), (1, .int v1), (2, .int v2)] [] w (k2 (v2, w))) (hk26 : ∀ (v3 : Int32) (w : zWd), zS gX12_rows zEv 26 [(0, .ref v0), (1, .int v1), (2, .int v2), (3, .int v3)] [] w (k26 (v3, w))) (h0 : zShp v0 = (12, 25)) (w : zWd) : zS gX12_rows zEv 104 [(0, .ref v0), (1, .int v1), (2, .int v2), (3, .int v3)] [] w (mX12_rows_104 k2 k26 v0 v1 v2 v3 w) := by
  unfold mX12_rows_104
  refine zS_aload_n 105 rfl 0 rfl dX12_rows_104 ?_
  refine zS_getfp 108 rfl 15 dX12_rows_105 zC12 zw1127 (by decide) rfl h0 ?_
  refine zS_iload_n 109 rfl 3 rfl dX12_rows_108 ?_
  refine zS_aload_n 110 rfl 0 rfl dX12_rows_109 ?_
  refine zS_getfp 113 rfl 15 dX12_rows_110 zC12 zw1127 (by decide) rfl h0 ?_
  refine zS_iload_n 114 rfl 3 rfl dX12_rows_113 ?_
  refine zS_iconst 115 rfl (1 : Int32) (by decide) dX12_rows_114 ?_
  refine zS_isub 116 rfl dX12_rows_115 ?_
  refine zS_iald 117 rfl dX12_rows_116 (zP12_line h0) ?_
  refine zS_iast 118 rfl dX12_rows_117 (zP12_line h0) ?_
  refine zS_bnw (fun w5 => ?_)
  refine zS_iinc 121 rfl 3 (_ + (-1 : Int32)) dX12_rows_118 rfl (by show 3 < 4; decide) rfl (show _ = [(3, .int _), (0, .ref _), (1, .int _), (2, .int _)] from rfl) ?_
  refine zS_goto 26 dX12_rows_121 (by decide) ?_
  refine zS_sub [1, 2, 3, 0] (show _ = [(0, .ref _), (1, .int _), (2, .int _), (3, .int _)] from rfl) ?_
  exact hk26 _ _

set_option maxHeartbeats 4000000 in
set_option maxRecDepth 100000 in
theorem sX12_rows_26b (k2 : Int32 × zWd → Option (Unit × zWd)) (v0 : Nat) (v1 : Int32) (v2 : Int32) (k26 : Int32 × zWd → Option (Unit × zWd)) (v3 : Int32) (hk2 : ∀ (v2 : Int32) (w : zWd), zS gX12_rows zEv 2 [(0, .ref v0), (1, .int v1), (2, .int v2)] [] w (k2 (v2, w))) (hk26 : ∀ (v3 : Int32) (w : zWd), zS gX12_rows zEv 26 [(0, .ref v0), (1, .int v1), (2, .int v2), (3, .int v3)] [] w (k26 (v3, w))) (h0 : zShp v0 = (12, 25)) (w : zWd) : zS gX12_rows zEv 26 [(0, .ref v0), (1, .int v1), (2, .int v2), (3, .int v3)] [] w (mX12_rows_26b k2 v0 v1 v2 k26 v3 w) := by
  unfold mX12_rows_26b
  refine zS_iload_n 27 rfl 3 rfl dX12_rows_26 ?_
  refine zS_if_le 124 30 rfl dX12_rows_27 (by decide) ?_ ?_
  · exact sX12_rows_124 k2 _ _ _ _ hk2 h0 _
  · refine zS_aload_n 31 rfl 0 rfl dX12_rows_30 ?_
    refine zS_getfp 34 rfl 16 dX12_rows_31 zC12 zw1128 (by decide) rfl h0 ?_
    refine zS_aload_n 35 rfl 0 rfl dX12_rows_34 ?_
    refine zS_getfp 38 rfl 15 dX12_rows_35 zC12 zw1127 (by decide) rfl h0 ?_
    refine zS_iload_n 39 rfl 3 rfl dX12_rows_38 ?_
    refine zS_iconst 40 rfl (1 : Int32) (by decide) dX12_rows_39 ?_
    refine zS_isub 41 rfl dX12_rows_40 ?_
    refine zS_iald 42 rfl dX12_rows_41 (zP12_line h0) ?_
    refine zS_iald 43 rfl dX12_rows_42 (zP12_ranks h0) ?_
    refine zS_aload_n 44 rfl 0 rfl dX12_rows_43 ?_
    refine zS_getfp 47 rfl 16 dX12_rows_44 zC12 zw1128 (by decide) rfl h0 ?_
    refine zS_iload_n 48 rfl 2 rfl dX12_rows_47 ?_
    refine zS_iald 49 rfl dX12_rows_48 (zP12_ranks h0) ?_
    refine zS_icmp_gt 104 52 rfl dX12_rows_49 (by decide) ?_ ?_
    · exact sX12_rows_104 k2 k26 _ _ _ _ hk2 hk26 h0 _
    · refine zS_aload_n 53 rfl 0 rfl dX12_rows_52 ?_
      refine zS_getfp 56 rfl 16 dX12_rows_53 zC12 zw1128 (by decide) rfl h0 ?_
      refine zS_aload_n 57 rfl 0 rfl dX12_rows_56 ?_
      refine zS_getfp 60 rfl 15 dX12_rows_57 zC12 zw1127 (by decide) rfl h0 ?_
      refine zS_iload_n 61 rfl 3 rfl dX12_rows_60 ?_
      refine zS_iconst 62 rfl (1 : Int32) (by decide) dX12_rows_61 ?_
      refine zS_isub 63 rfl dX12_rows_62 ?_
      refine zS_iald 64 rfl dX12_rows_63 (zP12_line h0) ?_
      refine zS_iald 65 rfl dX12_rows_64 (zP12_ranks h0) ?_
      refine zS_aload_n 66 rfl 0 rfl dX12_rows_65 ?_
      refine zS_getfp 69 rfl 16 dX12_rows_66 zC12 zw1128 (by decide) rfl h0 ?_
      refine zS_iload_n 70 rfl 2 rfl dX12_rows_69 ?_
      refine zS_iald 71 rfl dX12_rows_70 (zP12_ranks h0) ?_
      refine zS_icmp_ne 124 74 rfl dX12_rows_71 (by decide) ?_ ?_
      · refine zS_aload_n 75 rfl 0 rfl dX12_rows_74 ?_
        refine zS_getfp 78 rfl 1 dX12_rows_75 zC12 zw1113 (by decide) rfl h0 ?_
        refine zS_sipush 81 rfl (2032 : Int32) (by decide) dX12_rows_78 ?_
        refine zS_aload_n 82 rfl 0 rfl dX12_rows_81 ?_
        refine zS_getfp 85 rfl 15 dX12_rows_82 zC12 zw1127 (by decide) rfl h0 ?_
        refine zS_iload_n 86 rfl 3 rfl dX12_rows_85 ?_
        refine zS_iconst 87 rfl (1 : Int32) (by decide) dX12_rows_86 ?_
        refine zS_isub 88 rfl dX12_rows_87 ?_
        refine zS_iald 89 rfl dX12_rows_88 (zP12_line h0) ?_
        refine zS_iadd 90 rfl dX12_rows_89 ?_
        refine zS_iald 91 rfl dX12_rows_90 (zP12_s h0) ?_
        refine zS_aload_n 92 rfl 0 rfl dX12_rows_91 ?_
        refine zS_getfp 95 rfl 1 dX12_rows_92 zC12 zw1113 (by decide) rfl h0 ?_
        refine zS_sipush 98 rfl (2032 : Int32) (by decide) dX12_rows_95 ?_
        refine zS_iload_n 99 rfl 2 rfl dX12_rows_98 ?_
        refine zS_iadd 100 rfl dX12_rows_99 ?_
        refine zS_iald 101 rfl dX12_rows_100 (zP12_s h0) ?_
        refine zS_icmp_le 124 104 rfl dX12_rows_101 (by decide) ?_ ?_
        · exact sX12_rows_124 k2 _ _ _ _ hk2 h0 _
        · exact sX12_rows_104 k2 k26 _ _ _ _ hk2 hk26 h0 _
      · exact sX12_rows_124 k2 _ _ _ _ hk2 h0 _

theorem sX12_rows_26 (k2 : Int32 × zWd → Option (Unit × zWd)) (v0 : Nat) (v1 : Int32) (v2 : Int32) (v3 : Int32) (hk2 : ∀ (v2 : Int32) (w : zWd), zS gX12_rows zEv 2 [(0, .ref v0), (1, .int v1), (2, .int v2)] [] w (k2 (v2, w))) (h0 : zShp v0 = (12, 25)) (w : zWd) : zS gX12_rows zEv 26 [(0, .ref v0), (1, .int v1), (2, .int v2), (3, .int v3)] [] w (mX12_rows_26 k2 v0 v1 v2 v3 w) :=
  zS_loop (L := fun q : Int32 × zWd => [(0, .ref v0), (1, .int v1), (2, .int v2), (3, .int q.1)]) (V := fun q => q.2) (T := fun _ => []) (F := fun k q => mX12_rows_26b k2 v0 v1 v2 k q.1 q.2) (fun k hk q => sX12_rows_26b k2 v0 v1 v2 k q.1 hk2 (fun a3 w => hk (a3, w)) h0 q.2) zFU (v3, w)
set_option maxHeartbeats 4000000 in
set_option maxRecDepth 100000 in
theorem sX12_rows_2b (v0 : Nat) (v1 : Int32) (k2 : Int32 × zWd → Option (Unit × zWd)) (v2 : Int32) (hk2 : ∀ (v2 : Int32) (w : zWd), zS gX12_rows zEv 2 [(0, .ref v0), (1, .int v1), (2, .int v2)] [] w (k2 (v2, w))) (h0 : zShp v0 = (12, 25)) (w : zWd) : zS gX12_rows zEv 2 [(0, .ref v0), (1, .int v1), (2, .int v2)] [] w (mX12_rows_2b v0 v1 k2 v2 w) := by
  unfold mX12_rows_2b
  refine zS_iload_n 3 rfl 2 rfl dX12_rows_2 ?_
  refine zS_aload_n 4 rfl 0 rfl dX12_rows_3 ?_
  refine zS_getfp 7 rfl 1 dX12_rows_4 zC12 zw1113 (by decide) rfl h0 ?_
  refine zS_iconst 8 rfl (3 : Int32) (by decide) dX12_rows_7 ?_
  refine zS_iald 9 rfl dX12_rows_8 (zP12_s h0) ?_
  refine zS_icmp_ge 137 12 rfl dX12_rows_9 (by decide) ?_ ?_
  · exact zS_retv dX12_rows_137 rfl
  · refine zS_aload_n 13 rfl 0 rfl dX12_rows_12 ?_
    refine zS_getfp 16 rfl 16 dX12_rows_13 zC12 zw1128 (by decide) rfl h0 ?_
    refine zS_iload_n 17 rfl 2 rfl dX12_rows_16 ?_
    refine zS_aload_n 18 rfl 0 rfl dX12_rows_17 ?_
    refine zS_iload_n 19 rfl 2 rfl dX12_rows_18 ?_
    refine zS_iload_n 20 rfl 1 rfl dX12_rows_19 ?_
    refine zS_cVi (as := [.int _, .int _]) (st := [.int _, .ref _]) (g' := gX12_rankOf) 23 rfl (okX12_rankOf _ _ _ _ h0) dX12_rows_20 zC12 h0 zw1369 cbX12_rankOf rfl rfl (by decide) (Nat.le_of_ble_eq_true rfl) (fun r1 w2 => ?_)
    refine zS_iast 24 rfl dX12_rows_23 (zP12_ranks h0) ?_
    refine zS_bnw (fun w3 => ?_)
    refine zS_iload_n 25 rfl 2 rfl dX12_rows_24 ?_
    refine zS_istore_n 26 rfl dX12_rows_25 (by show 3 < 4; decide) (show _ = [(3, .int _), (0, .ref _), (1, .int _), (2, .int _)] from rfl) ?_
    refine zS_sub [1, 2, 3, 0] (show _ = [(0, .ref _), (1, .int _), (2, .int _), (3, .int _)] from rfl) ?_
    exact sX12_rows_26 k2 _ _ _ _ hk2 h0 _

theorem sX12_rows_2 (v0 : Nat) (v1 : Int32) (v2 : Int32) (h0 : zShp v0 = (12, 25)) (w : zWd) : zS gX12_rows zEv 2 [(0, .ref v0), (1, .int v1), (2, .int v2)] [] w (mX12_rows_2 v0 v1 v2 w) :=
  zS_loop (L := fun q : Int32 × zWd => [(0, .ref v0), (1, .int v1), (2, .int q.1)]) (V := fun q => q.2) (T := fun _ => []) (F := fun k q => mX12_rows_2b v0 v1 k q.1 q.2) (fun k hk q => sX12_rows_2b v0 v1 k q.1 (fun a2 w => hk (a2, w)) h0 q.2) zFU (v2, w)
set_option maxHeartbeats 4000000 in
set_option maxRecDepth 100000 in
theorem sX12_rows (v0 : Nat) (v1 : Int32) (h0 : zShp v0 = (12, 25)) (w : zWd) : zS gX12_rows zEv 0 [(0, .ref v0), (1, .int v1)] [] w (mX12_rows v0 v1 w) := by
  unfold mX12_rows
  refine zS_iconst 1 rfl (0 : Int32) (by decide) dX12_rows_0 ?_
  refine zS_istore_n 2 rfl dX12_rows_1 (by show 2 < 4; decide) (show _ = [(2, .int _), (0, .ref _), (1, .int _)] from rfl) ?_
  refine zS_sub [1, 2, 0] (show _ = [(0, .ref _), (1, .int _), (2, .int _)] from rfl) ?_
  exact sX12_rows_2 _ _ _ h0 _

theorem okX12_rows (v0 : Nat) (v1 : Int32) (w : zWd) (h0 : zShp v0 = (12, 25)) : zOk gX12_rows zEv [.ref v0, .int v1] w (mX12_rows v0 v1 w) := zOk_of (by decide) rfl (Nat.le_of_ble_eq_true rfl) (sX12_rows v0 v1 h0 w)
abbrev gX12_of : zMth := (yX12_of, cX12_of, 4, (some .int), 49, zE0)
theorem cbX12_of : zCbV yX12_of cX12_of 4 (some .int) 2 := ⟨zw1362, zw1363, zw89, zw1364, by decide, by decide, by decide +kernel⟩
set_option maxHeartbeats 4000000 in
set_option maxRecDepth 100000 in
theorem sX12_of_66b (v0 : Nat) (v1 : Int32) (k66 : Int32 × zWd → Option (Int32 × zWd)) (v3 : Int32) (hk66 : ∀ (v3 : Int32) (w : zWd), zS gX12_of zEi 66 [(0, .ref v0), (1, .int v1), (3, .int v3)] [] w (k66 (v3, w))) (h0 : zShp v0 = (12, 25)) (w : zWd) : zS gX12_of zEi 66 [(0, .ref v0), (1, .int v1), (3, .int v3)] [] w (mX12_of_66b v0 v1 k66 v3 w) := by
  unfold mX12_of_66b
  refine zS_aload_n 67 rfl 0 rfl dX12_of_66 ?_
  refine zS_getfp 70 rfl 15 dX12_of_67 zC12 zw1127 (by decide) rfl h0 ?_
  refine zS_iload_n 71 rfl 2 rfl dX12_of_70 ?_
  refine zS_iald 72 rfl dX12_of_71 (zP12_line h0) ?_
  refine zS_iload_n 73 rfl 1 rfl dX12_of_72 ?_
  refine zS_icmp_eq 82 76 rfl dX12_of_73 (by decide) ?_ ?_
  · refine zS_iload_n 83 rfl 2 rfl dX12_of_82 ?_
    exact zS_reti dX12_of_83 rfl
  · refine zS_iinc 79 rfl 2 (_ + (1 : Int32)) dX12_of_76 rfl (by show 3 < 4; decide) rfl (show _ = [(3, .int _), (0, .ref _), (1, .int _)] from rfl) ?_
    refine zS_goto 66 dX12_of_79 (by decide) ?_
    refine zS_sub [1, 2, 0] (show _ = [(0, .ref _), (1, .int _), (3, .int _)] from rfl) ?_
    exact hk66 _ _

theorem sX12_of_66 (v0 : Nat) (v1 : Int32) (v3 : Int32) (h0 : zShp v0 = (12, 25)) (w : zWd) : zS gX12_of zEi 66 [(0, .ref v0), (1, .int v1), (3, .int v3)] [] w (mX12_of_66 v0 v1 v3 w) :=
  zS_loop (L := fun q : Int32 × zWd => [(0, .ref v0), (1, .int v1), (3, .int q.1)]) (V := fun q => q.2) (T := fun _ => []) (F := fun k q => mX12_of_66b v0 v1 k q.1 q.2) (fun k hk q => sX12_of_66b v0 v1 k q.1 (fun a3 w => hk (a3, w)) h0 q.2) zFU (v3, w)
set_option maxHeartbeats 4000000 in
set_option maxRecDepth 100000 in
theorem sX12_of (v0 : Nat) (v1 : Int32) (v2 : Int32) (h0 : zShp v0 = (12, 25)) (w : zWd) : zS gX12_of zEi 0 [(0, .ref v0), (1, .int v1), (2, .int v2)] [] w (mX12_of v0 v1 v2 w) := by
  unfold mX12_of
  refine zS_aload_n 1 rfl 0 rfl dX12_of_0 ?_
  refine zS_iload_n 2 rfl 1 rfl dX12_of_1 ?_
  refine zS_cVi (as := [.int _]) (st := []) (g' := gX12_isTaker) 5 rfl (okX12_isTaker _ _ _ h0) dX12_of_2 zC12 h0 zw1349 cbX12_isTaker rfl rfl (by decide) (Nat.le_of_ble_eq_true rfl) (fun r1 w2 => ?_)
  refine zS_if_ne 10 8 rfl dX12_of_5 (by decide) ?_ ?_
  · refine zS_iconst 9 rfl (-1 : Int32) (by decide) dX12_of_8 ?_
    exact zS_reti dX12_of_9 rfl
  · refine zS_iload_n 11 rfl 2 rfl dX12_of_10 ?_
    refine zS_tsw (lo := 0) ?_
    refine zSw_in (c0 := (0 : Int32)) 0 36 dX12_of_11 (by decide) (by decide) rfl (by decide) ?_ ?_
    · refine zS_aload_n 37 rfl 0 rfl dX12_of_36 ?_
      refine zS_iload_n 38 rfl 1 rfl dX12_of_37 ?_
      refine zS_cVi (as := [.int _]) (st := []) (g' := gX12_needsOf) 41 rfl (okX12_needsOf _ _ _ h0) dX12_of_38 zC12 h0 zw1365 cbX12_needsOf rfl rfl (by decide) (Nat.le_of_ble_eq_true rfl) (fun r3 w4 => ?_)
      exact zS_reti dX12_of_41 rfl
    refine zSw_in (c0 := (1 : Int32)) 1 42 dX12_of_11 (by decide) (by decide) rfl (by decide) ?_ ?_
    · refine zS_aload_n 43 rfl 0 rfl dX12_of_42 ?_
      refine zS_iload_n 44 rfl 1 rfl dX12_of_43 ?_
      refine zS_aload_n 45 rfl 0 rfl dX12_of_44 ?_
      refine zS_getfp 48 rfl 1 dX12_of_45 zC12 zw1113 (by decide) rfl h0 ?_
      refine zS_iconst 49 rfl (0 : Int32) (by decide) dX12_of_48 ?_
      refine zS_iald 50 rfl dX12_of_49 (zP12_s h0) ?_
      refine zS_cVi (as := [.int _, .int _]) (st := []) (g' := gX12_rankOf) 53 rfl (okX12_rankOf _ _ _ _ h0) dX12_of_50 zC12 h0 zw1369 cbX12_rankOf rfl rfl (by decide) (Nat.le_of_ble_eq_true rfl) (fun r5 w6 => ?_)
      exact zS_reti dX12_of_53 rfl
    refine zSw_in (c0 := (2 : Int32)) 2 54 dX12_of_11 (by decide) (by decide) rfl (by decide) ?_ ?_
    · refine zS_aload_n 55 rfl 0 rfl dX12_of_54 ?_
      refine zS_aload_n 56 rfl 0 rfl dX12_of_55 ?_
      refine zS_getfp 59 rfl 1 dX12_of_56 zC12 zw1113 (by decide) rfl h0 ?_
      refine zS_iconst 60 rfl (0 : Int32) (by decide) dX12_of_59 ?_
      refine zS_iald 61 rfl dX12_of_60 (zP12_s h0) ?_
      refine zS_cVv (as := [.int _]) (st := []) (g' := gX12_rows) 64 rfl (okX12_rows _ _ _ h0) dX12_of_61 zC12 h0 zw1373 cbX12_rows rfl rfl (by decide) (Nat.le_of_ble_eq_true rfl) (fun r7 w8 => ?_)
      refine zS_iconst 65 rfl (0 : Int32) (by decide) dX12_of_64 ?_
      refine zS_istore_n 66 rfl dX12_of_65 (by show 3 < 4; decide) (show _ = [(3, .int _), (0, .ref _), (1, .int _), (2, .int _)] from rfl) ?_
      refine zS_sub [1, 2, 0] (show _ = [(0, .ref _), (1, .int _), (3, .int _)] from rfl) ?_
      exact sX12_of_66 _ _ _ h0 _
    refine zSw_out 84 dX12_of_11 (by decide) (by decide) ?_
    · refine zS_iconst 85 rfl (-1 : Int32) (by decide) dX12_of_84 ?_
      exact zS_reti dX12_of_85 rfl

theorem okX12_of (v0 : Nat) (v1 : Int32) (v2 : Int32) (w : zWd) (h0 : zShp v0 = (12, 25)) : zOk gX12_of zEi [.ref v0, .int v1, .int v2] w (mX12_of v0 v1 v2 w) := zOk_of (by decide) rfl (Nat.le_of_ble_eq_true rfl) (sX12_of v0 v1 v2 h0 w)
abbrev gX12_as : zMth := (yX12_as, cX12_as, 5, (some .int), 3, zE0)
theorem cbX12_as : zCbV yX12_as cX12_as 5 (some .int) 2 := ⟨zw1378, zw1379, zw89, zw1380, by decide, by decide, by decide +kernel⟩
set_option maxHeartbeats 4000000 in
set_option maxRecDepth 100000 in
theorem sX12_as_17 (w : zWd) : zS gX12_as zEi 17 [] [] w (mX12_as_17 w) := by
  unfold mX12_as_17
  refine zS_iconst 18 rfl (-1 : Int32) (by decide) dX12_as_17 ?_
  exact zS_reti dX12_as_18 rfl

set_option maxHeartbeats 4000000 in
set_option maxRecDepth 100000 in
theorem sX12_as_86 (s0 : Int32) (w : zWd) : zS gX12_as zEi 86 [] [.int s0] w (mX12_as_86 s0 w) := by
  unfold mX12_as_86
  exact zS_reti dX12_as_86 rfl

set_option maxHeartbeats 4000000 in
set_option maxRecDepth 100000 in
theorem sX12_as_64 (v0 : Nat) (v1 : Int32) (s0 : Int32) (h0 : zShp v0 = (12, 25)) (w : zWd) : zS gX12_as zEi 64 [(0, .ref v0), (1, .int v1)] [.int s0] w (mX12_as_64 v0 v1 s0 w) := by
  unfold mX12_as_64
  refine zS_istore 66 rfl dX12_as_64 (by show 4 < 5; decide) (show _ = [(4, .int _), (0, .ref _), (1, .int _)] from rfl) ?_
  refine zS_iload 68 rfl 0 rfl dX12_as_66 ?_
  refine zS_if_eq 84 71 rfl dX12_as_68 (by decide) ?_ ?_
  · refine zS_bipush 86 rfl (-6 : Int32) (by decide) dX12_as_84 ?_
    refine zS_sub [] (show _ = [] from rfl) ?_
    exact sX12_as_86 _ _
  · refine zS_aload_n 72 rfl 1 rfl dX12_as_71 ?_
    refine zS_getfp 75 rfl 1 dX12_as_72 zC12 zw1113 (by decide) rfl h0 ?_
    refine zS_sipush 78 rfl (2016 : Int32) (by decide) dX12_as_75 ?_
    refine zS_iload_n 79 rfl 2 rfl dX12_as_78 ?_
    refine zS_iadd 80 rfl dX12_as_79 ?_
    refine zS_iald 81 rfl dX12_as_80 (zP12_s h0) ?_
    refine zS_goto 86 dX12_as_81 (by decide) ?_
    refine zS_sub [] (show _ = [] from rfl) ?_
    exact sX12_as_86 _ _

set_option maxHeartbeats 4000000 in
set_option maxRecDepth 100000 in
theorem sX12_as_59 (v0 : Nat) (v1 : Int32) (h0 : zShp v0 = (12, 25)) (w : zWd) : zS gX12_as zEi 59 [(0, .ref v0), (1, .int v1)] [] w (mX12_as_59 v0 v1 w) := by
  unfold mX12_as_59
  refine zS_iconst 60 rfl (1 : Int32) (by decide) dX12_as_59 ?_
  refine zS_goto 64 dX12_as_60 (by decide) ?_
  exact sX12_as_64 _ _ _ h0 _

set_option maxHeartbeats 4000000 in
set_option maxRecDepth 100000 in
theorem sX12_as_63 (v0 : Nat) (v1 : Int32) (h0 : zShp v0 = (12, 25)) (w : zWd) : zS gX12_as zEi 63 [(0, .ref v0), (1, .int v1)] [] w (mX12_as_63 v0 v1 w) := by
  unfold mX12_as_63
  refine zS_iconst 64 rfl (0 : Int32) (by decide) dX12_as_63 ?_
  exact sX12_as_64 _ _ _ h0 _

set_option maxHeartbeats 4000000 in
set_option maxRecDepth 100000 in
theorem sX12_as_49 (v0 : Nat) (v1 : Int32) (v2 : Int32) (v3 : Int32) (h0 : zShp v0 = (12, 25)) (w : zWd) : zS gX12_as zEi 49 [(0, .ref v0), (1, .int v1), (2, .int v2), (3, .int v3)] [] w (mX12_as_49 v0 v1 v2 v3 w) := by
  unfold mX12_as_49
  refine zS_iload_n 50 rfl 2 rfl dX12_as_49 ?_
  refine zS_iconst 51 rfl (4 : Int32) (by decide) dX12_as_50 ?_
  refine zS_icmp_ne 63 54 rfl dX12_as_51 (by decide) ?_ ?_
  · refine zS_iload_n 55 rfl 3 rfl dX12_as_54 ?_
    refine zS_iconst 56 rfl (5 : Int32) (by decide) dX12_as_55 ?_
    refine zS_icmp_ne 63 59 rfl dX12_as_56 (by decide) ?_ ?_
    · refine zS_sub [0, 1] (show _ = [(0, .ref _), (1, .int _)] from rfl) ?_
      exact sX12_as_59 _ _ h0 _
    · refine zS_sub [0, 1] (show _ = [(0, .ref _), (1, .int _)] from rfl) ?_
      exact sX12_as_63 _ _ h0 _
  · refine zS_sub [0, 1] (show _ = [(0, .ref _), (1, .int _)] from rfl) ?_
    exact sX12_as_63 _ _ h0 _

set_option maxHeartbeats 4000000 in
set_option maxRecDepth 100000 in
theorem sX12_as (v0 : Nat) (v1 : Int32) (v2 : Int32) (h0 : zShp v0 = (12, 25)) (w : zWd) : zS gX12_as zEi 0 [(0, .ref v0), (1, .int v1), (2, .int v2)] [] w (mX12_as v0 v1 v2 w) := by
  unfold mX12_as
  refine zS_aload_n 1 rfl 0 rfl dX12_as_0 ?_
  refine zS_iload_n 2 rfl 1 rfl dX12_as_1 ?_
  refine zS_cVi (as := [.int _]) (st := []) (g' := gX12_isTaker) 5 rfl (okX12_isTaker _ _ _ h0) dX12_as_2 zC12 h0 zw1349 cbX12_isTaker rfl rfl (by decide) (Nat.le_of_ble_eq_true rfl) (fun r1 w2 => ?_)
  refine zS_if_eq 17 8 rfl dX12_as_5 (by decide) ?_ ?_
  · refine zS_sub [] (show _ = [] from rfl) ?_
    exact sX12_as_17 _
  · refine zS_iload_n 9 rfl 2 rfl dX12_as_8 ?_
    refine zS_iconst 10 rfl (0 : Int32) (by decide) dX12_as_9 ?_
    refine zS_iconst 11 rfl (5 : Int32) (by decide) dX12_as_10 ?_
    refine zS_cSi (as := [.int _, .int _, .int _]) (st := []) (g' := gX12_in) 14 rfl (okX12_in _ _ _ _) dX12_as_11 zw1196 cbX12_in rfl rfl (by decide) (Nat.le_of_ble_eq_true rfl) (fun r3 w4 => ?_)
    refine zS_if_ne 19 17 rfl dX12_as_14 (by decide) ?_ ?_
    · refine zS_sub [] (show _ = [] from rfl) ?_
      exact sX12_as_17 _
    · refine zS_aload_n 20 rfl 0 rfl dX12_as_19 ?_
      refine zS_getfp 23 rfl 1 dX12_as_20 zC12 zw1113 (by decide) rfl h0 ?_
      refine zS_sipush 26 rfl (2000 : Int32) (by decide) dX12_as_23 ?_
      refine zS_iload_n 27 rfl 1 rfl dX12_as_26 ?_
      refine zS_iadd 28 rfl dX12_as_27 ?_
      refine zS_iald 29 rfl dX12_as_28 (zP12_s h0) ?_
      refine zS_bni (fun x5 => ?_)
      refine zS_istore_n 30 rfl dX12_as_29 (by show 3 < 5; decide) (show _ = [(3, .int _), (0, .ref _), (1, .int _), (2, .int _)] from rfl) ?_
      refine zS_iload_n 31 rfl 3 rfl dX12_as_30 ?_
      refine zS_if_eq 59 34 rfl dX12_as_31 (by decide) ?_ ?_
      · refine zS_sub [1, 2] (show _ = [(0, .ref _), (1, .int _)] from rfl) ?_
        exact sX12_as_59 _ _ h0 _
      · refine zS_iload_n 35 rfl 3 rfl dX12_as_34 ?_
        refine zS_iload_n 36 rfl 0 rfl dX12_as_35 ?_
        refine zS_icmp_eq 59 39 rfl dX12_as_36 (by decide) ?_ ?_
        · refine zS_sub [1, 2] (show _ = [(0, .ref _), (1, .int _)] from rfl) ?_
          exact sX12_as_59 _ _ h0 _
        · refine zS_iload_n 40 rfl 3 rfl dX12_as_39 ?_
          refine zS_iconst 41 rfl (2 : Int32) (by decide) dX12_as_40 ?_
          refine zS_icmp_ne 49 44 rfl dX12_as_41 (by decide) ?_ ?_
          · refine zS_iload_n 45 rfl 0 rfl dX12_as_44 ?_
            refine zS_iconst 46 rfl (4 : Int32) (by decide) dX12_as_45 ?_
            refine zS_icmp_ge 59 49 rfl dX12_as_46 (by decide) ?_ ?_
            · refine zS_sub [1, 2] (show _ = [(0, .ref _), (1, .int _)] from rfl) ?_
              exact sX12_as_59 _ _ h0 _
            · refine zS_sub [1, 2, 3, 0] (show _ = [(0, .ref _), (1, .int _), (2, .int _), (3, .int _)] from rfl) ?_
              exact sX12_as_49 _ _ _ _ h0 _
          · refine zS_sub [1, 2, 3, 0] (show _ = [(0, .ref _), (1, .int _), (2, .int _), (3, .int _)] from rfl) ?_
            exact sX12_as_49 _ _ _ _ h0 _

theorem okX12_as (v0 : Nat) (v1 : Int32) (v2 : Int32) (w : zWd) (h0 : zShp v0 = (12, 25)) : zOk gX12_as zEi [.ref v0, .int v1, .int v2] w (mX12_as v0 v1 v2 w) := zOk_of (by decide) rfl (Nat.le_of_ble_eq_true rfl) (sX12_as v0 v1 v2 h0 w)
abbrev gX12_row : zMth := (yX12_row, cX12_row, 3, (some .int), 49, zE0)
theorem cbX12_row : zCbV yX12_row cX12_row 3 (some .int) 2 := ⟨zw1382, zw1383, zw89, zw1384, by decide, by decide, by decide +kernel⟩
set_option maxHeartbeats 4000000 in
set_option maxRecDepth 100000 in
theorem sX12_row (v0 : Nat) (v1 : Int32) (v2 : Int32) (h0 : zShp v0 = (12, 25)) (w : zWd) : zS gX12_row zEi 0 [(0, .ref v0), (1, .int v1), (2, .int v2)] [] w (mX12_row v0 v1 v2 w) := by
  unfold mX12_row
  refine zS_iload_n 1 rfl 2 rfl dX12_row_0 ?_
  refine zS_iconst 2 rfl (0 : Int32) (by decide) dX12_row_1 ?_
  refine zS_aload_n 3 rfl 0 rfl dX12_row_2 ?_
  refine zS_getfp 6 rfl 1 dX12_row_3 zC12 zw1113 (by decide) rfl h0 ?_
  refine zS_iconst 7 rfl (3 : Int32) (by decide) dX12_row_6 ?_
  refine zS_iald 8 rfl dX12_row_7 (zP12_s h0) ?_
  refine zS_iconst 9 rfl (1 : Int32) (by decide) dX12_row_8 ?_
  refine zS_isub 10 rfl dX12_row_9 ?_
  refine zS_cSi (as := [.int _, .int _, .int _]) (st := []) (g' := gX12_in) 13 rfl (okX12_in _ _ _ _) dX12_row_10 zw1196 cbX12_in rfl rfl (by decide) (Nat.le_of_ble_eq_true rfl) (fun r1 w2 => ?_)
  refine zS_if_ne 18 16 rfl dX12_row_13 (by decide) ?_ ?_
  · refine zS_iconst 17 rfl (-1 : Int32) (by decide) dX12_row_16 ?_
    exact zS_reti dX12_row_17 rfl
  · refine zS_iload_n 19 rfl 1 rfl dX12_row_18 ?_
    refine zS_cSi (as := [.int _]) (st := []) (g' := gX12_isDay) 22 rfl (okX12_isDay _ _) dX12_row_19 zw1318 cbX12_isDay rfl rfl (by decide) (Nat.le_of_ble_eq_true rfl) (fun r3 w4 => ?_)
    refine zS_if_ne 28 25 rfl dX12_row_22 (by decide) ?_ ?_
    · refine zS_bipush 27 rfl (-2 : Int32) (by decide) dX12_row_25 ?_
      exact zS_reti dX12_row_27 rfl
    · refine zS_aload_n 29 rfl 0 rfl dX12_row_28 ?_
      refine zS_iload_n 30 rfl 1 rfl dX12_row_29 ?_
      refine zS_cVv (as := [.int _]) (st := []) (g' := gX12_rows) 33 rfl (okX12_rows _ _ _ h0) dX12_row_30 zC12 h0 zw1373 cbX12_rows rfl rfl (by decide) (Nat.le_of_ble_eq_true rfl) (fun r5 w6 => ?_)
      refine zS_aload_n 34 rfl 0 rfl dX12_row_33 ?_
      refine zS_getfp 37 rfl 15 dX12_row_34 zC12 zw1127 (by decide) rfl h0 ?_
      refine zS_iload_n 38 rfl 2 rfl dX12_row_37 ?_
      refine zS_iald 39 rfl dX12_row_38 (zP12_line h0) ?_
      exact zS_reti dX12_row_39 rfl

theorem okX12_row (v0 : Nat) (v1 : Int32) (v2 : Int32) (w : zWd) (h0 : zShp v0 = (12, 25)) : zOk gX12_row zEi [.ref v0, .int v1, .int v2] w (mX12_row v0 v1 v2 w) := zOk_of (by decide) rfl (Nat.le_of_ble_eq_true rfl) (sX12_row v0 v1 v2 h0 w)
abbrev gX12_isOwner : zMth := (yX12_isOwner, cX12_isOwner, 1, (some .boolean), 2, zE0)
theorem cbX12_isOwner : zCbS yX12_isOwner cX12_isOwner 1 (some .boolean) 1 := ⟨zw1390, zw89, zw1391, by decide, by decide, by decide +kernel⟩
set_option maxHeartbeats 4000000 in
set_option maxRecDepth 100000 in
theorem sX12_isOwner (v0 : Int32) (w : zWd) : zS gX12_isOwner zEi 0 [(0, .int v0)] [] w (mX12_isOwner v0 w) := by
  unfold mX12_isOwner
  refine zS_iload_n 1 rfl 0 rfl dX12_isOwner_0 ?_
  refine zS_iconst 2 rfl (0 : Int32) (by decide) dX12_isOwner_1 ?_
  refine zS_bipush 4 rfl (9 : Int32) (by decide) dX12_isOwner_2 ?_
  refine zS_cSi (as := [.int _, .int _, .int _]) (st := []) (g' := gX12_in) 7 rfl (okX12_in _ _ _ _) dX12_isOwner_4 zw1196 cbX12_in rfl rfl (by decide) (Nat.le_of_ble_eq_true rfl) (fun r1 w2 => ?_)
  exact zS_retb dX12_isOwner_7 rfl

theorem okX12_isOwner (v0 : Int32) (w : zWd) : zOk gX12_isOwner zEi [.int v0] w (mX12_isOwner v0 w) := zOk_of (by decide) rfl (Nat.le_of_ble_eq_true rfl) (sX12_isOwner v0 w)
abbrev gX12_sell : zMth := (yX12_sell, cX12_sell, 6, (some .int), 3, zE0)
theorem cbX12_sell : zCbV yX12_sell cX12_sell 6 (some .int) 4 := ⟨zw1386, zw1387, zw89, zw1388, by decide, by decide, by decide +kernel⟩
set_option maxHeartbeats 4000000 in
set_option maxRecDepth 100000 in
theorem sX12_sell_22 (w : zWd) : zS gX12_sell zEi 22 [] [] w (mX12_sell_22 w) := by
  unfold mX12_sell_22
  refine zS_iconst 23 rfl (-1 : Int32) (by decide) dX12_sell_22 ?_
  exact zS_reti dX12_sell_23 rfl

set_option maxHeartbeats 4000000 in
set_option maxRecDepth 100000 in
theorem sX12_sell_44 (w : zWd) : zS gX12_sell zEi 44 [] [] w (mX12_sell_44 w) := by
  unfold mX12_sell_44
  refine zS_bipush 46 rfl (-2 : Int32) (by decide) dX12_sell_44 ?_
  exact zS_reti dX12_sell_46 rfl

set_option maxHeartbeats 4000000 in
set_option maxRecDepth 100000 in
theorem sX12_sell (v0 : Nat) (v1 : Int32) (v2 : Int32) (v3 : Int32) (v4 : Int32) (h0 : zShp v0 = (12, 25)) (w : zWd) : zS gX12_sell zEi 0 [(0, .ref v0), (1, .int v1), (2, .int v2), (3, .int v3), (4, .int v4)] [] w (mX12_sell v0 v1 v2 v3 v4 w) := by
  unfold mX12_sell
  refine zS_aload_n 1 rfl 0 rfl dX12_sell_0 ?_
  refine zS_iload_n 2 rfl 1 rfl dX12_sell_1 ?_
  refine zS_cVi (as := [.int _]) (st := []) (g' := gX12_isTaker) 5 rfl (okX12_isTaker _ _ _ h0) dX12_sell_2 zC12 h0 zw1349 cbX12_isTaker rfl rfl (by decide) (Nat.le_of_ble_eq_true rfl) (fun r1 w2 => ?_)
  refine zS_if_eq 22 8 rfl dX12_sell_5 (by decide) ?_ ?_
  · refine zS_sub [] (show _ = [] from rfl) ?_
    exact sX12_sell_22 _
  · refine zS_iload_n 9 rfl 2 rfl dX12_sell_8 ?_
    refine zS_cSi (as := [.int _]) (st := []) (g' := gX12_isOwner) 12 rfl (okX12_isOwner _ _) dX12_sell_9 zw1389 cbX12_isOwner rfl rfl (by decide) (Nat.le_of_ble_eq_true rfl) (fun r3 w4 => ?_)
    refine zS_if_eq 22 15 rfl dX12_sell_12 (by decide) ?_ ?_
    · refine zS_sub [] (show _ = [] from rfl) ?_
      exact sX12_sell_22 _
    · refine zS_iload_n 16 rfl 3 rfl dX12_sell_15 ?_
      refine zS_cSi (as := [.int _]) (st := []) (g' := gX12_isOwner) 19 rfl (okX12_isOwner _ _) dX12_sell_16 zw1389 cbX12_isOwner rfl rfl (by decide) (Nat.le_of_ble_eq_true rfl) (fun r5 w6 => ?_)
      refine zS_if_ne 24 22 rfl dX12_sell_19 (by decide) ?_ ?_
      · refine zS_sub [] (show _ = [] from rfl) ?_
        exact sX12_sell_22 _
      · refine zS_iload 26 rfl 4 rfl dX12_sell_24 ?_
        refine zS_iconst 27 rfl (0 : Int32) (by decide) dX12_sell_26 ?_
        refine zS_aload_n 28 rfl 0 rfl dX12_sell_27 ?_
        refine zS_getfp 31 rfl 1 dX12_sell_28 zC12 zw1113 (by decide) rfl h0 ?_
        refine zS_iconst 32 rfl (0 : Int32) (by decide) dX12_sell_31 ?_
        refine zS_iald 33 rfl dX12_sell_32 (zP12_s h0) ?_
        refine zS_cSi (as := [.int _, .int _, .int _]) (st := []) (g' := gX12_in) 36 rfl (okX12_in _ _ _ _) dX12_sell_33 zw1196 cbX12_in rfl rfl (by decide) (Nat.le_of_ble_eq_true rfl) (fun r7 w8 => ?_)
        refine zS_if_eq 44 39 rfl dX12_sell_36 (by decide) ?_ ?_
        · refine zS_sub [] (show _ = [] from rfl) ?_
          exact sX12_sell_44 _
        · refine zS_iload_n 40 rfl 2 rfl dX12_sell_39 ?_
          refine zS_iload_n 41 rfl 3 rfl dX12_sell_40 ?_
          refine zS_icmp_ne 47 44 rfl dX12_sell_41 (by decide) ?_ ?_
          · refine zS_sub [] (show _ = [] from rfl) ?_
            exact sX12_sell_44 _
          · refine zS_aload_n 48 rfl 0 rfl dX12_sell_47 ?_
            refine zS_getfp 51 rfl 1 dX12_sell_48 zC12 zw1113 (by decide) rfl h0 ?_
            refine zS_iconst 52 rfl (4 : Int32) (by decide) dX12_sell_51 ?_
            refine zS_iald 53 rfl dX12_sell_52 (zP12_s h0) ?_
            refine zS_bipush 55 rfl (30 : Int32) (by decide) dX12_sell_53 ?_
            refine zS_icmp_ne 61 58 rfl dX12_sell_55 (by decide) ?_ ?_
            · refine zS_bipush 60 rfl (-4 : Int32) (by decide) dX12_sell_58 ?_
              exact zS_reti dX12_sell_60 rfl
            · refine zS_aload_n 62 rfl 0 rfl dX12_sell_61 ?_
              refine zS_getfp 65 rfl 1 dX12_sell_62 zC12 zw1113 (by decide) rfl h0 ?_
              refine zS_iconst 66 rfl (4 : Int32) (by decide) dX12_sell_65 ?_
              refine zS_iald 67 rfl dX12_sell_66 (zP12_s h0) ?_
              refine zS_bni (fun x9 => ?_)
              refine zS_istore 69 rfl dX12_sell_67 (by show 5 < 6; decide) (show _ = [(5, .int _), (0, .ref _), (1, .int _), (2, .int _), (3, .int _), (4, .int _)] from rfl) ?_
              refine zS_aload_n 70 rfl 1 rfl dX12_sell_69 ?_
              refine zS_getfp 73 rfl 1 dX12_sell_70 zC12 zw1113 (by decide) rfl h0 ?_
              refine zS_sipush 76 rfl (2210 : Int32) (by decide) dX12_sell_73 ?_
              refine zS_iload 78 rfl 0 rfl dX12_sell_76 ?_
              refine zS_iadd 79 rfl dX12_sell_78 ?_
              refine zS_iload_n 80 rfl 2 rfl dX12_sell_79 ?_
              refine zS_iast 81 rfl dX12_sell_80 (zP12_s h0) ?_
              refine zS_bnw (fun w10 => ?_)
              refine zS_aload_n 82 rfl 1 rfl dX12_sell_81 ?_
              refine zS_getfp 85 rfl 1 dX12_sell_82 zC12 zw1113 (by decide) rfl h0 ?_
              refine zS_sipush 88 rfl (2240 : Int32) (by decide) dX12_sell_85 ?_
              refine zS_iload 90 rfl 0 rfl dX12_sell_88 ?_
              refine zS_iadd 91 rfl dX12_sell_90 ?_
              refine zS_iload_n 92 rfl 3 rfl dX12_sell_91 ?_
              refine zS_iast 93 rfl dX12_sell_92 (zP12_s h0) ?_
              refine zS_bnw (fun w11 => ?_)
              refine zS_aload_n 94 rfl 1 rfl dX12_sell_93 ?_
              refine zS_getfp 97 rfl 1 dX12_sell_94 zC12 zw1113 (by decide) rfl h0 ?_
              refine zS_sipush 100 rfl (2270 : Int32) (by decide) dX12_sell_97 ?_
              refine zS_iload 102 rfl 0 rfl dX12_sell_100 ?_
              refine zS_iadd 103 rfl dX12_sell_102 ?_
              refine zS_iload_n 104 rfl 4 rfl dX12_sell_103 ?_
              refine zS_iast 105 rfl dX12_sell_104 (zP12_s h0) ?_
              refine zS_bnw (fun w12 => ?_)
              refine zS_aload_n 106 rfl 1 rfl dX12_sell_105 ?_
              refine zS_getfp 109 rfl 1 dX12_sell_106 zC12 zw1113 (by decide) rfl h0 ?_
              refine zS_sipush 112 rfl (2300 : Int32) (by decide) dX12_sell_109 ?_
              refine zS_iload 114 rfl 0 rfl dX12_sell_112 ?_
              refine zS_iadd 115 rfl dX12_sell_114 ?_
              refine zS_iload 117 rfl 5 rfl dX12_sell_115 ?_
              refine zS_iast 118 rfl dX12_sell_117 (zP12_s h0) ?_
              refine zS_bnw (fun w13 => ?_)
              refine zS_aload_n 119 rfl 1 rfl dX12_sell_118 ?_
              refine zS_getfp 122 rfl 1 dX12_sell_119 zC12 zw1113 (by decide) rfl h0 ?_
              refine zS_iconst 123 rfl (4 : Int32) (by decide) dX12_sell_122 ?_
              refine zS_dup2 124 rfl rfl rfl dX12_sell_123 ?_
              refine zS_iald 125 rfl dX12_sell_124 (zP12_s h0) ?_
              refine zS_iconst 126 rfl (1 : Int32) (by decide) dX12_sell_125 ?_
              refine zS_iadd 127 rfl dX12_sell_126 ?_
              refine zS_iast 128 rfl dX12_sell_127 (zP12_s h0) ?_
              refine zS_bnw (fun w14 => ?_)
              refine zS_aload_n 129 rfl 1 rfl dX12_sell_128 ?_
              refine zS_getfp 132 rfl 1 dX12_sell_129 zC12 zw1113 (by decide) rfl h0 ?_
              refine zS_iconst 133 rfl (4 : Int32) (by decide) dX12_sell_132 ?_
              refine zS_iald 134 rfl dX12_sell_133 (zP12_s h0) ?_
              exact zS_reti dX12_sell_134 rfl

theorem okX12_sell (v0 : Nat) (v1 : Int32) (v2 : Int32) (v3 : Int32) (v4 : Int32) (w : zWd) (h0 : zShp v0 = (12, 25)) : zOk gX12_sell zEi [.ref v0, .int v1, .int v2, .int v3, .int v4] w (mX12_sell v0 v1 v2 v3 v4 w) := zOk_of (by decide) rfl (Nat.le_of_ble_eq_true rfl) (sX12_sell v0 v1 v2 v3 v4 h0 w)
abbrev gX12_whose : zMth := (yX12_whose, cX12_whose, 9, (some .int), 3, zE0)
theorem cbX12_whose : zCbV yX12_whose cX12_whose 9 (some .int) 3 := ⟨zw1393, zw1394, zw89, zw1395, by decide, by decide, by decide +kernel⟩
set_option maxHeartbeats 4000000 in
set_option maxRecDepth 100000 in
theorem sX12_whose_22 (w : zWd) : zS gX12_whose zEi 22 [] [] w (mX12_whose_22 w) := by
  unfold mX12_whose_22
  refine zS_iconst 23 rfl (-1 : Int32) (by decide) dX12_whose_22 ?_
  exact zS_reti dX12_whose_23 rfl

set_option maxHeartbeats 4000000 in
set_option maxRecDepth 100000 in
theorem sX12_whose_148 (k57 : Int32 × Int32 × zWd → Option (Int32 × zWd)) (k66 : Int32 × Int32 × zWd → Option (Int32 × zWd)) (v0 : Nat) (v1 : Int32) (v2 : Int32) (v4 : Int32) (v6 : Int32) (v7 : Int32) (s0 : Int32) (hk57 : ∀ (v5 : Int32) (v6 : Int32) (w : zWd), zS gX12_whose zEi 57 [(0, .ref v0), (1, .int v1), (2, .int v2), (4, .int v4), (5, .int v5), (6, .int v6)] [] w (k57 (v5, v6, w))) (hk66 : ∀ (v5 : Int32) (v7 : Int32) (w : zWd), zS gX12_whose zEi 66 [(0, .ref v0), (1, .int v1), (2, .int v2), (4, .int v4), (5, .int v5), (6, .int v6), (7, .int v7)] [] w (k66 (v5, v7, w))) (h0 : zShp v0 = (12, 25)) (w : zWd) : zS gX12_whose zEi 148 [(0, .ref v0), (1, .int v1), (2, .int v2), (4, .int v4), (6, .int v6), (7, .int v7)] [.int s0] w (mX12_whose_148 k57 k66 v0 v1 v2 v4 v6 v7 s0 w) := by
  unfold mX12_whose_148
  refine zS_istore 150 rfl dX12_whose_148 (by show 5 < 9; decide) (show _ = [(5, .int _), (0, .ref _), (1, .int _), (2, .int _), (4, .int _), (6, .int _), (7, .int _)] from rfl) ?_
  refine zS_iinc 153 rfl 6 (_ + (1 : Int32)) dX12_whose_150 rfl (by show 7 < 9; decide) rfl (show _ = [(7, .int _), (5, .int _), (0, .ref _), (1, .int _), (2, .int _), (4, .int _), (6, .int _)] from rfl) ?_
  refine zS_goto 66 dX12_whose_153 (by decide) ?_
  refine zS_sub [2, 3, 4, 5, 1, 6, 0] (show _ = [(0, .ref _), (1, .int _), (2, .int _), (4, .int _), (5, .int _), (6, .int _), (7, .int _)] from rfl) ?_
  exact hk66 _ _ _

set_option maxHeartbeats 4000000 in
set_option maxRecDepth 100000 in
theorem sX12_whose_125 (k57 : Int32 × Int32 × zWd → Option (Int32 × zWd)) (k66 : Int32 × Int32 × zWd → Option (Int32 × zWd)) (v0 : Nat) (v1 : Int32) (v2 : Int32) (v4 : Int32) (v5 : Int32) (v6 : Int32) (v7 : Int32) (s0 : Int32) (hk57 : ∀ (v5 : Int32) (v6 : Int32) (w : zWd), zS gX12_whose zEi 57 [(0, .ref v0), (1, .int v1), (2, .int v2), (4, .int v4), (5, .int v5), (6, .int v6)] [] w (k57 (v5, v6, w))) (hk66 : ∀ (v5 : Int32) (v7 : Int32) (w : zWd), zS gX12_whose zEi 66 [(0, .ref v0), (1, .int v1), (2, .int v2), (4, .int v4), (5, .int v5), (6, .int v6), (7, .int v7)] [] w (k66 (v5, v7, w))) (h0 : zShp v0 = (12, 25)) (w : zWd) : zS gX12_whose zEi 125 [(0, .ref v0), (1, .int v1), (2, .int v2), (4, .int v4), (5, .int v5), (6, .int v6), (7, .int v7)] [.int s0] w (mX12_whose_125 k57 k66 v0 v1 v2 v4 v5 v6 v7 s0 w) := by
  unfold mX12_whose_125
  refine zS_istore 127 rfl dX12_whose_125 (by show 8 < 9; decide) (show _ = [(8, .int _), (0, .ref _), (1, .int _), (2, .int _), (4, .int _), (5, .int _), (6, .int _), (7, .int _)] from rfl) ?_
  refine zS_iload 129 rfl 0 rfl dX12_whose_127 ?_
  refine zS_if_eq 146 132 rfl dX12_whose_129 (by decide) ?_ ?_
  · refine zS_iload 148 rfl 5 rfl dX12_whose_146 ?_
    refine zS_sub [1, 2, 3, 4, 6, 7] (show _ = [(0, .ref _), (1, .int _), (2, .int _), (4, .int _), (6, .int _), (7, .int _)] from rfl) ?_
    exact sX12_whose_148 k57 k66 _ _ _ _ _ _ _ hk57 hk66 h0 _
  · refine zS_aload_n 133 rfl 1 rfl dX12_whose_132 ?_
    refine zS_getfp 136 rfl 1 dX12_whose_133 zC12 zw1113 (by decide) rfl h0 ?_
    refine zS_sipush 139 rfl (2270 : Int32) (by decide) dX12_whose_136 ?_
    refine zS_iload 141 rfl 7 rfl dX12_whose_139 ?_
    refine zS_iadd 142 rfl dX12_whose_141 ?_
    refine zS_iald 143 rfl dX12_whose_142 (zP12_s h0) ?_
    refine zS_goto 148 dX12_whose_143 (by decide) ?_
    refine zS_sub [1, 2, 3, 4, 6, 7] (show _ = [(0, .ref _), (1, .int _), (2, .int _), (4, .int _), (6, .int _), (7, .int _)] from rfl) ?_
    exact sX12_whose_148 k57 k66 _ _ _ _ _ _ _ hk57 hk66 h0 _

set_option maxHeartbeats 4000000 in
set_option maxRecDepth 100000 in
theorem sX12_whose_124 (k57 : Int32 × Int32 × zWd → Option (Int32 × zWd)) (k66 : Int32 × Int32 × zWd → Option (Int32 × zWd)) (v0 : Nat) (v1 : Int32) (v2 : Int32) (v4 : Int32) (v5 : Int32) (v6 : Int32) (v7 : Int32) (hk57 : ∀ (v5 : Int32) (v6 : Int32) (w : zWd), zS gX12_whose zEi 57 [(0, .ref v0), (1, .int v1), (2, .int v2), (4, .int v4), (5, .int v5), (6, .int v6)] [] w (k57 (v5, v6, w))) (hk66 : ∀ (v5 : Int32) (v7 : Int32) (w : zWd), zS gX12_whose zEi 66 [(0, .ref v0), (1, .int v1), (2, .int v2), (4, .int v4), (5, .int v5), (6, .int v6), (7, .int v7)] [] w (k66 (v5, v7, w))) (h0 : zShp v0 = (12, 25)) (w : zWd) : zS gX12_whose zEi 124 [(0, .ref v0), (1, .int v1), (2, .int v2), (4, .int v4), (5, .int v5), (6, .int v6), (7, .int v7)] [] w (mX12_whose_124 k57 k66 v0 v1 v2 v4 v5 v6 v7 w) := by
  unfold mX12_whose_124
  refine zS_iconst 125 rfl (0 : Int32) (by decide) dX12_whose_124 ?_
  exact sX12_whose_125 k57 k66 _ _ _ _ _ _ _ _ hk57 hk66 h0 _

set_option maxHeartbeats 4000000 in
set_option maxRecDepth 100000 in
theorem sX12_whose_66b (k57 : Int32 × Int32 × zWd → Option (Int32 × zWd)) (v0 : Nat) (v1 : Int32) (v2 : Int32) (v4 : Int32) (v6 : Int32) (k66 : Int32 × Int32 × zWd → Option (Int32 × zWd)) (v5 : Int32) (v7 : Int32) (hk57 : ∀ (v5 : Int32) (v6 : Int32) (w : zWd), zS gX12_whose zEi 57 [(0, .ref v0), (1, .int v1), (2, .int v2), (4, .int v4), (5, .int v5), (6, .int v6)] [] w (k57 (v5, v6, w))) (hk66 : ∀ (v5 : Int32) (v7 : Int32) (w : zWd), zS gX12_whose zEi 66 [(0, .ref v0), (1, .int v1), (2, .int v2), (4, .int v4), (5, .int v5), (6, .int v6), (7, .int v7)] [] w (k66 (v5, v7, w))) (h0 : zShp v0 = (12, 25)) (w : zWd) : zS gX12_whose zEi 66 [(0, .ref v0), (1, .int v1), (2, .int v2), (4, .int v4), (5, .int v5), (6, .int v6), (7, .int v7)] [] w (mX12_whose_66b k57 v0 v1 v2 v4 v6 k66 v5 v7 w) := by
  unfold mX12_whose_66b
  refine zS_iload 68 rfl 6 rfl dX12_whose_66 ?_
  refine zS_iload 70 rfl 3 rfl dX12_whose_68 ?_
  refine zS_icmp_ge 156 73 rfl dX12_whose_70 (by decide) ?_ ?_
  · refine zS_iinc 159 rfl 5 (_ + (1 : Int32)) dX12_whose_156 rfl (by show 6 < 9; decide) rfl (show _ = [(6, .int _), (0, .ref _), (1, .int _), (2, .int _), (4, .int _), (5, .int _), (7, .int _)] from rfl) ?_
    refine zS_goto 57 dX12_whose_159 (by decide) ?_
    refine zS_sub [1, 2, 3, 4, 5, 0] (show _ = [(0, .ref _), (1, .int _), (2, .int _), (4, .int _), (5, .int _), (6, .int _)] from rfl) ?_
    exact hk57 _ _ _
  · refine zS_aload_n 74 rfl 0 rfl dX12_whose_73 ?_
    refine zS_getfp 77 rfl 1 dX12_whose_74 zC12 zw1113 (by decide) rfl h0 ?_
    refine zS_sipush 80 rfl (2210 : Int32) (by decide) dX12_whose_77 ?_
    refine zS_iload 82 rfl 6 rfl dX12_whose_80 ?_
    refine zS_iadd 83 rfl dX12_whose_82 ?_
    refine zS_iald 84 rfl dX12_whose_83 (zP12_s h0) ?_
    refine zS_iload_n 85 rfl 1 rfl dX12_whose_84 ?_
    refine zS_icmp_ne 124 88 rfl dX12_whose_85 (by decide) ?_ ?_
    · refine zS_aload_n 89 rfl 0 rfl dX12_whose_88 ?_
      refine zS_getfp 92 rfl 1 dX12_whose_89 zC12 zw1113 (by decide) rfl h0 ?_
      refine zS_sipush 95 rfl (2300 : Int32) (by decide) dX12_whose_92 ?_
      refine zS_iload 97 rfl 6 rfl dX12_whose_95 ?_
      refine zS_iadd 98 rfl dX12_whose_97 ?_
      refine zS_iald 99 rfl dX12_whose_98 (zP12_s h0) ?_
      refine zS_iload 101 rfl 5 rfl dX12_whose_99 ?_
      refine zS_icmp_ne 124 104 rfl dX12_whose_101 (by decide) ?_ ?_
      · refine zS_aload_n 105 rfl 0 rfl dX12_whose_104 ?_
        refine zS_getfp 108 rfl 1 dX12_whose_105 zC12 zw1113 (by decide) rfl h0 ?_
        refine zS_sipush 111 rfl (2240 : Int32) (by decide) dX12_whose_108 ?_
        refine zS_iload 113 rfl 6 rfl dX12_whose_111 ?_
        refine zS_iadd 114 rfl dX12_whose_113 ?_
        refine zS_iald 115 rfl dX12_whose_114 (zP12_s h0) ?_
        refine zS_iload 117 rfl 4 rfl dX12_whose_115 ?_
        refine zS_icmp_ne 124 120 rfl dX12_whose_117 (by decide) ?_ ?_
        · refine zS_iconst 121 rfl (1 : Int32) (by decide) dX12_whose_120 ?_
          refine zS_goto 125 dX12_whose_121 (by decide) ?_
          exact sX12_whose_125 k57 k66 _ _ _ _ _ _ _ _ hk57 hk66 h0 _
        · exact sX12_whose_124 k57 k66 _ _ _ _ _ _ _ hk57 hk66 h0 _
      · exact sX12_whose_124 k57 k66 _ _ _ _ _ _ _ hk57 hk66 h0 _
    · exact sX12_whose_124 k57 k66 _ _ _ _ _ _ _ hk57 hk66 h0 _

theorem sX12_whose_66 (k57 : Int32 × Int32 × zWd → Option (Int32 × zWd)) (v0 : Nat) (v1 : Int32) (v2 : Int32) (v4 : Int32) (v6 : Int32) (v5 : Int32) (v7 : Int32) (hk57 : ∀ (v5 : Int32) (v6 : Int32) (w : zWd), zS gX12_whose zEi 57 [(0, .ref v0), (1, .int v1), (2, .int v2), (4, .int v4), (5, .int v5), (6, .int v6)] [] w (k57 (v5, v6, w))) (h0 : zShp v0 = (12, 25)) (w : zWd) : zS gX12_whose zEi 66 [(0, .ref v0), (1, .int v1), (2, .int v2), (4, .int v4), (5, .int v5), (6, .int v6), (7, .int v7)] [] w (mX12_whose_66 k57 v0 v1 v2 v4 v6 v5 v7 w) :=
  zS_loop (L := fun q : Int32 × Int32 × zWd => [(0, .ref v0), (1, .int v1), (2, .int v2), (4, .int v4), (5, .int q.1), (6, .int v6), (7, .int q.2.1)]) (V := fun q => q.2.2) (T := fun _ => []) (F := fun k q => mX12_whose_66b k57 v0 v1 v2 v4 v6 k q.1 q.2.1 q.2.2) (fun k hk q => sX12_whose_66b k57 v0 v1 v2 v4 v6 k q.1 q.2.1 hk57 (fun a5 a7 w => hk (a5, a7, w)) h0 q.2.2) zFU (v5, v7, w)
set_option maxHeartbeats 4000000 in
set_option maxRecDepth 100000 in
theorem sX12_whose_57b (v0 : Nat) (v1 : Int32) (v2 : Int32) (v4 : Int32) (k57 : Int32 × Int32 × zWd → Option (Int32 × zWd)) (v5 : Int32) (v6 : Int32) (hk57 : ∀ (v5 : Int32) (v6 : Int32) (w : zWd), zS gX12_whose zEi 57 [(0, .ref v0), (1, .int v1), (2, .int v2), (4, .int v4), (5, .int v5), (6, .int v6)] [] w (k57 (v5, v6, w))) (h0 : zShp v0 = (12, 25)) (w : zWd) : zS gX12_whose zEi 57 [(0, .ref v0), (1, .int v1), (2, .int v2), (4, .int v4), (5, .int v5), (6, .int v6)] [] w (mX12_whose_57b v0 v1 v2 v4 k57 v5 v6 w) := by
  unfold mX12_whose_57b
  refine zS_iload 59 rfl 5 rfl dX12_whose_57 ?_
  refine zS_iload_n 60 rfl 2 rfl dX12_whose_59 ?_
  refine zS_icmp_gt 162 63 rfl dX12_whose_60 (by decide) ?_ ?_
  · refine zS_iload 164 rfl 4 rfl dX12_whose_162 ?_
    exact zS_reti dX12_whose_164 rfl
  · refine zS_iconst 64 rfl (0 : Int32) (by decide) dX12_whose_63 ?_
    refine zS_istore 66 rfl dX12_whose_64 (by show 7 < 9; decide) (show _ = [(7, .int _), (0, .ref _), (1, .int _), (2, .int _), (4, .int _), (5, .int _), (6, .int _)] from rfl) ?_
    refine zS_sub [1, 2, 3, 4, 5, 6, 0] (show _ = [(0, .ref _), (1, .int _), (2, .int _), (4, .int _), (5, .int _), (6, .int _), (7, .int _)] from rfl) ?_
    exact sX12_whose_66 k57 _ _ _ _ _ _ _ hk57 h0 _

theorem sX12_whose_57 (v0 : Nat) (v1 : Int32) (v2 : Int32) (v4 : Int32) (v5 : Int32) (v6 : Int32) (h0 : zShp v0 = (12, 25)) (w : zWd) : zS gX12_whose zEi 57 [(0, .ref v0), (1, .int v1), (2, .int v2), (4, .int v4), (5, .int v5), (6, .int v6)] [] w (mX12_whose_57 v0 v1 v2 v4 v5 v6 w) :=
  zS_loop (L := fun q : Int32 × Int32 × zWd => [(0, .ref v0), (1, .int v1), (2, .int v2), (4, .int v4), (5, .int q.1), (6, .int q.2.1)]) (V := fun q => q.2.2) (T := fun _ => []) (F := fun k q => mX12_whose_57b v0 v1 v2 v4 k q.1 q.2.1 q.2.2) (fun k hk q => sX12_whose_57b v0 v1 v2 v4 k q.1 q.2.1 (fun a5 a6 w => hk (a5, a6, w)) h0 q.2.2) zFU (v5, v6, w)
set_option maxHeartbeats 4000000 in
set_option maxRecDepth 100000 in
theorem sX12_whose_49 (v0 : Nat) (v1 : Int32) (v2 : Int32) (s0 : Int32) (h0 : zShp v0 = (12, 25)) (w : zWd) : zS gX12_whose zEi 49 [(0, .ref v0), (1, .int v1), (2, .int v2)] [.int s0] w (mX12_whose_49 v0 v1 v2 s0 w) := by
  unfold mX12_whose_49
  refine zS_istore 51 rfl dX12_whose_49 (by show 4 < 9; decide) (show _ = [(4, .int _), (0, .ref _), (1, .int _), (2, .int _)] from rfl) ?_
  refine zS_iconst 52 rfl (0 : Int32) (by decide) dX12_whose_51 ?_
  refine zS_istore 54 rfl dX12_whose_52 (by show 5 < 9; decide) (show _ = [(5, .int _), (4, .int _), (0, .ref _), (1, .int _), (2, .int _)] from rfl) ?_
  refine zS_iconst 55 rfl (0 : Int32) (by decide) dX12_whose_54 ?_
  refine zS_istore 57 rfl dX12_whose_55 (by show 6 < 9; decide) (show _ = [(6, .int _), (5, .int _), (4, .int _), (0, .ref _), (1, .int _), (2, .int _)] from rfl) ?_
  refine zS_sub [3, 4, 5, 2, 1, 0] (show _ = [(0, .ref _), (1, .int _), (2, .int _), (4, .int _), (5, .int _), (6, .int _)] from rfl) ?_
  exact sX12_whose_57 _ _ _ _ _ _ h0 _

set_option maxHeartbeats 4000000 in
set_option maxRecDepth 100000 in
theorem sX12_whose (v0 : Nat) (v1 : Int32) (v2 : Int32) (v3 : Int32) (h0 : zShp v0 = (12, 25)) (w : zWd) : zS gX12_whose zEi 0 [(0, .ref v0), (1, .int v1), (2, .int v2), (3, .int v3)] [] w (mX12_whose v0 v1 v2 v3 w) := by
  unfold mX12_whose
  refine zS_aload_n 1 rfl 0 rfl dX12_whose_0 ?_
  refine zS_iload_n 2 rfl 1 rfl dX12_whose_1 ?_
  refine zS_cVi (as := [.int _]) (st := []) (g' := gX12_isTaker) 5 rfl (okX12_isTaker _ _ _ h0) dX12_whose_2 zC12 h0 zw1349 cbX12_isTaker rfl rfl (by decide) (Nat.le_of_ble_eq_true rfl) (fun r1 w2 => ?_)
  refine zS_if_eq 22 8 rfl dX12_whose_5 (by decide) ?_ ?_
  · refine zS_sub [] (show _ = [] from rfl) ?_
    exact sX12_whose_22 _
  · refine zS_iload_n 9 rfl 3 rfl dX12_whose_8 ?_
    refine zS_iconst 10 rfl (-1 : Int32) (by decide) dX12_whose_9 ?_
    refine zS_aload_n 11 rfl 0 rfl dX12_whose_10 ?_
    refine zS_getfp 14 rfl 1 dX12_whose_11 zC12 zw1113 (by decide) rfl h0 ?_
    refine zS_iconst 15 rfl (4 : Int32) (by decide) dX12_whose_14 ?_
    refine zS_iald 16 rfl dX12_whose_15 (zP12_s h0) ?_
    refine zS_cSi (as := [.int _, .int _, .int _]) (st := []) (g' := gX12_in) 19 rfl (okX12_in _ _ _ _) dX12_whose_16 zw1196 cbX12_in rfl rfl (by decide) (Nat.le_of_ble_eq_true rfl) (fun r3 w4 => ?_)
    refine zS_if_ne 24 22 rfl dX12_whose_19 (by decide) ?_ ?_
    · refine zS_sub [] (show _ = [] from rfl) ?_
      exact sX12_whose_22 _
    · refine zS_iload_n 25 rfl 2 rfl dX12_whose_24 ?_
      refine zS_cSi (as := [.int _]) (st := []) (g' := gX12_isDay) 28 rfl (okX12_isDay _ _) dX12_whose_25 zw1318 cbX12_isDay rfl rfl (by decide) (Nat.le_of_ble_eq_true rfl) (fun r5 w6 => ?_)
      refine zS_if_ne 34 31 rfl dX12_whose_28 (by decide) ?_ ?_
      · refine zS_bipush 33 rfl (-2 : Int32) (by decide) dX12_whose_31 ?_
        exact zS_reti dX12_whose_33 rfl
      · refine zS_iload_n 35 rfl 3 rfl dX12_whose_34 ?_
        refine zS_iconst 36 rfl (-1 : Int32) (by decide) dX12_whose_35 ?_
        refine zS_icmp_ne 48 39 rfl dX12_whose_36 (by decide) ?_ ?_
        · refine zS_aload_n 40 rfl 0 rfl dX12_whose_39 ?_
          refine zS_getfp 43 rfl 1 dX12_whose_40 zC12 zw1113 (by decide) rfl h0 ?_
          refine zS_iconst 44 rfl (4 : Int32) (by decide) dX12_whose_43 ?_
          refine zS_iald 45 rfl dX12_whose_44 (zP12_s h0) ?_
          refine zS_goto 49 dX12_whose_45 (by decide) ?_
          refine zS_sub [0, 1, 2] (show _ = [(0, .ref _), (1, .int _), (2, .int _)] from rfl) ?_
          exact sX12_whose_49 _ _ _ _ h0 _
        · refine zS_iload_n 49 rfl 3 rfl dX12_whose_48 ?_
          refine zS_sub [0, 1, 2] (show _ = [(0, .ref _), (1, .int _), (2, .int _)] from rfl) ?_
          exact sX12_whose_49 _ _ _ _ h0 _

theorem okX12_whose (v0 : Nat) (v1 : Int32) (v2 : Int32) (v3 : Int32) (w : zWd) (h0 : zShp v0 = (12, 25)) : zOk gX12_whose zEi [.ref v0, .int v1, .int v2, .int v3] w (mX12_whose v0 v1 v2 v3 w) := zOk_of (by decide) rfl (Nat.le_of_ble_eq_true rfl) (sX12_whose v0 v1 v2 v3 h0 w)
abbrev gX12_used : zMth := (yX12_used, cX12_used, 4, (some .int), 3, zE0)
theorem cbX12_used : zCbV yX12_used cX12_used 4 (some .int) 2 := ⟨zw1397, zw1398, zw89, zw1399, by decide, by decide, by decide +kernel⟩
set_option maxHeartbeats 4000000 in
set_option maxRecDepth 100000 in
theorem sX12_used_38b (v0 : Nat) (v1 : Int32) (v2 : Int32) (k38 : Int32 × zWd → Option (Int32 × zWd)) (v3 : Int32) (hk38 : ∀ (v3 : Int32) (w : zWd), zS gX12_used zEi 38 [(0, .ref v0), (1, .int v1), (2, .int v2), (3, .int v3)] [] w (k38 (v3, w))) (h0 : zShp v0 = (12, 25)) (w : zWd) : zS gX12_used zEi 38 [(0, .ref v0), (1, .int v1), (2, .int v2), (3, .int v3)] [] w (mX12_used_38b v0 v1 v2 k38 v3 w) := by
  unfold mX12_used_38b
  refine zS_iload_n 39 rfl 3 rfl dX12_used_38 ?_
  refine zS_aload_n 40 rfl 0 rfl dX12_used_39 ?_
  refine zS_getfp 43 rfl 1 dX12_used_40 zC12 zw1113 (by decide) rfl h0 ?_
  refine zS_sipush 46 rfl (2040 : Int32) (by decide) dX12_used_43 ?_
  refine zS_iload_n 47 rfl 1 rfl dX12_used_46 ?_
  refine zS_iadd 48 rfl dX12_used_47 ?_
  refine zS_iald 49 rfl dX12_used_48 (zP12_s h0) ?_
  refine zS_icmp_ge 80 52 rfl dX12_used_49 (by decide) ?_ ?_
  · refine zS_aload_n 81 rfl 0 rfl dX12_used_80 ?_
    refine zS_getfp 84 rfl 1 dX12_used_81 zC12 zw1113 (by decide) rfl h0 ?_
    refine zS_sipush 87 rfl (2040 : Int32) (by decide) dX12_used_84 ?_
    refine zS_iload_n 88 rfl 1 rfl dX12_used_87 ?_
    refine zS_iadd 89 rfl dX12_used_88 ?_
    refine zS_iald 90 rfl dX12_used_89 (zP12_s h0) ?_
    refine zS_bipush 92 rfl (20 : Int32) (by decide) dX12_used_90 ?_
    refine zS_icmp_ne 98 95 rfl dX12_used_92 (by decide) ?_ ?_
    · refine zS_bipush 97 rfl (-4 : Int32) (by decide) dX12_used_95 ?_
      exact zS_reti dX12_used_97 rfl
    · refine zS_aload_n 99 rfl 0 rfl dX12_used_98 ?_
      refine zS_getfp 102 rfl 1 dX12_used_99 zC12 zw1113 (by decide) rfl h0 ?_
      refine zS_sipush 105 rfl (2048 : Int32) (by decide) dX12_used_102 ?_
      refine zS_bipush 107 rfl (20 : Int32) (by decide) dX12_used_105 ?_
      refine zS_iload_n 108 rfl 1 rfl dX12_used_107 ?_
      refine zS_imul 109 rfl dX12_used_108 ?_
      refine zS_iadd 110 rfl dX12_used_109 ?_
      refine zS_aload_n 111 rfl 0 rfl dX12_used_110 ?_
      refine zS_getfp 114 rfl 1 dX12_used_111 zC12 zw1113 (by decide) rfl h0 ?_
      refine zS_sipush 117 rfl (2040 : Int32) (by decide) dX12_used_114 ?_
      refine zS_iload_n 118 rfl 1 rfl dX12_used_117 ?_
      refine zS_iadd 119 rfl dX12_used_118 ?_
      refine zS_iald 120 rfl dX12_used_119 (zP12_s h0) ?_
      refine zS_iadd 121 rfl dX12_used_120 ?_
      refine zS_iload_n 122 rfl 2 rfl dX12_used_121 ?_
      refine zS_iast 123 rfl dX12_used_122 (zP12_s h0) ?_
      refine zS_bnw (fun w5 => ?_)
      refine zS_aload_n 124 rfl 0 rfl dX12_used_123 ?_
      refine zS_getfp 127 rfl 1 dX12_used_124 zC12 zw1113 (by decide) rfl h0 ?_
      refine zS_sipush 130 rfl (2040 : Int32) (by decide) dX12_used_127 ?_
      refine zS_iload_n 131 rfl 1 rfl dX12_used_130 ?_
      refine zS_iadd 132 rfl dX12_used_131 ?_
      refine zS_dup2 133 rfl rfl rfl dX12_used_132 ?_
      refine zS_iald 134 rfl dX12_used_133 (zP12_s h0) ?_
      refine zS_iconst 135 rfl (1 : Int32) (by decide) dX12_used_134 ?_
      refine zS_iadd 136 rfl dX12_used_135 ?_
      refine zS_iast 137 rfl dX12_used_136 (zP12_s h0) ?_
      refine zS_bnw (fun w6 => ?_)
      refine zS_aload_n 138 rfl 0 rfl dX12_used_137 ?_
      refine zS_getfp 141 rfl 1 dX12_used_138 zC12 zw1113 (by decide) rfl h0 ?_
      refine zS_sipush 144 rfl (2040 : Int32) (by decide) dX12_used_141 ?_
      refine zS_iload_n 145 rfl 1 rfl dX12_used_144 ?_
      refine zS_iadd 146 rfl dX12_used_145 ?_
      refine zS_iald 147 rfl dX12_used_146 (zP12_s h0) ?_
      exact zS_reti dX12_used_147 rfl
  · refine zS_aload_n 53 rfl 0 rfl dX12_used_52 ?_
    refine zS_getfp 56 rfl 1 dX12_used_53 zC12 zw1113 (by decide) rfl h0 ?_
    refine zS_sipush 59 rfl (2048 : Int32) (by decide) dX12_used_56 ?_
    refine zS_bipush 61 rfl (20 : Int32) (by decide) dX12_used_59 ?_
    refine zS_iload_n 62 rfl 1 rfl dX12_used_61 ?_
    refine zS_imul 63 rfl dX12_used_62 ?_
    refine zS_iadd 64 rfl dX12_used_63 ?_
    refine zS_iload_n 65 rfl 3 rfl dX12_used_64 ?_
    refine zS_iadd 66 rfl dX12_used_65 ?_
    refine zS_iald 67 rfl dX12_used_66 (zP12_s h0) ?_
    refine zS_iload_n 68 rfl 2 rfl dX12_used_67 ?_
    refine zS_icmp_ne 74 71 rfl dX12_used_68 (by decide) ?_ ?_
    · refine zS_bipush 73 rfl (-3 : Int32) (by decide) dX12_used_71 ?_
      exact zS_reti dX12_used_73 rfl
    · refine zS_iinc 77 rfl 3 (_ + (1 : Int32)) dX12_used_74 rfl (by show 3 < 4; decide) rfl (show _ = [(3, .int _), (0, .ref _), (1, .int _), (2, .int _)] from rfl) ?_
      refine zS_goto 38 dX12_used_77 (by decide) ?_
      refine zS_sub [1, 2, 3, 0] (show _ = [(0, .ref _), (1, .int _), (2, .int _), (3, .int _)] from rfl) ?_
      exact hk38 _ _

theorem sX12_used_38 (v0 : Nat) (v1 : Int32) (v2 : Int32) (v3 : Int32) (h0 : zShp v0 = (12, 25)) (w : zWd) : zS gX12_used zEi 38 [(0, .ref v0), (1, .int v1), (2, .int v2), (3, .int v3)] [] w (mX12_used_38 v0 v1 v2 v3 w) :=
  zS_loop (L := fun q : Int32 × zWd => [(0, .ref v0), (1, .int v1), (2, .int v2), (3, .int q.1)]) (V := fun q => q.2) (T := fun _ => []) (F := fun k q => mX12_used_38b v0 v1 v2 k q.1 q.2) (fun k hk q => sX12_used_38b v0 v1 v2 k q.1 (fun a3 w => hk (a3, w)) h0 q.2) zFU (v3, w)
set_option maxHeartbeats 4000000 in
set_option maxRecDepth 100000 in
theorem sX12_used (v0 : Nat) (v1 : Int32) (v2 : Int32) (h0 : zShp v0 = (12, 25)) (w : zWd) : zS gX12_used zEi 0 [(0, .ref v0), (1, .int v1), (2, .int v2)] [] w (mX12_used v0 v1 v2 w) := by
  unfold mX12_used
  refine zS_aload_n 1 rfl 0 rfl dX12_used_0 ?_
  refine zS_iload_n 2 rfl 1 rfl dX12_used_1 ?_
  refine zS_cVi (as := [.int _]) (st := []) (g' := gX12_isTaker) 5 rfl (okX12_isTaker _ _ _ h0) dX12_used_2 zC12 h0 zw1349 cbX12_isTaker rfl rfl (by decide) (Nat.le_of_ble_eq_true rfl) (fun r1 w2 => ?_)
  refine zS_if_ne 10 8 rfl dX12_used_5 (by decide) ?_ ?_
  · refine zS_iconst 9 rfl (-1 : Int32) (by decide) dX12_used_8 ?_
    exact zS_reti dX12_used_9 rfl
  · refine zS_iload_n 11 rfl 2 rfl dX12_used_10 ?_
    refine zS_aload_n 12 rfl 0 rfl dX12_used_11 ?_
    refine zS_getfp 15 rfl 1 dX12_used_12 zC12 zw1113 (by decide) rfl h0 ?_
    refine zS_sipush 18 rfl (2032 : Int32) (by decide) dX12_used_15 ?_
    refine zS_iload_n 19 rfl 1 rfl dX12_used_18 ?_
    refine zS_iadd 20 rfl dX12_used_19 ?_
    refine zS_iald 21 rfl dX12_used_20 (zP12_s h0) ?_
    refine zS_aload_n 22 rfl 0 rfl dX12_used_21 ?_
    refine zS_getfp 25 rfl 1 dX12_used_22 zC12 zw1113 (by decide) rfl h0 ?_
    refine zS_iconst 26 rfl (0 : Int32) (by decide) dX12_used_25 ?_
    refine zS_iald 27 rfl dX12_used_26 (zP12_s h0) ?_
    refine zS_cSi (as := [.int _, .int _, .int _]) (st := []) (g' := gX12_in) 30 rfl (okX12_in _ _ _ _) dX12_used_27 zw1196 cbX12_in rfl rfl (by decide) (Nat.le_of_ble_eq_true rfl) (fun r3 w4 => ?_)
    refine zS_if_ne 36 33 rfl dX12_used_30 (by decide) ?_ ?_
    · refine zS_bipush 35 rfl (-2 : Int32) (by decide) dX12_used_33 ?_
      exact zS_reti dX12_used_35 rfl
    · refine zS_iconst 37 rfl (0 : Int32) (by decide) dX12_used_36 ?_
      refine zS_istore_n 38 rfl dX12_used_37 (by show 3 < 4; decide) (show _ = [(3, .int _), (0, .ref _), (1, .int _), (2, .int _)] from rfl) ?_
      refine zS_sub [1, 2, 3, 0] (show _ = [(0, .ref _), (1, .int _), (2, .int _), (3, .int _)] from rfl) ?_
      exact sX12_used_38 _ _ _ _ h0 _

theorem okX12_used (v0 : Nat) (v1 : Int32) (v2 : Int32) (w : zWd) (h0 : zShp v0 = (12, 25)) : zOk gX12_used zEi [.ref v0, .int v1, .int v2] w (mX12_used v0 v1 v2 w) := zOk_of (by decide) rfl (Nat.le_of_ble_eq_true rfl) (sX12_used v0 v1 v2 h0 w)
abbrev gX12_lapsed : zMth := (yX12_lapsed, cX12_lapsed, 6, (some .int), 48, zE0)
theorem cbX12_lapsed : zCbV yX12_lapsed cX12_lapsed 6 (some .int) 2 := ⟨zw1401, zw1402, zw89, zw1403, by decide, by decide, by decide +kernel⟩
set_option maxHeartbeats 4000000 in
set_option maxRecDepth 100000 in
theorem sX12_lapsed_109 (s0 : Int32) (w : zWd) : zS gX12_lapsed zEi 109 [] [.int s0] w (mX12_lapsed_109 s0 w) := by
  unfold mX12_lapsed_109
  exact zS_reti dX12_lapsed_109 rfl

set_option maxHeartbeats 4000000 in
set_option maxRecDepth 100000 in
theorem sX12_lapsed_85 (k34 : Int32 × Int32 × zWd → Option (Int32 × zWd)) (v0 : Nat) (v1 : Int32) (v2 : Int32) (v4 : Int32) (s0 : Int32) (hk34 : ∀ (v3 : Int32) (v4 : Int32) (w : zWd), zS gX12_lapsed zEi 34 [(0, .ref v0), (1, .int v1), (2, .int v2), (3, .int v3), (4, .int v4)] [] w (k34 (v3, v4, w))) (h0 : zShp v0 = (12, 25)) (w : zWd) : zS gX12_lapsed zEi 85 [(0, .ref v0), (1, .int v1), (2, .int v2), (4, .int v4)] [.int s0] w (mX12_lapsed_85 k34 v0 v1 v2 v4 s0 w) := by
  unfold mX12_lapsed_85
  refine zS_istore_n 86 rfl dX12_lapsed_85 (by show 3 < 6; decide) (show _ = [(3, .int _), (0, .ref _), (1, .int _), (2, .int _), (4, .int _)] from rfl) ?_
  refine zS_iinc 89 rfl 4 (_ + (1 : Int32)) dX12_lapsed_86 rfl (by show 4 < 6; decide) rfl (show _ = [(4, .int _), (3, .int _), (0, .ref _), (1, .int _), (2, .int _)] from rfl) ?_
  refine zS_goto 34 dX12_lapsed_89 (by decide) ?_
  refine zS_sub [2, 3, 4, 1, 0] (show _ = [(0, .ref _), (1, .int _), (2, .int _), (3, .int _), (4, .int _)] from rfl) ?_
  exact hk34 _ _ _

set_option maxHeartbeats 4000000 in
set_option maxRecDepth 100000 in
theorem sX12_lapsed_84 (k34 : Int32 × Int32 × zWd → Option (Int32 × zWd)) (v0 : Nat) (v1 : Int32) (v2 : Int32) (v3 : Int32) (v4 : Int32) (hk34 : ∀ (v3 : Int32) (v4 : Int32) (w : zWd), zS gX12_lapsed zEi 34 [(0, .ref v0), (1, .int v1), (2, .int v2), (3, .int v3), (4, .int v4)] [] w (k34 (v3, v4, w))) (h0 : zShp v0 = (12, 25)) (w : zWd) : zS gX12_lapsed zEi 84 [(0, .ref v0), (1, .int v1), (2, .int v2), (3, .int v3), (4, .int v4)] [] w (mX12_lapsed_84 k34 v0 v1 v2 v3 v4 w) := by
  unfold mX12_lapsed_84
  refine zS_iload_n 85 rfl 3 rfl dX12_lapsed_84 ?_
  refine zS_sub [0, 1, 2, 4] (show _ = [(0, .ref _), (1, .int _), (2, .int _), (4, .int _)] from rfl) ?_
  exact sX12_lapsed_85 k34 _ _ _ _ _ hk34 h0 _

set_option maxHeartbeats 4000000 in
set_option maxRecDepth 100000 in
theorem sX12_lapsed_34b (v0 : Nat) (v1 : Int32) (v2 : Int32) (k34 : Int32 × Int32 × zWd → Option (Int32 × zWd)) (v3 : Int32) (v4 : Int32) (hk34 : ∀ (v3 : Int32) (v4 : Int32) (w : zWd), zS gX12_lapsed zEi 34 [(0, .ref v0), (1, .int v1), (2, .int v2), (3, .int v3), (4, .int v4)] [] w (k34 (v3, v4, w))) (h0 : zShp v0 = (12, 25)) (w : zWd) : zS gX12_lapsed zEi 34 [(0, .ref v0), (1, .int v1), (2, .int v2), (3, .int v3), (4, .int v4)] [] w (mX12_lapsed_34b v0 v1 v2 k34 v3 v4 w) := by
  unfold mX12_lapsed_34b
  refine zS_iload 36 rfl 4 rfl dX12_lapsed_34 ?_
  refine zS_aload_n 37 rfl 0 rfl dX12_lapsed_36 ?_
  refine zS_getfp 40 rfl 1 dX12_lapsed_37 zC12 zw1113 (by decide) rfl h0 ?_
  refine zS_sipush 43 rfl (2040 : Int32) (by decide) dX12_lapsed_40 ?_
  refine zS_iload_n 44 rfl 1 rfl dX12_lapsed_43 ?_
  refine zS_iadd 45 rfl dX12_lapsed_44 ?_
  refine zS_iald 46 rfl dX12_lapsed_45 (zP12_s h0) ?_
  refine zS_icmp_ge 92 49 rfl dX12_lapsed_46 (by decide) ?_ ?_
  · refine zS_iload_n 93 rfl 2 rfl dX12_lapsed_92 ?_
    refine zS_iload_n 94 rfl 3 rfl dX12_lapsed_93 ?_
    refine zS_isub 95 rfl dX12_lapsed_94 ?_
    refine zS_aload_n 96 rfl 0 rfl dX12_lapsed_95 ?_
    refine zS_iconst 97 rfl (3 : Int32) (by decide) dX12_lapsed_96 ?_
    refine zS_iload_n 98 rfl 2 rfl dX12_lapsed_97 ?_
    refine zS_cVi (as := [.int _, .int _]) (st := [.int _]) (g' := gX12_rule) 101 rfl (okX12_rule _ _ _ _ h0) dX12_lapsed_98 zC12 h0 zw1215 cbX12_rule rfl rfl (by decide) (Nat.le_of_ble_eq_true rfl) (fun r6 w7 => ?_)
    refine zS_icmp_le 108 104 rfl dX12_lapsed_101 (by decide) ?_ ?_
    · refine zS_iconst 109 rfl (0 : Int32) (by decide) dX12_lapsed_108 ?_
      refine zS_sub [] (show _ = [] from rfl) ?_
      exact sX12_lapsed_109 _ _
    · refine zS_iconst 105 rfl (1 : Int32) (by decide) dX12_lapsed_104 ?_
      refine zS_goto 109 dX12_lapsed_105 (by decide) ?_
      refine zS_sub [] (show _ = [] from rfl) ?_
      exact sX12_lapsed_109 _ _
  · refine zS_aload_n 50 rfl 0 rfl dX12_lapsed_49 ?_
    refine zS_getfp 53 rfl 1 dX12_lapsed_50 zC12 zw1113 (by decide) rfl h0 ?_
    refine zS_sipush 56 rfl (2048 : Int32) (by decide) dX12_lapsed_53 ?_
    refine zS_bipush 58 rfl (20 : Int32) (by decide) dX12_lapsed_56 ?_
    refine zS_iload_n 59 rfl 1 rfl dX12_lapsed_58 ?_
    refine zS_imul 60 rfl dX12_lapsed_59 ?_
    refine zS_iadd 61 rfl dX12_lapsed_60 ?_
    refine zS_iload 63 rfl 4 rfl dX12_lapsed_61 ?_
    refine zS_iadd 64 rfl dX12_lapsed_63 ?_
    refine zS_iald 65 rfl dX12_lapsed_64 (zP12_s h0) ?_
    refine zS_bni (fun x8 => ?_)
    refine zS_istore 67 rfl dX12_lapsed_65 (by show 5 < 6; decide) (show _ = [(5, .int _), (0, .ref _), (1, .int _), (2, .int _), (3, .int _), (4, .int _)] from rfl) ?_
    refine zS_iload 69 rfl 0 rfl dX12_lapsed_67 ?_
    refine zS_iload_n 70 rfl 3 rfl dX12_lapsed_69 ?_
    refine zS_icmp_gt 84 73 rfl dX12_lapsed_70 (by decide) ?_ ?_
    · refine zS_sub [1, 2, 3, 4, 5] (show _ = [(0, .ref _), (1, .int _), (2, .int _), (3, .int _), (4, .int _)] from rfl) ?_
      exact sX12_lapsed_84 k34 _ _ _ _ _ hk34 h0 _
    · refine zS_iload 75 rfl 0 rfl dX12_lapsed_73 ?_
      refine zS_iload_n 76 rfl 4 rfl dX12_lapsed_75 ?_
      refine zS_icmp_le 84 79 rfl dX12_lapsed_76 (by decide) ?_ ?_
      · refine zS_sub [1, 2, 3, 4, 5] (show _ = [(0, .ref _), (1, .int _), (2, .int _), (3, .int _), (4, .int _)] from rfl) ?_
        exact sX12_lapsed_84 k34 _ _ _ _ _ hk34 h0 _
      · refine zS_iload 81 rfl 0 rfl dX12_lapsed_79 ?_
        refine zS_goto 85 dX12_lapsed_81 (by decide) ?_
        refine zS_sub [1, 2, 3, 5] (show _ = [(0, .ref _), (1, .int _), (2, .int _), (4, .int _)] from rfl) ?_
        exact sX12_lapsed_85 k34 _ _ _ _ _ hk34 h0 _

theorem sX12_lapsed_34 (v0 : Nat) (v1 : Int32) (v2 : Int32) (v3 : Int32) (v4 : Int32) (h0 : zShp v0 = (12, 25)) (w : zWd) : zS gX12_lapsed zEi 34 [(0, .ref v0), (1, .int v1), (2, .int v2), (3, .int v3), (4, .int v4)] [] w (mX12_lapsed_34 v0 v1 v2 v3 v4 w) :=
  zS_loop (L := fun q : Int32 × Int32 × zWd => [(0, .ref v0), (1, .int v1), (2, .int v2), (3, .int q.1), (4, .int q.2.1)]) (V := fun q => q.2.2) (T := fun _ => []) (F := fun k q => mX12_lapsed_34b v0 v1 v2 k q.1 q.2.1 q.2.2) (fun k hk q => sX12_lapsed_34b v0 v1 v2 k q.1 q.2.1 (fun a3 a4 w => hk (a3, a4, w)) h0 q.2.2) zFU (v3, v4, w)
set_option maxHeartbeats 4000000 in
set_option maxRecDepth 100000 in
theorem sX12_lapsed (v0 : Nat) (v1 : Int32) (v2 : Int32) (h0 : zShp v0 = (12, 25)) (w : zWd) : zS gX12_lapsed zEi 0 [(0, .ref v0), (1, .int v1), (2, .int v2)] [] w (mX12_lapsed v0 v1 v2 w) := by
  unfold mX12_lapsed
  refine zS_aload_n 1 rfl 0 rfl dX12_lapsed_0 ?_
  refine zS_iload_n 2 rfl 1 rfl dX12_lapsed_1 ?_
  refine zS_cVi (as := [.int _]) (st := []) (g' := gX12_isTaker) 5 rfl (okX12_isTaker _ _ _ h0) dX12_lapsed_2 zC12 h0 zw1349 cbX12_isTaker rfl rfl (by decide) (Nat.le_of_ble_eq_true rfl) (fun r1 w2 => ?_)
  refine zS_if_ne 10 8 rfl dX12_lapsed_5 (by decide) ?_ ?_
  · refine zS_iconst 9 rfl (-1 : Int32) (by decide) dX12_lapsed_8 ?_
    exact zS_reti dX12_lapsed_9 rfl
  · refine zS_iload_n 11 rfl 2 rfl dX12_lapsed_10 ?_
    refine zS_cSi (as := [.int _]) (st := []) (g' := gX12_isDay) 14 rfl (okX12_isDay _ _) dX12_lapsed_11 zw1318 cbX12_isDay rfl rfl (by decide) (Nat.le_of_ble_eq_true rfl) (fun r3 w4 => ?_)
    refine zS_if_ne 20 17 rfl dX12_lapsed_14 (by decide) ?_ ?_
    · refine zS_bipush 19 rfl (-2 : Int32) (by decide) dX12_lapsed_17 ?_
      exact zS_reti dX12_lapsed_19 rfl
    · refine zS_aload_n 21 rfl 0 rfl dX12_lapsed_20 ?_
      refine zS_getfp 24 rfl 1 dX12_lapsed_21 zC12 zw1113 (by decide) rfl h0 ?_
      refine zS_sipush 27 rfl (2032 : Int32) (by decide) dX12_lapsed_24 ?_
      refine zS_iload_n 28 rfl 1 rfl dX12_lapsed_27 ?_
      refine zS_iadd 29 rfl dX12_lapsed_28 ?_
      refine zS_iald 30 rfl dX12_lapsed_29 (zP12_s h0) ?_
      refine zS_bni (fun x5 => ?_)
      refine zS_istore_n 31 rfl dX12_lapsed_30 (by show 3 < 6; decide) (show _ = [(3, .int _), (0, .ref _), (1, .int _), (2, .int _)] from rfl) ?_
      refine zS_iconst 32 rfl (0 : Int32) (by decide) dX12_lapsed_31 ?_
      refine zS_istore 34 rfl dX12_lapsed_32 (by show 4 < 6; decide) (show _ = [(4, .int _), (3, .int _), (0, .ref _), (1, .int _), (2, .int _)] from rfl) ?_
      refine zS_sub [2, 3, 4, 1, 0] (show _ = [(0, .ref _), (1, .int _), (2, .int _), (3, .int _), (4, .int _)] from rfl) ?_
      exact sX12_lapsed_34 _ _ _ _ _ h0 _

theorem okX12_lapsed (v0 : Nat) (v1 : Int32) (v2 : Int32) (w : zWd) (h0 : zShp v0 = (12, 25)) : zOk gX12_lapsed zEi [.ref v0, .int v1, .int v2] w (mX12_lapsed v0 v1 v2 w) := zOk_of (by decide) rfl (Nat.le_of_ble_eq_true rfl) (sX12_lapsed v0 v1 v2 h0 w)
abbrev gX12_without : zMth := (yX12_without, cX12_without, 7, (some .int), 1, zE0)
theorem cbX12_without : zCbV yX12_without cX12_without 7 (some .int) 1 := ⟨zw1422, zw68, zw89, zw1423, by decide, by decide, by decide +kernel⟩
set_option maxHeartbeats 4000000 in
set_option maxRecDepth 100000 in
theorem sX12_without_10b (v0 : Nat) (k10 : Int32 × Int32 × Int32 × Int32 × zWd → Option (Int32 × zWd)) (v2 : Int32) (v3 : Int32) (v4 : Int32) (v5 : Int32) (hk10 : ∀ (v2 : Int32) (v3 : Int32) (v4 : Int32) (v5 : Int32) (w : zWd), zS gX12_without zEi 10 [(0, .ref v0), (2, .int v2), (3, .int v3), (4, .int v4), (5, .int v5)] [] w (k10 (v2, v3, v4, v5, w))) (h0 : zShp v0 = (12, 25)) (w : zWd) : zS gX12_without zEi 10 [(0, .ref v0), (2, .int v2), (3, .int v3), (4, .int v4), (5, .int v5)] [] w (mX12_without_10b v0 k10 v2 v3 v4 v5 w) := by
  unfold mX12_without_10b
  refine zS_iload 12 rfl 4 rfl dX12_without_10 ?_
  refine zS_iconst 13 rfl (4 : Int32) (by decide) dX12_without_12 ?_
  refine zS_icmp_ge 63 16 rfl dX12_without_13 (by decide) ?_ ?_
  · refine zS_iload_n 64 rfl 2 rfl dX12_without_63 ?_
    exact zS_reti dX12_without_64 rfl
  · refine zS_iload_n 17 rfl 1 rfl dX12_without_16 ?_
    refine zS_bipush 19 rfl (7 : Int32) (by decide) dX12_without_17 ?_
    refine zS_iremC 20 rfl dX12_without_19 (by decide) ?_
    refine zS_aload_n 21 rfl 0 rfl dX12_without_20 ?_
    refine zS_getfp 24 rfl 20 dX12_without_21 zC12 zw1132 (by decide) rfl h0 ?_
    refine zS_iload 26 rfl 4 rfl dX12_without_24 ?_
    refine zS_iald 27 rfl dX12_without_26 (zP12_by h0) ?_
    refine zS_isub 28 rfl dX12_without_27 ?_
    refine zS_bni (fun x1 => ?_)
    refine zS_istore 30 rfl dX12_without_28 (by show 6 < 7; decide) (show _ = [(6, .int _), (0, .ref _), (2, .int _), (3, .int _), (4, .int _), (5, .int _)] from rfl) ?_
    refine zS_iload 32 rfl 0 rfl dX12_without_30 ?_
    refine zS_if_ge 37 35 rfl dX12_without_32 (by decide) ?_ ?_
    · refine zS_iload_n 38 rfl 3 rfl dX12_without_37 ?_
      refine zS_iload 40 rfl 4 rfl dX12_without_38 ?_
      refine zS_iload 42 rfl 0 rfl dX12_without_40 ?_
      refine zS_imul 43 rfl dX12_without_42 ?_
      refine zS_iadd 44 rfl dX12_without_43 ?_
      refine zS_bni (fun x2 => ?_)
      refine zS_istore_n 45 rfl dX12_without_44 (by show 3 < 7; decide) (show _ = [(3, .int _), (6, .int _), (0, .ref _), (2, .int _), (4, .int _), (5, .int _)] from rfl) ?_
      refine zS_iload 47 rfl 4 rfl dX12_without_45 ?_
      refine zS_bipush 49 rfl (7 : Int32) (by decide) dX12_without_47 ?_
      refine zS_imul 50 rfl dX12_without_49 ?_
      refine zS_bni (fun x3 => ?_)
      refine zS_istore 52 rfl dX12_without_50 (by show 4 < 7; decide) (show _ = [(4, .int _), (3, .int _), (6, .int _), (0, .ref _), (2, .int _), (5, .int _)] from rfl) ?_
      refine zS_iload_n 53 rfl 4 rfl dX12_without_52 ?_
      refine zS_bipush 55 rfl (7 : Int32) (by decide) dX12_without_53 ?_
      refine zS_idivC 56 rfl dX12_without_55 (by decide) ?_
      refine zS_bni (fun x4 => ?_)
      refine zS_istore_n 57 rfl dX12_without_56 (by show 2 < 7; decide) (show _ = [(2, .int _), (4, .int _), (3, .int _), (6, .int _), (0, .ref _), (5, .int _)] from rfl) ?_
      refine zS_iinc 60 rfl 5 (_ + (1 : Int32)) dX12_without_57 rfl (by show 5 < 7; decide) rfl (show _ = [(5, .int _), (2, .int _), (4, .int _), (3, .int _), (6, .int _), (0, .ref _)] from rfl) ?_
      refine zS_goto 10 dX12_without_60 (by decide) ?_
      refine zS_sub [5, 1, 3, 2, 0] (show _ = [(0, .ref _), (2, .int _), (3, .int _), (4, .int _), (5, .int _)] from rfl) ?_
      exact hk10 _ _ _ _ _
    · refine zS_iconst 36 rfl (-1 : Int32) (by decide) dX12_without_35 ?_
      exact zS_reti dX12_without_36 rfl

theorem sX12_without_10 (v0 : Nat) (v2 : Int32) (v3 : Int32) (v4 : Int32) (v5 : Int32) (h0 : zShp v0 = (12, 25)) (w : zWd) : zS gX12_without zEi 10 [(0, .ref v0), (2, .int v2), (3, .int v3), (4, .int v4), (5, .int v5)] [] w (mX12_without_10 v0 v2 v3 v4 v5 w) :=
  zS_loop (L := fun q : Int32 × Int32 × Int32 × Int32 × zWd => [(0, .ref v0), (2, .int q.1), (3, .int q.2.1), (4, .int q.2.2.1), (5, .int q.2.2.2.1)]) (V := fun q => q.2.2.2.2) (T := fun _ => []) (F := fun k q => mX12_without_10b v0 k q.1 q.2.1 q.2.2.1 q.2.2.2.1 q.2.2.2.2) (fun k hk q => sX12_without_10b v0 k q.1 q.2.1 q.2.2.1 q.2.2.2.1 (fun a2 a3 a4 a5 w => hk (a2, a3, a4, a5, w)) h0 q.2.2.2.2) zFU (v2, v3, v4, v5, w)
set_option maxHeartbeats 4000000 in
set_option maxRecDepth 100000 in
theorem sX12_without (v0 : Nat) (v1 : Int32) (h0 : zShp v0 = (12, 25)) (w : zWd) : zS gX12_without zEi 0 [(0, .ref v0), (1, .int v1)] [] w (mX12_without v0 v1 w) := by
  unfold mX12_without
  refine zS_iload_n 1 rfl 1 rfl dX12_without_0 ?_
  refine zS_istore_n 2 rfl dX12_without_1 (by show 2 < 7; decide) (show _ = [(2, .int _), (0, .ref _), (1, .int _)] from rfl) ?_
  refine zS_iconst 3 rfl (0 : Int32) (by decide) dX12_without_2 ?_
  refine zS_istore_n 4 rfl dX12_without_3 (by show 3 < 7; decide) (show _ = [(3, .int _), (2, .int _), (0, .ref _), (1, .int _)] from rfl) ?_
  refine zS_iconst 5 rfl (1 : Int32) (by decide) dX12_without_4 ?_
  refine zS_istore 7 rfl dX12_without_5 (by show 4 < 7; decide) (show _ = [(4, .int _), (3, .int _), (2, .int _), (0, .ref _), (1, .int _)] from rfl) ?_
  refine zS_iconst 8 rfl (0 : Int32) (by decide) dX12_without_7 ?_
  refine zS_istore 10 rfl dX12_without_8 (by show 5 < 7; decide) (show _ = [(5, .int _), (4, .int _), (3, .int _), (2, .int _), (0, .ref _), (1, .int _)] from rfl) ?_
  refine zS_sub [4, 3, 2, 1, 0] (show _ = [(0, .ref _), (2, .int _), (3, .int _), (4, .int _), (5, .int _)] from rfl) ?_
  exact sX12_without_10 _ _ _ _ _ h0 _

theorem okX12_without (v0 : Nat) (v1 : Int32) (w : zWd) (h0 : zShp v0 = (12, 25)) : zOk gX12_without zEi [.ref v0, .int v1] w (mX12_without v0 v1 w) := zOk_of (by decide) rfl (Nat.le_of_ble_eq_true rfl) (sX12_without v0 v1 h0 w)
abbrev gX12_isWarm : zMth := (yX12_isWarm, cX12_isWarm, 5, (some .boolean), 2, zE0)
theorem cbX12_isWarm : zCbV yX12_isWarm cX12_isWarm 5 (some .boolean) 2 := ⟨zw1418, zw67, zw89, zw1419, by decide, by decide, by decide +kernel⟩
set_option maxHeartbeats 4000000 in
set_option maxRecDepth 100000 in
theorem sX12_isWarm_75 (s0 : Int32) (w : zWd) : zS gX12_isWarm zEi 75 [] [.int s0] w (mX12_isWarm_75 s0 w) := by
  unfold mX12_isWarm_75
  exact zS_retb dX12_isWarm_75 rfl

set_option maxHeartbeats 4000000 in
set_option maxRecDepth 100000 in
theorem sX12_isWarm_42 (k5 : Int32 × Int32 × zWd → Option (Int32 × zWd)) (v0 : Nat) (v1 : Int32) (v2 : Int32) (v4 : Int32) (s0 : Int32) (s1 : Int32) (hk5 : ∀ (v3 : Int32) (v4 : Int32) (w : zWd), zS gX12_isWarm zEi 5 [(0, .ref v0), (1, .int v1), (2, .int v2), (3, .int v3), (4, .int v4)] [] w (k5 (v3, v4, w))) (h0 : zShp v0 = (12, 25)) (w : zWd) : zS gX12_isWarm zEi 42 [(0, .ref v0), (1, .int v1), (2, .int v2), (4, .int v4)] [.int s0, .int s1] w (mX12_isWarm_42 k5 v0 v1 v2 v4 s0 s1 w) := by
  unfold mX12_isWarm_42
  refine zS_iadd 43 rfl dX12_isWarm_42 ?_
  refine zS_bni (fun x3 => ?_)
  refine zS_istore_n 44 rfl dX12_isWarm_43 (by show 3 < 5; decide) (show _ = [(3, .int _), (0, .ref _), (1, .int _), (2, .int _), (4, .int _)] from rfl) ?_
  refine zS_iinc 47 rfl 4 (_ + (1 : Int32)) dX12_isWarm_44 rfl (by show 4 < 5; decide) rfl (show _ = [(4, .int _), (3, .int _), (0, .ref _), (1, .int _), (2, .int _)] from rfl) ?_
  refine zS_goto 5 dX12_isWarm_47 (by decide) ?_
  refine zS_sub [2, 3, 4, 1, 0] (show _ = [(0, .ref _), (1, .int _), (2, .int _), (3, .int _), (4, .int _)] from rfl) ?_
  exact hk5 _ _ _

set_option maxHeartbeats 4000000 in
set_option maxRecDepth 100000 in
theorem sX12_isWarm_5b (v0 : Nat) (v1 : Int32) (v2 : Int32) (k5 : Int32 × Int32 × zWd → Option (Int32 × zWd)) (v3 : Int32) (v4 : Int32) (hk5 : ∀ (v3 : Int32) (v4 : Int32) (w : zWd), zS gX12_isWarm zEi 5 [(0, .ref v0), (1, .int v1), (2, .int v2), (3, .int v3), (4, .int v4)] [] w (k5 (v3, v4, w))) (h0 : zShp v0 = (12, 25)) (w : zWd) : zS gX12_isWarm zEi 5 [(0, .ref v0), (1, .int v1), (2, .int v2), (3, .int v3), (4, .int v4)] [] w (mX12_isWarm_5b v0 v1 v2 k5 v3 v4 w) := by
  unfold mX12_isWarm_5b
  refine zS_iload 7 rfl 4 rfl dX12_isWarm_5 ?_
  refine zS_iconst 8 rfl (4 : Int32) (by decide) dX12_isWarm_7 ?_
  refine zS_icmp_ge 50 11 rfl dX12_isWarm_8 (by decide) ?_ ?_
  · refine zS_iload_n 51 rfl 3 rfl dX12_isWarm_50 ?_
    refine zS_aload_n 52 rfl 0 rfl dX12_isWarm_51 ?_
    refine zS_getfp 55 rfl 1 dX12_isWarm_52 zC12 zw1113 (by decide) rfl h0 ?_
    refine zS_sipush 58 rfl (2016 : Int32) (by decide) dX12_isWarm_55 ?_
    refine zS_iload_n 59 rfl 1 rfl dX12_isWarm_58 ?_
    refine zS_iadd 60 rfl dX12_isWarm_59 ?_
    refine zS_iald 61 rfl dX12_isWarm_60 (zP12_s h0) ?_
    refine zS_aload_n 62 rfl 0 rfl dX12_isWarm_61 ?_
    refine zS_iload_n 63 rfl 1 rfl dX12_isWarm_62 ?_
    refine zS_cVi (as := [.int _]) (st := [.int _, .int _]) (g' := gX12_needsOf) 66 rfl (okX12_needsOf _ _ _ h0) dX12_isWarm_63 zC12 h0 zw1365 cbX12_needsOf rfl rfl (by decide) (Nat.le_of_ble_eq_true rfl) (fun r1 w2 => ?_)
    refine zS_imul 67 rfl dX12_isWarm_66 ?_
    refine zS_icmp_lt 74 70 rfl dX12_isWarm_67 (by decide) ?_ ?_
    · refine zS_iconst 75 rfl (0 : Int32) (by decide) dX12_isWarm_74 ?_
      refine zS_sub [] (show _ = [] from rfl) ?_
      exact sX12_isWarm_75 _ _
    · refine zS_iconst 71 rfl (1 : Int32) (by decide) dX12_isWarm_70 ?_
      refine zS_goto 75 dX12_isWarm_71 (by decide) ?_
      refine zS_sub [] (show _ = [] from rfl) ?_
      exact sX12_isWarm_75 _ _
  · refine zS_iload_n 12 rfl 3 rfl dX12_isWarm_11 ?_
    refine zS_aload_n 13 rfl 0 rfl dX12_isWarm_12 ?_
    refine zS_getfp 16 rfl 20 dX12_isWarm_13 zC12 zw1132 (by decide) rfl h0 ?_
    refine zS_iload 18 rfl 4 rfl dX12_isWarm_16 ?_
    refine zS_iald 19 rfl dX12_isWarm_18 (zP12_by h0) ?_
    refine zS_if_le 41 22 rfl dX12_isWarm_19 (by decide) ?_ ?_
    · refine zS_iconst 42 rfl (0 : Int32) (by decide) dX12_isWarm_41 ?_
      refine zS_sub [0, 1, 2, 4] (show _ = [(0, .ref _), (1, .int _), (2, .int _), (4, .int _)] from rfl) ?_
      exact sX12_isWarm_42 k5 _ _ _ _ _ _ hk5 h0 _
    · refine zS_aload_n 23 rfl 0 rfl dX12_isWarm_22 ?_
      refine zS_getfp 26 rfl 20 dX12_isWarm_23 zC12 zw1132 (by decide) rfl h0 ?_
      refine zS_iload 28 rfl 4 rfl dX12_isWarm_26 ?_
      refine zS_iald 29 rfl dX12_isWarm_28 (zP12_by h0) ?_
      refine zS_aload_n 30 rfl 0 rfl dX12_isWarm_29 ?_
      refine zS_iload 32 rfl 4 rfl dX12_isWarm_30 ?_
      refine zS_iload_n 33 rfl 2 rfl dX12_isWarm_32 ?_
      refine zS_iconst 34 rfl (3 : Int32) (by decide) dX12_isWarm_33 ?_
      refine zS_cVi (as := [.int _, .int _, .int _]) (st := [.int _, .int _]) (g' := gX12_flowOf) 37 rfl (okX12_flowOf _ _ _ _ _ h0) dX12_isWarm_34 zC12 h0 zw1297 cbX12_flowOf rfl rfl (by decide) (Nat.le_of_ble_eq_true rfl) (fun r4 w5 => ?_)
      refine zS_imul 38 rfl dX12_isWarm_37 ?_
      refine zS_goto 42 dX12_isWarm_38 (by decide) ?_
      refine zS_sub [0, 1, 2, 4] (show _ = [(0, .ref _), (1, .int _), (2, .int _), (4, .int _)] from rfl) ?_
      exact sX12_isWarm_42 k5 _ _ _ _ _ _ hk5 h0 _

theorem sX12_isWarm_5 (v0 : Nat) (v1 : Int32) (v2 : Int32) (v3 : Int32) (v4 : Int32) (h0 : zShp v0 = (12, 25)) (w : zWd) : zS gX12_isWarm zEi 5 [(0, .ref v0), (1, .int v1), (2, .int v2), (3, .int v3), (4, .int v4)] [] w (mX12_isWarm_5 v0 v1 v2 v3 v4 w) :=
  zS_loop (L := fun q : Int32 × Int32 × zWd => [(0, .ref v0), (1, .int v1), (2, .int v2), (3, .int q.1), (4, .int q.2.1)]) (V := fun q => q.2.2) (T := fun _ => []) (F := fun k q => mX12_isWarm_5b v0 v1 v2 k q.1 q.2.1 q.2.2) (fun k hk q => sX12_isWarm_5b v0 v1 v2 k q.1 q.2.1 (fun a3 a4 w => hk (a3, a4, w)) h0 q.2.2) zFU (v3, v4, w)
set_option maxHeartbeats 4000000 in
set_option maxRecDepth 100000 in
theorem sX12_isWarm (v0 : Nat) (v1 : Int32) (v2 : Int32) (h0 : zShp v0 = (12, 25)) (w : zWd) : zS gX12_isWarm zEi 0 [(0, .ref v0), (1, .int v1), (2, .int v2)] [] w (mX12_isWarm v0 v1 v2 w) := by
  unfold mX12_isWarm
  refine zS_iconst 1 rfl (0 : Int32) (by decide) dX12_isWarm_0 ?_
  refine zS_istore_n 2 rfl dX12_isWarm_1 (by show 3 < 5; decide) (show _ = [(3, .int _), (0, .ref _), (1, .int _), (2, .int _)] from rfl) ?_
  refine zS_iconst 3 rfl (0 : Int32) (by decide) dX12_isWarm_2 ?_
  refine zS_istore 5 rfl dX12_isWarm_3 (by show 4 < 5; decide) (show _ = [(4, .int _), (3, .int _), (0, .ref _), (1, .int _), (2, .int _)] from rfl) ?_
  refine zS_sub [2, 3, 4, 1, 0] (show _ = [(0, .ref _), (1, .int _), (2, .int _), (3, .int _), (4, .int _)] from rfl) ?_
  exact sX12_isWarm_5 _ _ _ _ _ h0 _

theorem okX12_isWarm (v0 : Nat) (v1 : Int32) (v2 : Int32) (w : zWd) (h0 : zShp v0 = (12, 25)) : zOk gX12_isWarm zEi [.ref v0, .int v1, .int v2] w (mX12_isWarm v0 v1 v2 w) := zOk_of (by decide) rfl (Nat.le_of_ble_eq_true rfl) (sX12_isWarm v0 v1 v2 h0 w)
abbrev gX12_serves : zMth := (yX12_serves, cX12_serves, 11, (some .boolean), 3, zE0)
theorem cbX12_serves : zCbV yX12_serves cX12_serves 11 (some .boolean) 2 := ⟨zw1414, zw66, zw89, zw1415, by decide, by decide, by decide +kernel⟩
set_option maxHeartbeats 4000000 in
set_option maxRecDepth 100000 in
theorem sX12_serves_269 (v3 : Int32) (w : zWd) : zS gX12_serves zEi 269 [(3, .int v3)] [] w (mX12_serves_269 v3 w) := by
  unfold mX12_serves_269
  refine zS_iload_n 270 rfl 0 rfl dX12_serves_269 ?_
  exact zS_retb dX12_serves_270 rfl

set_option maxHeartbeats 4000000 in
set_option maxRecDepth 100000 in
theorem sX12_serves_237b (v0 : Nat) (v3 : Int32) (k237 : Int32 × zWd → Option (Int32 × zWd)) (v5 : Int32) (hk237 : ∀ (v5 : Int32) (w : zWd), zS gX12_serves zEi 237 [(0, .ref v0), (3, .int v3), (5, .int v5)] [] w (k237 (v5, w))) (h0 : zShp v0 = (12, 25)) (w : zWd) : zS gX12_serves zEi 237 [(0, .ref v0), (3, .int v3), (5, .int v5)] [] w (mX12_serves_237b v0 v3 k237 v5 w) := by
  unfold mX12_serves_237b
  refine zS_iload 239 rfl 2 rfl dX12_serves_237 ?_
  refine zS_sipush 242 rfl (2401 : Int32) (by decide) dX12_serves_239 ?_
  refine zS_icmp_ge 269 245 rfl dX12_serves_242 (by decide) ?_ ?_
  · refine zS_sub [1] (show _ = [(3, .int _)] from rfl) ?_
    exact sX12_serves_269 _ _
  · refine zS_iload_n 246 rfl 1 rfl dX12_serves_245 ?_
    refine zS_if_eq 269 249 rfl dX12_serves_246 (by decide) ?_ ?_
    · refine zS_sub [1] (show _ = [(3, .int _)] from rfl) ?_
      exact sX12_serves_269 _ _
    · refine zS_aload_n 250 rfl 0 rfl dX12_serves_249 ?_
      refine zS_getfp 253 rfl 17 dX12_serves_250 zC12 zw1129 (by decide) rfl h0 ?_
      refine zS_iload 255 rfl 2 rfl dX12_serves_253 ?_
      refine zS_aload_n 256 rfl 0 rfl dX12_serves_255 ?_
      refine zS_getfp 259 rfl 18 dX12_serves_256 zC12 zw1130 (by decide) rfl h0 ?_
      refine zS_iload 261 rfl 2 rfl dX12_serves_259 ?_
      refine zS_zald 262 rfl dX12_serves_261 (zP12_next h0) ?_
      refine zS_zast 263 rfl dX12_serves_262 (zP12_may h0) ?_
      refine zS_bnw (fun w2 => ?_)
      refine zS_iinc 266 rfl 2 (_ + (1 : Int32)) dX12_serves_263 rfl (by show 5 < 11; decide) rfl (show _ = [(5, .int _), (0, .ref _), (3, .int _)] from rfl) ?_
      refine zS_goto 237 dX12_serves_266 (by decide) ?_
      refine zS_sub [1, 2, 0] (show _ = [(0, .ref _), (3, .int _), (5, .int _)] from rfl) ?_
      exact hk237 _ _

theorem sX12_serves_237 (v0 : Nat) (v3 : Int32) (v5 : Int32) (h0 : zShp v0 = (12, 25)) (w : zWd) : zS gX12_serves zEi 237 [(0, .ref v0), (3, .int v3), (5, .int v5)] [] w (mX12_serves_237 v0 v3 v5 w) :=
  zS_loop (L := fun q : Int32 × zWd => [(0, .ref v0), (3, .int v3), (5, .int q.1)]) (V := fun q => q.2) (T := fun _ => []) (F := fun k q => mX12_serves_237b v0 v3 k q.1 q.2) (fun k hk q => sX12_serves_237b v0 v3 k q.1 (fun a5 w => hk (a5, w)) h0 q.2) zFU (v5, w)
set_option maxHeartbeats 4000000 in
set_option maxRecDepth 100000 in
theorem sX12_serves_228 (k42 : Int32 × Int32 × zWd → Option (Int32 × zWd)) (v0 : Nat) (v1 : Int32) (v2 : Int32) (v3 : Int32) (v4 : Int32) (v5 : Int32) (hk42 : ∀ (v3 : Int32) (v5 : Int32) (w : zWd), zS gX12_serves zEi 42 [(0, .ref v0), (1, .int v1), (2, .int v2), (3, .int v3), (4, .int v4), (5, .int v5)] [] w (k42 (v3, v5, w))) (h0 : zShp v0 = (12, 25)) (w : zWd) : zS gX12_serves zEi 228 [(0, .ref v0), (1, .int v1), (2, .int v2), (3, .int v3), (4, .int v4), (5, .int v5)] [] w (mX12_serves_228 k42 v0 v1 v2 v3 v4 v5 w) := by
  unfold mX12_serves_228
  refine zS_iinc 231 rfl 5 (_ + (1 : Int32)) dX12_serves_228 rfl (by show 5 < 11; decide) rfl (show _ = [(5, .int _), (0, .ref _), (1, .int _), (2, .int _), (3, .int _), (4, .int _)] from rfl) ?_
  refine zS_goto 42 dX12_serves_231 (by decide) ?_
  refine zS_sub [1, 2, 3, 4, 5, 0] (show _ = [(0, .ref _), (1, .int _), (2, .int _), (3, .int _), (4, .int _), (5, .int _)] from rfl) ?_
  exact hk42 _ _ _

set_option maxHeartbeats 4000000 in
set_option maxRecDepth 100000 in
theorem sX12_serves_222 (k42 : Int32 × Int32 × zWd → Option (Int32 × zWd)) (k176 : Int32 × Int32 × zWd → Option (Int32 × zWd)) (v0 : Nat) (v1 : Int32) (v2 : Int32) (v3 : Int32) (v4 : Int32) (v5 : Int32) (v9 : Int32) (hk42 : ∀ (v3 : Int32) (v5 : Int32) (w : zWd), zS gX12_serves zEi 42 [(0, .ref v0), (1, .int v1), (2, .int v2), (3, .int v3), (4, .int v4), (5, .int v5)] [] w (k42 (v3, v5, w))) (hk176 : ∀ (v3 : Int32) (v9 : Int32) (w : zWd), zS gX12_serves zEi 176 [(0, .ref v0), (1, .int v1), (2, .int v2), (3, .int v3), (4, .int v4), (5, .int v5), (9, .int v9)] [] w (k176 (v3, v9, w))) (h0 : zShp v0 = (12, 25)) (w : zWd) : zS gX12_serves zEi 222 [(0, .ref v0), (1, .int v1), (2, .int v2), (3, .int v3), (4, .int v4), (5, .int v5), (9, .int v9)] [] w (mX12_serves_222 k42 k176 v0 v1 v2 v3 v4 v5 v9 w) := by
  unfold mX12_serves_222
  refine zS_iinc 225 rfl 6 (_ + (1 : Int32)) dX12_serves_222 rfl (by show 9 < 11; decide) rfl (show _ = [(9, .int _), (0, .ref _), (1, .int _), (2, .int _), (3, .int _), (4, .int _), (5, .int _)] from rfl) ?_
  refine zS_goto 176 dX12_serves_225 (by decide) ?_
  refine zS_sub [1, 2, 3, 4, 5, 6, 0] (show _ = [(0, .ref _), (1, .int _), (2, .int _), (3, .int _), (4, .int _), (5, .int _), (9, .int _)] from rfl) ?_
  exact hk176 _ _ _

set_option maxHeartbeats 4000000 in
set_option maxRecDepth 100000 in
theorem sX12_serves_204 (k42 : Int32 × Int32 × zWd → Option (Int32 × zWd)) (k176 : Int32 × Int32 × zWd → Option (Int32 × zWd)) (v0 : Nat) (v1 : Int32) (v2 : Int32) (v3 : Int32) (v4 : Int32) (v5 : Int32) (v9 : Int32) (s0 : Int32) (hk42 : ∀ (v3 : Int32) (v5 : Int32) (w : zWd), zS gX12_serves zEi 42 [(0, .ref v0), (1, .int v1), (2, .int v2), (3, .int v3), (4, .int v4), (5, .int v5)] [] w (k42 (v3, v5, w))) (hk176 : ∀ (v3 : Int32) (v9 : Int32) (w : zWd), zS gX12_serves zEi 176 [(0, .ref v0), (1, .int v1), (2, .int v2), (3, .int v3), (4, .int v4), (5, .int v5), (9, .int v9)] [] w (k176 (v3, v9, w))) (h0 : zShp v0 = (12, 25)) (w : zWd) : zS gX12_serves zEi 204 [(0, .ref v0), (1, .int v1), (2, .int v2), (3, .int v3), (4, .int v4), (5, .int v5), (9, .int v9)] [.int s0] w (mX12_serves_204 k42 k176 v0 v1 v2 v3 v4 v5 v9 s0 w) := by
  unfold mX12_serves_204
  refine zS_istore 206 rfl dX12_serves_204 (by show 10 < 11; decide) (show _ = [(10, .int _), (0, .ref _), (1, .int _), (2, .int _), (3, .int _), (4, .int _), (5, .int _), (9, .int _)] from rfl) ?_
  refine zS_iload 208 rfl 0 rfl dX12_serves_206 ?_
  refine zS_iconst 209 rfl (-1 : Int32) (by decide) dX12_serves_208 ?_
  refine zS_icmp_eq 222 212 rfl dX12_serves_209 (by decide) ?_ ?_
  · refine zS_sub [1, 2, 3, 4, 5, 6, 7] (show _ = [(0, .ref _), (1, .int _), (2, .int _), (3, .int _), (4, .int _), (5, .int _), (9, .int _)] from rfl) ?_
    exact sX12_serves_222 k42 k176 _ _ _ _ _ _ _ hk42 hk176 h0 _
  · refine zS_aload_n 213 rfl 1 rfl dX12_serves_212 ?_
    refine zS_getfp 216 rfl 18 dX12_serves_213 zC12 zw1130 (by decide) rfl h0 ?_
    refine zS_iload 218 rfl 0 rfl dX12_serves_216 ?_
    refine zS_iconst 219 rfl (1 : Int32) (by decide) dX12_serves_218 ?_
    refine zS_zast 220 rfl dX12_serves_219 (zP12_next h0) ?_
    refine zS_bnw (fun w5 => ?_)
    refine zS_iconst 221 rfl (1 : Int32) (by decide) dX12_serves_220 ?_
    refine zS_istore_n 222 rfl dX12_serves_221 (by show 3 < 11; decide) (show _ = [(3, .int _), (10, .int _), (0, .ref _), (1, .int _), (2, .int _), (4, .int _), (5, .int _), (9, .int _)] from rfl) ?_
    refine zS_sub [2, 3, 4, 0, 5, 6, 7] (show _ = [(0, .ref _), (1, .int _), (2, .int _), (3, .int _), (4, .int _), (5, .int _), (9, .int _)] from rfl) ?_
    exact sX12_serves_222 k42 k176 _ _ _ _ _ _ _ hk42 hk176 h0 _

set_option maxHeartbeats 4000000 in
set_option maxRecDepth 100000 in
theorem sX12_serves_176b (k42 : Int32 × Int32 × zWd → Option (Int32 × zWd)) (v0 : Nat) (v1 : Int32) (v2 : Int32) (v4 : Int32) (v5 : Int32) (k176 : Int32 × Int32 × zWd → Option (Int32 × zWd)) (v3 : Int32) (v9 : Int32) (hk42 : ∀ (v3 : Int32) (v5 : Int32) (w : zWd), zS gX12_serves zEi 42 [(0, .ref v0), (1, .int v1), (2, .int v2), (3, .int v3), (4, .int v4), (5, .int v5)] [] w (k42 (v3, v5, w))) (hk176 : ∀ (v3 : Int32) (v9 : Int32) (w : zWd), zS gX12_serves zEi 176 [(0, .ref v0), (1, .int v1), (2, .int v2), (3, .int v3), (4, .int v4), (5, .int v5), (9, .int v9)] [] w (k176 (v3, v9, w))) (h0 : zShp v0 = (12, 25)) (w : zWd) : zS gX12_serves zEi 176 [(0, .ref v0), (1, .int v1), (2, .int v2), (3, .int v3), (4, .int v4), (5, .int v5), (9, .int v9)] [] w (mX12_serves_176b k42 v0 v1 v2 v4 v5 k176 v3 v9 w) := by
  unfold mX12_serves_176b
  refine zS_iload 178 rfl 6 rfl dX12_serves_176 ?_
  refine zS_sipush 181 rfl (2401 : Int32) (by decide) dX12_serves_178 ?_
  refine zS_icmp_ge 228 184 rfl dX12_serves_181 (by decide) ?_ ?_
  · refine zS_sub [0, 1, 2, 3, 4, 5] (show _ = [(0, .ref _), (1, .int _), (2, .int _), (3, .int _), (4, .int _), (5, .int _)] from rfl) ?_
    exact sX12_serves_228 k42 _ _ _ _ _ _ hk42 h0 _
  · refine zS_aload_n 185 rfl 0 rfl dX12_serves_184 ?_
    refine zS_getfp 188 rfl 17 dX12_serves_185 zC12 zw1129 (by decide) rfl h0 ?_
    refine zS_iload 190 rfl 6 rfl dX12_serves_188 ?_
    refine zS_zald 191 rfl dX12_serves_190 (zP12_may h0) ?_
    refine zS_if_eq 203 194 rfl dX12_serves_191 (by decide) ?_ ?_
    · refine zS_iconst 204 rfl (-1 : Int32) (by decide) dX12_serves_203 ?_
      exact sX12_serves_204 k42 k176 _ _ _ _ _ _ _ _ hk42 hk176 h0 _
    · refine zS_aload_n 195 rfl 0 rfl dX12_serves_194 ?_
      refine zS_iload 197 rfl 6 rfl dX12_serves_195 ?_
      refine zS_cVi (as := [.int _]) (st := []) (g' := gX12_without) 200 rfl (okX12_without _ _ _ h0) dX12_serves_197 zC12 h0 zw1420 cbX12_without rfl rfl (by decide) (Nat.le_of_ble_eq_true rfl) (fun r6 w7 => ?_)
      refine zS_goto 204 dX12_serves_200 (by decide) ?_
      exact sX12_serves_204 k42 k176 _ _ _ _ _ _ _ _ hk42 hk176 h0 _

theorem sX12_serves_176 (k42 : Int32 × Int32 × zWd → Option (Int32 × zWd)) (v0 : Nat) (v1 : Int32) (v2 : Int32) (v4 : Int32) (v5 : Int32) (v3 : Int32) (v9 : Int32) (hk42 : ∀ (v3 : Int32) (v5 : Int32) (w : zWd), zS gX12_serves zEi 42 [(0, .ref v0), (1, .int v1), (2, .int v2), (3, .int v3), (4, .int v4), (5, .int v5)] [] w (k42 (v3, v5, w))) (h0 : zShp v0 = (12, 25)) (w : zWd) : zS gX12_serves zEi 176 [(0, .ref v0), (1, .int v1), (2, .int v2), (3, .int v3), (4, .int v4), (5, .int v5), (9, .int v9)] [] w (mX12_serves_176 k42 v0 v1 v2 v4 v5 v3 v9 w) :=
  zS_loop (L := fun q : Int32 × Int32 × zWd => [(0, .ref v0), (1, .int v1), (2, .int v2), (3, .int q.1), (4, .int v4), (5, .int v5), (9, .int q.2.1)]) (V := fun q => q.2.2) (T := fun _ => []) (F := fun k q => mX12_serves_176b k42 v0 v1 v2 v4 v5 k q.1 q.2.1 q.2.2) (fun k hk q => sX12_serves_176b k42 v0 v1 v2 v4 v5 k q.1 q.2.1 hk42 (fun a3 a9 w => hk (a3, a9, w)) h0 q.2.2) zFU (v3, v9, w)
set_option maxHeartbeats 4000000 in
set_option maxRecDepth 100000 in
theorem sX12_serves_151 (k42 : Int32 × Int32 × zWd → Option (Int32 × zWd)) (k118 : Int32 × Int32 × zWd → Option (Int32 × zWd)) (v0 : Nat) (v1 : Int32) (v2 : Int32) (v3 : Int32) (v4 : Int32) (v5 : Int32) (v9 : Int32) (s0 : Int32) (hk42 : ∀ (v3 : Int32) (v5 : Int32) (w : zWd), zS gX12_serves zEi 42 [(0, .ref v0), (1, .int v1), (2, .int v2), (3, .int v3), (4, .int v4), (5, .int v5)] [] w (k42 (v3, v5, w))) (hk118 : ∀ (v8 : Int32) (v9 : Int32) (w : zWd), zS gX12_serves zEi 118 [(0, .ref v0), (1, .int v1), (2, .int v2), (3, .int v3), (4, .int v4), (5, .int v5), (8, .int v8), (9, .int v9)] [] w (k118 (v8, v9, w))) (h0 : zShp v0 = (12, 25)) (w : zWd) : zS gX12_serves zEi 151 [(0, .ref v0), (1, .int v1), (2, .int v2), (3, .int v3), (4, .int v4), (5, .int v5), (9, .int v9)] [.int s0] w (mX12_serves_151 k42 k118 v0 v1 v2 v3 v4 v5 v9 s0 w) := by
  unfold mX12_serves_151
  refine zS_istore 153 rfl dX12_serves_151 (by show 8 < 11; decide) (show _ = [(8, .int _), (0, .ref _), (1, .int _), (2, .int _), (3, .int _), (4, .int _), (5, .int _), (9, .int _)] from rfl) ?_
  refine zS_iinc 156 rfl 7 (_ + (1 : Int32)) dX12_serves_153 rfl (by show 9 < 11; decide) rfl (show _ = [(9, .int _), (8, .int _), (0, .ref _), (1, .int _), (2, .int _), (3, .int _), (4, .int _), (5, .int _)] from rfl) ?_
  refine zS_goto 118 dX12_serves_156 (by decide) ?_
  refine zS_sub [2, 3, 4, 5, 6, 7, 1, 0] (show _ = [(0, .ref _), (1, .int _), (2, .int _), (3, .int _), (4, .int _), (5, .int _), (8, .int _), (9, .int _)] from rfl) ?_
  exact hk118 _ _ _

set_option maxHeartbeats 4000000 in
set_option maxRecDepth 100000 in
theorem sX12_serves_150 (k42 : Int32 × Int32 × zWd → Option (Int32 × zWd)) (k118 : Int32 × Int32 × zWd → Option (Int32 × zWd)) (v0 : Nat) (v1 : Int32) (v2 : Int32) (v3 : Int32) (v4 : Int32) (v5 : Int32) (v9 : Int32) (hk42 : ∀ (v3 : Int32) (v5 : Int32) (w : zWd), zS gX12_serves zEi 42 [(0, .ref v0), (1, .int v1), (2, .int v2), (3, .int v3), (4, .int v4), (5, .int v5)] [] w (k42 (v3, v5, w))) (hk118 : ∀ (v8 : Int32) (v9 : Int32) (w : zWd), zS gX12_serves zEi 118 [(0, .ref v0), (1, .int v1), (2, .int v2), (3, .int v3), (4, .int v4), (5, .int v5), (8, .int v8), (9, .int v9)] [] w (k118 (v8, v9, w))) (h0 : zShp v0 = (12, 25)) (w : zWd) : zS gX12_serves zEi 150 [(0, .ref v0), (1, .int v1), (2, .int v2), (3, .int v3), (4, .int v4), (5, .int v5), (9, .int v9)] [] w (mX12_serves_150 k42 k118 v0 v1 v2 v3 v4 v5 v9 w) := by
  unfold mX12_serves_150
  refine zS_iconst 151 rfl (0 : Int32) (by decide) dX12_serves_150 ?_
  exact sX12_serves_151 k42 k118 _ _ _ _ _ _ _ _ hk42 hk118 h0 _

set_option maxHeartbeats 4000000 in
set_option maxRecDepth 100000 in
theorem sX12_serves_118b (k42 : Int32 × Int32 × zWd → Option (Int32 × zWd)) (v0 : Nat) (v1 : Int32) (v2 : Int32) (v3 : Int32) (v4 : Int32) (v5 : Int32) (k118 : Int32 × Int32 × zWd → Option (Int32 × zWd)) (v8 : Int32) (v9 : Int32) (hk42 : ∀ (v3 : Int32) (v5 : Int32) (w : zWd), zS gX12_serves zEi 42 [(0, .ref v0), (1, .int v1), (2, .int v2), (3, .int v3), (4, .int v4), (5, .int v5)] [] w (k42 (v3, v5, w))) (hk118 : ∀ (v8 : Int32) (v9 : Int32) (w : zWd), zS gX12_serves zEi 118 [(0, .ref v0), (1, .int v1), (2, .int v2), (3, .int v3), (4, .int v4), (5, .int v5), (8, .int v8), (9, .int v9)] [] w (k118 (v8, v9, w))) (h0 : zShp v0 = (12, 25)) (w : zWd) : zS gX12_serves zEi 118 [(0, .ref v0), (1, .int v1), (2, .int v2), (3, .int v3), (4, .int v4), (5, .int v5), (8, .int v8), (9, .int v9)] [] w (mX12_serves_118b k42 v0 v1 v2 v3 v4 v5 k118 v8 v9 w) := by
  unfold mX12_serves_118b
  refine zS_iload 120 rfl 7 rfl dX12_serves_118 ?_
  refine zS_iconst 121 rfl (4 : Int32) (by decide) dX12_serves_120 ?_
  refine zS_icmp_ge 159 124 rfl dX12_serves_121 (by decide) ?_ ?_
  · refine zS_iload 161 rfl 6 rfl dX12_serves_159 ?_
    refine zS_if_eq 228 164 rfl dX12_serves_161 (by decide) ?_ ?_
    · refine zS_sub [0, 1, 2, 3, 4, 5] (show _ = [(0, .ref _), (1, .int _), (2, .int _), (3, .int _), (4, .int _), (5, .int _)] from rfl) ?_
      exact sX12_serves_228 k42 _ _ _ _ _ _ hk42 h0 _
    · refine zS_aload_n 165 rfl 0 rfl dX12_serves_164 ?_
      refine zS_iload_n 166 rfl 1 rfl dX12_serves_165 ?_
      refine zS_iload_n 167 rfl 2 rfl dX12_serves_166 ?_
      refine zS_cVi (as := [.int _, .int _]) (st := []) (g' := gX12_isWarm) 170 rfl (okX12_isWarm _ _ _ _ h0) dX12_serves_167 zC12 h0 zw1416 cbX12_isWarm rfl rfl (by decide) (Nat.le_of_ble_eq_true rfl) (fun r3 w4 => ?_)
      refine zS_if_eq 228 173 rfl dX12_serves_170 (by decide) ?_ ?_
      · refine zS_sub [0, 1, 2, 3, 4, 5] (show _ = [(0, .ref _), (1, .int _), (2, .int _), (3, .int _), (4, .int _), (5, .int _)] from rfl) ?_
        exact sX12_serves_228 k42 _ _ _ _ _ _ hk42 h0 _
      · refine zS_iconst 174 rfl (0 : Int32) (by decide) dX12_serves_173 ?_
        refine zS_istore 176 rfl dX12_serves_174 (by show 9 < 11; decide) (show _ = [(9, .int _), (0, .ref _), (1, .int _), (2, .int _), (3, .int _), (4, .int _), (5, .int _), (8, .int _)] from rfl) ?_
        refine zS_sub [1, 2, 3, 4, 5, 6, 0] (show _ = [(0, .ref _), (1, .int _), (2, .int _), (3, .int _), (4, .int _), (5, .int _), (9, .int _)] from rfl) ?_
        exact sX12_serves_176 k42 _ _ _ _ _ _ _ hk42 h0 _
  · refine zS_iload 126 rfl 6 rfl dX12_serves_124 ?_
    refine zS_if_eq 150 129 rfl dX12_serves_126 (by decide) ?_ ?_
    · refine zS_sub [0, 1, 2, 3, 4, 5, 7] (show _ = [(0, .ref _), (1, .int _), (2, .int _), (3, .int _), (4, .int _), (5, .int _), (9, .int _)] from rfl) ?_
      exact sX12_serves_150 k42 k118 _ _ _ _ _ _ _ hk42 hk118 h0 _
    · refine zS_aload_n 130 rfl 0 rfl dX12_serves_129 ?_
      refine zS_getfp 133 rfl 20 dX12_serves_130 zC12 zw1132 (by decide) rfl h0 ?_
      refine zS_iload 135 rfl 7 rfl dX12_serves_133 ?_
      refine zS_iald 136 rfl dX12_serves_135 (zP12_by h0) ?_
      refine zS_aload_n 137 rfl 0 rfl dX12_serves_136 ?_
      refine zS_getfp 140 rfl 19 dX12_serves_137 zC12 zw1131 (by decide) rfl h0 ?_
      refine zS_iload 142 rfl 7 rfl dX12_serves_140 ?_
      refine zS_iald 143 rfl dX12_serves_142 (zP12_tens h0) ?_
      refine zS_icmp_gt 150 146 rfl dX12_serves_143 (by decide) ?_ ?_
      · refine zS_sub [0, 1, 2, 3, 4, 5, 7] (show _ = [(0, .ref _), (1, .int _), (2, .int _), (3, .int _), (4, .int _), (5, .int _), (9, .int _)] from rfl) ?_
        exact sX12_serves_150 k42 k118 _ _ _ _ _ _ _ hk42 hk118 h0 _
      · refine zS_iconst 147 rfl (1 : Int32) (by decide) dX12_serves_146 ?_
        refine zS_goto 151 dX12_serves_147 (by decide) ?_
        refine zS_sub [0, 1, 2, 3, 4, 5, 7] (show _ = [(0, .ref _), (1, .int _), (2, .int _), (3, .int _), (4, .int _), (5, .int _), (9, .int _)] from rfl) ?_
        exact sX12_serves_151 k42 k118 _ _ _ _ _ _ _ _ hk42 hk118 h0 _

theorem sX12_serves_118 (k42 : Int32 × Int32 × zWd → Option (Int32 × zWd)) (v0 : Nat) (v1 : Int32) (v2 : Int32) (v3 : Int32) (v4 : Int32) (v5 : Int32) (v8 : Int32) (v9 : Int32) (hk42 : ∀ (v3 : Int32) (v5 : Int32) (w : zWd), zS gX12_serves zEi 42 [(0, .ref v0), (1, .int v1), (2, .int v2), (3, .int v3), (4, .int v4), (5, .int v5)] [] w (k42 (v3, v5, w))) (h0 : zShp v0 = (12, 25)) (w : zWd) : zS gX12_serves zEi 118 [(0, .ref v0), (1, .int v1), (2, .int v2), (3, .int v3), (4, .int v4), (5, .int v5), (8, .int v8), (9, .int v9)] [] w (mX12_serves_118 k42 v0 v1 v2 v3 v4 v5 v8 v9 w) :=
  zS_loop (L := fun q : Int32 × Int32 × zWd => [(0, .ref v0), (1, .int v1), (2, .int v2), (3, .int v3), (4, .int v4), (5, .int v5), (8, .int q.1), (9, .int q.2.1)]) (V := fun q => q.2.2) (T := fun _ => []) (F := fun k q => mX12_serves_118b k42 v0 v1 v2 v3 v4 v5 k q.1 q.2.1 q.2.2) (fun k hk q => sX12_serves_118b k42 v0 v1 v2 v3 v4 v5 k q.1 q.2.1 hk42 (fun a8 a9 w => hk (a8, a9, w)) h0 q.2.2) zFU (v8, v9, w)
set_option maxHeartbeats 4000000 in
set_option maxRecDepth 100000 in
theorem sX12_serves_113 (k42 : Int32 × Int32 × zWd → Option (Int32 × zWd)) (v0 : Nat) (v1 : Int32) (v2 : Int32) (v3 : Int32) (v4 : Int32) (v5 : Int32) (s0 : Int32) (hk42 : ∀ (v3 : Int32) (v5 : Int32) (w : zWd), zS gX12_serves zEi 42 [(0, .ref v0), (1, .int v1), (2, .int v2), (3, .int v3), (4, .int v4), (5, .int v5)] [] w (k42 (v3, v5, w))) (h0 : zShp v0 = (12, 25)) (w : zWd) : zS gX12_serves zEi 113 [(0, .ref v0), (1, .int v1), (2, .int v2), (3, .int v3), (4, .int v4), (5, .int v5)] [.int s0] w (mX12_serves_113 k42 v0 v1 v2 v3 v4 v5 s0 w) := by
  unfold mX12_serves_113
  refine zS_istore 115 rfl dX12_serves_113 (by show 8 < 11; decide) (show _ = [(8, .int _), (0, .ref _), (1, .int _), (2, .int _), (3, .int _), (4, .int _), (5, .int _)] from rfl) ?_
  refine zS_iconst 116 rfl (0 : Int32) (by decide) dX12_serves_115 ?_
  refine zS_istore 118 rfl dX12_serves_116 (by show 9 < 11; decide) (show _ = [(9, .int _), (8, .int _), (0, .ref _), (1, .int _), (2, .int _), (3, .int _), (4, .int _), (5, .int _)] from rfl) ?_
  refine zS_sub [2, 3, 4, 5, 6, 7, 1, 0] (show _ = [(0, .ref _), (1, .int _), (2, .int _), (3, .int _), (4, .int _), (5, .int _), (8, .int _), (9, .int _)] from rfl) ?_
  exact sX12_serves_118 k42 _ _ _ _ _ _ _ _ hk42 h0 _

set_option maxHeartbeats 4000000 in
set_option maxRecDepth 100000 in
theorem sX12_serves_60b (k42 : Int32 × Int32 × zWd → Option (Int32 × zWd)) (v0 : Nat) (v1 : Int32) (v2 : Int32) (v3 : Int32) (v4 : Int32) (v5 : Int32) (k60 : Int32 × Int32 × Int32 × zWd → Option (Int32 × zWd)) (v6 : Int32) (v7 : Int32) (v8 : Int32) (hk42 : ∀ (v3 : Int32) (v5 : Int32) (w : zWd), zS gX12_serves zEi 42 [(0, .ref v0), (1, .int v1), (2, .int v2), (3, .int v3), (4, .int v4), (5, .int v5)] [] w (k42 (v3, v5, w))) (hk60 : ∀ (v6 : Int32) (v7 : Int32) (v8 : Int32) (w : zWd), zS gX12_serves zEi 60 [(0, .ref v0), (1, .int v1), (2, .int v2), (3, .int v3), (4, .int v4), (5, .int v5), (6, .int v6), (7, .int v7), (8, .int v8)] [] w (k60 (v6, v7, v8, w))) (h0 : zShp v0 = (12, 25)) (w : zWd) : zS gX12_serves zEi 60 [(0, .ref v0), (1, .int v1), (2, .int v2), (3, .int v3), (4, .int v4), (5, .int v5), (6, .int v6), (7, .int v7), (8, .int v8)] [] w (mX12_serves_60b k42 v0 v1 v2 v3 v4 v5 k60 v6 v7 v8 w) := by
  unfold mX12_serves_60b
  refine zS_iload 62 rfl 8 rfl dX12_serves_60 ?_
  refine zS_iconst 63 rfl (4 : Int32) (by decide) dX12_serves_62 ?_
  refine zS_icmp_ge 101 66 rfl dX12_serves_63 (by decide) ?_ ?_
  · refine zS_iload 103 rfl 6 rfl dX12_serves_101 ?_
    refine zS_iload 105 rfl 4 rfl dX12_serves_103 ?_
    refine zS_icmp_ne 112 108 rfl dX12_serves_105 (by decide) ?_ ?_
    · refine zS_iconst 109 rfl (1 : Int32) (by decide) dX12_serves_108 ?_
      refine zS_goto 113 dX12_serves_109 (by decide) ?_
      refine zS_sub [0, 1, 2, 3, 4, 5] (show _ = [(0, .ref _), (1, .int _), (2, .int _), (3, .int _), (4, .int _), (5, .int _)] from rfl) ?_
      exact sX12_serves_113 k42 _ _ _ _ _ _ _ hk42 h0 _
    · refine zS_iconst 113 rfl (0 : Int32) (by decide) dX12_serves_112 ?_
      refine zS_sub [0, 1, 2, 3, 4, 5] (show _ = [(0, .ref _), (1, .int _), (2, .int _), (3, .int _), (4, .int _), (5, .int _)] from rfl) ?_
      exact sX12_serves_113 k42 _ _ _ _ _ _ _ hk42 h0 _
  · refine zS_aload_n 67 rfl 0 rfl dX12_serves_66 ?_
    refine zS_getfp 70 rfl 20 dX12_serves_67 zC12 zw1132 (by decide) rfl h0 ?_
    refine zS_iload 72 rfl 8 rfl dX12_serves_70 ?_
    refine zS_iload 74 rfl 7 rfl dX12_serves_72 ?_
    refine zS_iconst 75 rfl (5 : Int32) (by decide) dX12_serves_74 ?_
    refine zS_iremC 76 rfl dX12_serves_75 (by decide) ?_
    refine zS_iast 77 rfl dX12_serves_76 (zP12_by h0) ?_
    refine zS_bnw (fun w8 => ?_)
    refine zS_iload 79 rfl 6 rfl dX12_serves_77 ?_
    refine zS_aload_n 80 rfl 0 rfl dX12_serves_79 ?_
    refine zS_getfp 83 rfl 20 dX12_serves_80 zC12 zw1132 (by decide) rfl h0 ?_
    refine zS_iload 85 rfl 8 rfl dX12_serves_83 ?_
    refine zS_iald 86 rfl dX12_serves_85 (zP12_by h0) ?_
    refine zS_iadd 87 rfl dX12_serves_86 ?_
    refine zS_bni (fun x9 => ?_)
    refine zS_istore 89 rfl dX12_serves_87 (by show 6 < 11; decide) (show _ = [(6, .int _), (0, .ref _), (1, .int _), (2, .int _), (3, .int _), (4, .int _), (5, .int _), (7, .int _), (8, .int _)] from rfl) ?_
    refine zS_iload 91 rfl 7 rfl dX12_serves_89 ?_
    refine zS_iconst 92 rfl (5 : Int32) (by decide) dX12_serves_91 ?_
    refine zS_idivC 93 rfl dX12_serves_92 (by decide) ?_
    refine zS_bni (fun x10 => ?_)
    refine zS_istore 95 rfl dX12_serves_93 (by show 7 < 11; decide) (show _ = [(7, .int _), (6, .int _), (0, .ref _), (1, .int _), (2, .int _), (3, .int _), (4, .int _), (5, .int _), (8, .int _)] from rfl) ?_
    refine zS_iinc 98 rfl 8 (_ + (1 : Int32)) dX12_serves_95 rfl (by show 8 < 11; decide) rfl (show _ = [(8, .int _), (7, .int _), (6, .int _), (0, .ref _), (1, .int _), (2, .int _), (3, .int _), (4, .int _), (5, .int _)] from rfl) ?_
    refine zS_goto 60 dX12_serves_98 (by decide) ?_
    refine zS_sub [3, 4, 5, 6, 7, 8, 2, 1, 0] (show _ = [(0, .ref _), (1, .int _), (2, .int _), (3, .int _), (4, .int _), (5, .int _), (6, .int _), (7, .int _), (8, .int _)] from rfl) ?_
    exact hk60 _ _ _ _

theorem sX12_serves_60 (k42 : Int32 × Int32 × zWd → Option (Int32 × zWd)) (v0 : Nat) (v1 : Int32) (v2 : Int32) (v3 : Int32) (v4 : Int32) (v5 : Int32) (v6 : Int32) (v7 : Int32) (v8 : Int32) (hk42 : ∀ (v3 : Int32) (v5 : Int32) (w : zWd), zS gX12_serves zEi 42 [(0, .ref v0), (1, .int v1), (2, .int v2), (3, .int v3), (4, .int v4), (5, .int v5)] [] w (k42 (v3, v5, w))) (h0 : zShp v0 = (12, 25)) (w : zWd) : zS gX12_serves zEi 60 [(0, .ref v0), (1, .int v1), (2, .int v2), (3, .int v3), (4, .int v4), (5, .int v5), (6, .int v6), (7, .int v7), (8, .int v8)] [] w (mX12_serves_60 k42 v0 v1 v2 v3 v4 v5 v6 v7 v8 w) :=
  zS_loop (L := fun q : Int32 × Int32 × Int32 × zWd => [(0, .ref v0), (1, .int v1), (2, .int v2), (3, .int v3), (4, .int v4), (5, .int v5), (6, .int q.1), (7, .int q.2.1), (8, .int q.2.2.1)]) (V := fun q => q.2.2.2) (T := fun _ => []) (F := fun k q => mX12_serves_60b k42 v0 v1 v2 v3 v4 v5 k q.1 q.2.1 q.2.2.1 q.2.2.2) (fun k hk q => sX12_serves_60b k42 v0 v1 v2 v3 v4 v5 k q.1 q.2.1 q.2.2.1 hk42 (fun a6 a7 a8 w => hk (a6, a7, a8, w)) h0 q.2.2.2) zFU (v6, v7, v8, w)
set_option maxHeartbeats 4000000 in
set_option maxRecDepth 100000 in
theorem sX12_serves_42b (v0 : Nat) (v1 : Int32) (v2 : Int32) (v4 : Int32) (k42 : Int32 × Int32 × zWd → Option (Int32 × zWd)) (v3 : Int32) (v5 : Int32) (hk42 : ∀ (v3 : Int32) (v5 : Int32) (w : zWd), zS gX12_serves zEi 42 [(0, .ref v0), (1, .int v1), (2, .int v2), (3, .int v3), (4, .int v4), (5, .int v5)] [] w (k42 (v3, v5, w))) (h0 : zShp v0 = (12, 25)) (w : zWd) : zS gX12_serves zEi 42 [(0, .ref v0), (1, .int v1), (2, .int v2), (3, .int v3), (4, .int v4), (5, .int v5)] [] w (mX12_serves_42b v0 v1 v2 v4 k42 v3 v5 w) := by
  unfold mX12_serves_42b
  refine zS_iload 44 rfl 5 rfl dX12_serves_42 ?_
  refine zS_sipush 47 rfl (625 : Int32) (by decide) dX12_serves_44 ?_
  refine zS_icmp_ge 234 50 rfl dX12_serves_47 (by decide) ?_ ?_
  · refine zS_iconst 235 rfl (0 : Int32) (by decide) dX12_serves_234 ?_
    refine zS_istore 237 rfl dX12_serves_235 (by show 5 < 11; decide) (show _ = [(5, .int _), (0, .ref _), (1, .int _), (2, .int _), (3, .int _), (4, .int _)] from rfl) ?_
    refine zS_sub [1, 4, 0] (show _ = [(0, .ref _), (3, .int _), (5, .int _)] from rfl) ?_
    exact sX12_serves_237 _ _ _ h0 _
  · refine zS_iconst 51 rfl (0 : Int32) (by decide) dX12_serves_50 ?_
    refine zS_istore 53 rfl dX12_serves_51 (by show 6 < 11; decide) (show _ = [(6, .int _), (0, .ref _), (1, .int _), (2, .int _), (3, .int _), (4, .int _), (5, .int _)] from rfl) ?_
    refine zS_iload 55 rfl 6 rfl dX12_serves_53 ?_
    refine zS_istore 57 rfl dX12_serves_55 (by show 7 < 11; decide) (show _ = [(7, .int _), (6, .int _), (0, .ref _), (1, .int _), (2, .int _), (3, .int _), (4, .int _), (5, .int _)] from rfl) ?_
    refine zS_iconst 58 rfl (0 : Int32) (by decide) dX12_serves_57 ?_
    refine zS_istore 60 rfl dX12_serves_58 (by show 8 < 11; decide) (show _ = [(8, .int _), (7, .int _), (6, .int _), (0, .ref _), (1, .int _), (2, .int _), (3, .int _), (4, .int _), (5, .int _)] from rfl) ?_
    refine zS_sub [3, 4, 5, 6, 7, 8, 2, 1, 0] (show _ = [(0, .ref _), (1, .int _), (2, .int _), (3, .int _), (4, .int _), (5, .int _), (6, .int _), (7, .int _), (8, .int _)] from rfl) ?_
    exact sX12_serves_60 k42 _ _ _ _ _ _ _ _ _ hk42 h0 _

theorem sX12_serves_42 (v0 : Nat) (v1 : Int32) (v2 : Int32) (v4 : Int32) (v3 : Int32) (v5 : Int32) (h0 : zShp v0 = (12, 25)) (w : zWd) : zS gX12_serves zEi 42 [(0, .ref v0), (1, .int v1), (2, .int v2), (3, .int v3), (4, .int v4), (5, .int v5)] [] w (mX12_serves_42 v0 v1 v2 v4 v3 v5 w) :=
  zS_loop (L := fun q : Int32 × Int32 × zWd => [(0, .ref v0), (1, .int v1), (2, .int v2), (3, .int q.1), (4, .int v4), (5, .int q.2.1)]) (V := fun q => q.2.2) (T := fun _ => []) (F := fun k q => mX12_serves_42b v0 v1 v2 v4 k q.1 q.2.1 q.2.2) (fun k hk q => sX12_serves_42b v0 v1 v2 v4 k q.1 q.2.1 (fun a3 a5 w => hk (a3, a5, w)) h0 q.2.2) zFU (v3, v5, w)
set_option maxHeartbeats 4000000 in
set_option maxRecDepth 100000 in
theorem sX12_serves_5b (v0 : Nat) (v1 : Int32) (v2 : Int32) (v3 : Int32) (k5 : Int32 × zWd → Option (Int32 × zWd)) (v4 : Int32) (hk5 : ∀ (v4 : Int32) (w : zWd), zS gX12_serves zEi 5 [(0, .ref v0), (1, .int v1), (2, .int v2), (3, .int v3), (4, .int v4)] [] w (k5 (v4, w))) (h0 : zShp v0 = (12, 25)) (w : zWd) : zS gX12_serves zEi 5 [(0, .ref v0), (1, .int v1), (2, .int v2), (3, .int v3), (4, .int v4)] [] w (mX12_serves_5b v0 v1 v2 v3 k5 v4 w) := by
  unfold mX12_serves_5b
  refine zS_iload 7 rfl 4 rfl dX12_serves_5 ?_
  refine zS_sipush 10 rfl (2401 : Int32) (by decide) dX12_serves_7 ?_
  refine zS_icmp_ge 27 13 rfl dX12_serves_10 (by decide) ?_ ?_
  · refine zS_aload_n 28 rfl 0 rfl dX12_serves_27 ?_
    refine zS_getfp 31 rfl 1 dX12_serves_28 zC12 zw1113 (by decide) rfl h0 ?_
    refine zS_sipush 34 rfl (2016 : Int32) (by decide) dX12_serves_31 ?_
    refine zS_iload_n 35 rfl 1 rfl dX12_serves_34 ?_
    refine zS_iadd 36 rfl dX12_serves_35 ?_
    refine zS_iald 37 rfl dX12_serves_36 (zP12_s h0) ?_
    refine zS_bni (fun x1 => ?_)
    refine zS_istore 39 rfl dX12_serves_37 (by show 4 < 11; decide) (show _ = [(4, .int _), (0, .ref _), (1, .int _), (2, .int _), (3, .int _)] from rfl) ?_
    refine zS_iconst 40 rfl (0 : Int32) (by decide) dX12_serves_39 ?_
    refine zS_istore 42 rfl dX12_serves_40 (by show 5 < 11; decide) (show _ = [(5, .int _), (4, .int _), (0, .ref _), (1, .int _), (2, .int _), (3, .int _)] from rfl) ?_
    refine zS_sub [2, 3, 4, 5, 1, 0] (show _ = [(0, .ref _), (1, .int _), (2, .int _), (3, .int _), (4, .int _), (5, .int _)] from rfl) ?_
    exact sX12_serves_42 _ _ _ _ _ _ h0 _
  · refine zS_aload_n 14 rfl 0 rfl dX12_serves_13 ?_
    refine zS_getfp 17 rfl 18 dX12_serves_14 zC12 zw1130 (by decide) rfl h0 ?_
    refine zS_iload 19 rfl 4 rfl dX12_serves_17 ?_
    refine zS_iconst 20 rfl (0 : Int32) (by decide) dX12_serves_19 ?_
    refine zS_zast 21 rfl dX12_serves_20 (zP12_next h0) ?_
    refine zS_bnw (fun w11 => ?_)
    refine zS_iinc 24 rfl 4 (_ + (1 : Int32)) dX12_serves_21 rfl (by show 4 < 11; decide) rfl (show _ = [(4, .int _), (0, .ref _), (1, .int _), (2, .int _), (3, .int _)] from rfl) ?_
    refine zS_goto 5 dX12_serves_24 (by decide) ?_
    refine zS_sub [1, 2, 3, 4, 0] (show _ = [(0, .ref _), (1, .int _), (2, .int _), (3, .int _), (4, .int _)] from rfl) ?_
    exact hk5 _ _

theorem sX12_serves_5 (v0 : Nat) (v1 : Int32) (v2 : Int32) (v3 : Int32) (v4 : Int32) (h0 : zShp v0 = (12, 25)) (w : zWd) : zS gX12_serves zEi 5 [(0, .ref v0), (1, .int v1), (2, .int v2), (3, .int v3), (4, .int v4)] [] w (mX12_serves_5 v0 v1 v2 v3 v4 w) :=
  zS_loop (L := fun q : Int32 × zWd => [(0, .ref v0), (1, .int v1), (2, .int v2), (3, .int v3), (4, .int q.1)]) (V := fun q => q.2) (T := fun _ => []) (F := fun k q => mX12_serves_5b v0 v1 v2 v3 k q.1 q.2) (fun k hk q => sX12_serves_5b v0 v1 v2 v3 k q.1 (fun a4 w => hk (a4, w)) h0 q.2) zFU (v4, w)
set_option maxHeartbeats 4000000 in
set_option maxRecDepth 100000 in
theorem sX12_serves (v0 : Nat) (v1 : Int32) (v2 : Int32) (h0 : zShp v0 = (12, 25)) (w : zWd) : zS gX12_serves zEi 0 [(0, .ref v0), (1, .int v1), (2, .int v2)] [] w (mX12_serves v0 v1 v2 w) := by
  unfold mX12_serves
  refine zS_iconst 1 rfl (0 : Int32) (by decide) dX12_serves_0 ?_
  refine zS_istore_n 2 rfl dX12_serves_1 (by show 3 < 11; decide) (show _ = [(3, .int _), (0, .ref _), (1, .int _), (2, .int _)] from rfl) ?_
  refine zS_iconst 3 rfl (0 : Int32) (by decide) dX12_serves_2 ?_
  refine zS_istore 5 rfl dX12_serves_3 (by show 4 < 11; decide) (show _ = [(4, .int _), (3, .int _), (0, .ref _), (1, .int _), (2, .int _)] from rfl) ?_
  refine zS_sub [2, 3, 4, 1, 0] (show _ = [(0, .ref _), (1, .int _), (2, .int _), (3, .int _), (4, .int _)] from rfl) ?_
  exact sX12_serves_5 _ _ _ _ _ h0 _

theorem okX12_serves (v0 : Nat) (v1 : Int32) (v2 : Int32) (w : zWd) (h0 : zShp v0 = (12, 25)) : zOk gX12_serves zEi [.ref v0, .int v1, .int v2] w (mX12_serves v0 v1 v2 w) := zOk_of (by decide) rfl (Nat.le_of_ble_eq_true rfl) (sX12_serves v0 v1 v2 h0 w)
abbrev gX12_mixOf : zMth := (yX12_mixOf, cX12_mixOf, 7, (some .int), 49, zE0)
theorem cbX12_mixOf : zCbV yX12_mixOf cX12_mixOf 7 (some .int) 2 := ⟨zw1410, zw65, zw89, zw1411, by decide, by decide, by decide +kernel⟩
set_option maxHeartbeats 4000000 in
set_option maxRecDepth 100000 in
theorem sX12_mixOf_189 (k148 : Int32 × Int32 × zWd → Option (Int32 × zWd)) (v0 : Nat) (v1 : Int32) (v6 : Int32) (s0 : Int32) (s1 : Int32) (hk148 : ∀ (v5 : Int32) (v6 : Int32) (w : zWd), zS gX12_mixOf zEi 148 [(0, .ref v0), (1, .int v1), (5, .int v5), (6, .int v6)] [] w (k148 (v5, v6, w))) (h0 : zShp v0 = (12, 25)) (w : zWd) : zS gX12_mixOf zEi 189 [(0, .ref v0), (1, .int v1), (6, .int v6)] [.int s0, .int s1] w (mX12_mixOf_189 k148 v0 v1 v6 s0 s1 w) := by
  unfold mX12_mixOf_189
  refine zS_ior 190 rfl dX12_mixOf_189 ?_
  refine zS_bni (fun x5 => ?_)
  refine zS_istore 192 rfl dX12_mixOf_190 (by show 5 < 7; decide) (show _ = [(5, .int _), (0, .ref _), (1, .int _), (6, .int _)] from rfl) ?_
  refine zS_iinc 195 rfl 3 (_ + (1 : Int32)) dX12_mixOf_192 rfl (by show 6 < 7; decide) rfl (show _ = [(6, .int _), (5, .int _), (0, .ref _), (1, .int _)] from rfl) ?_
  refine zS_goto 148 dX12_mixOf_195 (by decide) ?_
  refine zS_sub [2, 3, 1, 0] (show _ = [(0, .ref _), (1, .int _), (5, .int _), (6, .int _)] from rfl) ?_
  exact hk148 _ _ _

set_option maxHeartbeats 4000000 in
set_option maxRecDepth 100000 in
theorem sX12_mixOf_148b (v0 : Nat) (v1 : Int32) (k148 : Int32 × Int32 × zWd → Option (Int32 × zWd)) (v5 : Int32) (v6 : Int32) (hk148 : ∀ (v5 : Int32) (v6 : Int32) (w : zWd), zS gX12_mixOf zEi 148 [(0, .ref v0), (1, .int v1), (5, .int v5), (6, .int v6)] [] w (k148 (v5, v6, w))) (h0 : zShp v0 = (12, 25)) (w : zWd) : zS gX12_mixOf zEi 148 [(0, .ref v0), (1, .int v1), (5, .int v5), (6, .int v6)] [] w (mX12_mixOf_148b v0 v1 k148 v5 v6 w) := by
  unfold mX12_mixOf_148b
  refine zS_iload 150 rfl 3 rfl dX12_mixOf_148 ?_
  refine zS_aload_n 151 rfl 0 rfl dX12_mixOf_150 ?_
  refine zS_getfp 154 rfl 1 dX12_mixOf_151 zC12 zw1113 (by decide) rfl h0 ?_
  refine zS_iconst 155 rfl (3 : Int32) (by decide) dX12_mixOf_154 ?_
  refine zS_iald 156 rfl dX12_mixOf_155 (zP12_s h0) ?_
  refine zS_icmp_ge 198 159 rfl dX12_mixOf_156 (by decide) ?_ ?_
  · refine zS_iload 200 rfl 2 rfl dX12_mixOf_198 ?_
    exact zS_reti dX12_mixOf_200 rfl
  · refine zS_iload 161 rfl 2 rfl dX12_mixOf_159 ?_
    refine zS_aload_n 162 rfl 0 rfl dX12_mixOf_161 ?_
    refine zS_aload_n 163 rfl 0 rfl dX12_mixOf_162 ?_
    refine zS_getfp 166 rfl 15 dX12_mixOf_163 zC12 zw1127 (by decide) rfl h0 ?_
    refine zS_iload 168 rfl 3 rfl dX12_mixOf_166 ?_
    refine zS_iald 169 rfl dX12_mixOf_168 (zP12_line h0) ?_
    refine zS_iload_n 170 rfl 1 rfl dX12_mixOf_169 ?_
    refine zS_cVi (as := [.int _, .int _]) (st := [.int _]) (g' := gX12_serves) 173 rfl (okX12_serves _ _ _ _ h0) dX12_mixOf_170 zC12 h0 zw1412 cbX12_serves rfl rfl (by decide) (Nat.le_of_ble_eq_true rfl) (fun r3 w4 => ?_)
    refine zS_if_eq 188 176 rfl dX12_mixOf_173 (by decide) ?_ ?_
    · refine zS_iconst 189 rfl (0 : Int32) (by decide) dX12_mixOf_188 ?_
      refine zS_sub [0, 1, 3] (show _ = [(0, .ref _), (1, .int _), (6, .int _)] from rfl) ?_
      exact sX12_mixOf_189 k148 _ _ _ _ _ hk148 h0 _
    · refine zS_iconst 177 rfl (1 : Int32) (by decide) dX12_mixOf_176 ?_
      refine zS_aload_n 178 rfl 0 rfl dX12_mixOf_177 ?_
      refine zS_getfp 181 rfl 15 dX12_mixOf_178 zC12 zw1127 (by decide) rfl h0 ?_
      refine zS_iload 183 rfl 3 rfl dX12_mixOf_181 ?_
      refine zS_iald 184 rfl dX12_mixOf_183 (zP12_line h0) ?_
      refine zS_ishl 185 rfl dX12_mixOf_184 ?_
      refine zS_goto 189 dX12_mixOf_185 (by decide) ?_
      refine zS_sub [0, 1, 3] (show _ = [(0, .ref _), (1, .int _), (6, .int _)] from rfl) ?_
      exact sX12_mixOf_189 k148 _ _ _ _ _ hk148 h0 _

theorem sX12_mixOf_148 (v0 : Nat) (v1 : Int32) (v5 : Int32) (v6 : Int32) (h0 : zShp v0 = (12, 25)) (w : zWd) : zS gX12_mixOf zEi 148 [(0, .ref v0), (1, .int v1), (5, .int v5), (6, .int v6)] [] w (mX12_mixOf_148 v0 v1 v5 v6 w) :=
  zS_loop (L := fun q : Int32 × Int32 × zWd => [(0, .ref v0), (1, .int v1), (5, .int q.1), (6, .int q.2.1)]) (V := fun q => q.2.2) (T := fun _ => []) (F := fun k q => mX12_mixOf_148b v0 v1 k q.1 q.2.1 q.2.2) (fun k hk q => sX12_mixOf_148b v0 v1 k q.1 q.2.1 (fun a5 a6 w => hk (a5, a6, w)) h0 q.2.2) zFU (v5, v6, w)
set_option maxHeartbeats 4000000 in
set_option maxRecDepth 100000 in
theorem sX12_mixOf_135 (k110 : Int32 × zWd → Option (Int32 × zWd)) (v0 : Nat) (v1 : Int32) (v3 : Int32) (v5 : Int32) (s0 : Int32) (s1 : Int32) (s2 : Nat) (hk110 : ∀ (v5 : Int32) (w : zWd), zS gX12_mixOf zEi 110 [(0, .ref v0), (1, .int v1), (3, .int v3), (5, .int v5)] [] w (k110 (v5, w))) (h0 : zShp v0 = (12, 25)) (t2 : zShp s2 = (21, 2401)) (w : zWd) : zS gX12_mixOf zEi 135 [(0, .ref v0), (1, .int v1), (3, .int v3), (5, .int v5)] [.int s0, .int s1, .ref s2] w (mX12_mixOf_135 k110 v0 v1 v3 v5 s0 s1 s2 w) := by
  unfold mX12_mixOf_135
  refine zS_zast 136 rfl dX12_mixOf_135 t2 ?_
  refine zS_bnw (fun w6 => ?_)
  refine zS_iinc 139 rfl 3 (_ + (1 : Int32)) dX12_mixOf_136 rfl (by show 5 < 7; decide) rfl (show _ = [(5, .int _), (0, .ref _), (1, .int _), (3, .int _)] from rfl) ?_
  refine zS_goto 110 dX12_mixOf_139 (by decide) ?_
  refine zS_sub [1, 2, 3, 0] (show _ = [(0, .ref _), (1, .int _), (3, .int _), (5, .int _)] from rfl) ?_
  exact hk110 _ _

set_option maxHeartbeats 4000000 in
set_option maxRecDepth 100000 in
theorem sX12_mixOf_110b (v0 : Nat) (v1 : Int32) (v3 : Int32) (k110 : Int32 × zWd → Option (Int32 × zWd)) (v5 : Int32) (hk110 : ∀ (v5 : Int32) (w : zWd), zS gX12_mixOf zEi 110 [(0, .ref v0), (1, .int v1), (3, .int v3), (5, .int v5)] [] w (k110 (v5, w))) (h0 : zShp v0 = (12, 25)) (w : zWd) : zS gX12_mixOf zEi 110 [(0, .ref v0), (1, .int v1), (3, .int v3), (5, .int v5)] [] w (mX12_mixOf_110b v0 v1 v3 k110 v5 w) := by
  unfold mX12_mixOf_110b
  refine zS_iload 112 rfl 3 rfl dX12_mixOf_110 ?_
  refine zS_sipush 115 rfl (2401 : Int32) (by decide) dX12_mixOf_112 ?_
  refine zS_icmp_ge 142 118 rfl dX12_mixOf_115 (by decide) ?_ ?_
  · refine zS_iconst 143 rfl (0 : Int32) (by decide) dX12_mixOf_142 ?_
    refine zS_istore 145 rfl dX12_mixOf_143 (by show 5 < 7; decide) (show _ = [(5, .int _), (0, .ref _), (1, .int _), (3, .int _)] from rfl) ?_
    refine zS_iconst 146 rfl (0 : Int32) (by decide) dX12_mixOf_145 ?_
    refine zS_istore 148 rfl dX12_mixOf_146 (by show 6 < 7; decide) (show _ = [(6, .int _), (5, .int _), (0, .ref _), (1, .int _), (3, .int _)] from rfl) ?_
    refine zS_sub [2, 3, 1, 0] (show _ = [(0, .ref _), (1, .int _), (5, .int _), (6, .int _)] from rfl) ?_
    exact sX12_mixOf_148 _ _ _ _ h0 _
  · refine zS_aload_n 119 rfl 0 rfl dX12_mixOf_118 ?_
    refine zS_getfp 122 rfl 17 dX12_mixOf_119 zC12 zw1129 (by decide) rfl h0 ?_
    refine zS_iload 124 rfl 3 rfl dX12_mixOf_122 ?_
    refine zS_iload 126 rfl 3 rfl dX12_mixOf_124 ?_
    refine zS_iload_n 127 rfl 2 rfl dX12_mixOf_126 ?_
    refine zS_icmp_ne 134 130 rfl dX12_mixOf_127 (by decide) ?_ ?_
    · refine zS_iconst 131 rfl (1 : Int32) (by decide) dX12_mixOf_130 ?_
      refine zS_goto 135 dX12_mixOf_131 (by decide) ?_
      exact sX12_mixOf_135 k110 _ _ _ _ _ _ _ hk110 h0 (zP12_may h0) _
    · refine zS_iconst 135 rfl (0 : Int32) (by decide) dX12_mixOf_134 ?_
      exact sX12_mixOf_135 k110 _ _ _ _ _ _ _ hk110 h0 (zP12_may h0) _

theorem sX12_mixOf_110 (v0 : Nat) (v1 : Int32) (v3 : Int32) (v5 : Int32) (h0 : zShp v0 = (12, 25)) (w : zWd) : zS gX12_mixOf zEi 110 [(0, .ref v0), (1, .int v1), (3, .int v3), (5, .int v5)] [] w (mX12_mixOf_110 v0 v1 v3 v5 w) :=
  zS_loop (L := fun q : Int32 × zWd => [(0, .ref v0), (1, .int v1), (3, .int v3), (5, .int q.1)]) (V := fun q => q.2) (T := fun _ => []) (F := fun k q => mX12_mixOf_110b v0 v1 v3 k q.1 q.2) (fun k hk q => sX12_mixOf_110b v0 v1 v3 k q.1 (fun a5 w => hk (a5, w)) h0 q.2) zFU (v5, w)
set_option maxHeartbeats 4000000 in
set_option maxRecDepth 100000 in
theorem sX12_mixOf_80 (k13 : Int32 × Int32 × Int32 × zWd → Option (Int32 × zWd)) (v0 : Nat) (v1 : Int32) (v3 : Int32) (v4 : Int32) (v5 : Int32) (s0 : Int32) (s1 : Int32) (s2 : Nat) (hk13 : ∀ (v3 : Int32) (v4 : Int32) (v5 : Int32) (w : zWd), zS gX12_mixOf zEi 13 [(0, .ref v0), (1, .int v1), (3, .int v3), (4, .int v4), (5, .int v5)] [] w (k13 (v3, v4, v5, w))) (h0 : zShp v0 = (12, 25)) (t2 : zShp s2 = (20, 4)) (w : zWd) : zS gX12_mixOf zEi 80 [(0, .ref v0), (1, .int v1), (3, .int v3), (4, .int v4), (5, .int v5)] [.int s0, .int s1, .ref s2] w (mX12_mixOf_80 k13 v0 v1 v3 v4 v5 s0 s1 s2 w) := by
  unfold mX12_mixOf_80
  refine zS_iast 81 rfl dX12_mixOf_80 t2 ?_
  refine zS_bnw (fun w9 => ?_)
  refine zS_iload_n 82 rfl 2 rfl dX12_mixOf_81 ?_
  refine zS_iload 84 rfl 3 rfl dX12_mixOf_82 ?_
  refine zS_aload_n 85 rfl 0 rfl dX12_mixOf_84 ?_
  refine zS_getfp 88 rfl 19 dX12_mixOf_85 zC12 zw1131 (by decide) rfl h0 ?_
  refine zS_iload 90 rfl 4 rfl dX12_mixOf_88 ?_
  refine zS_iald 91 rfl dX12_mixOf_90 (zP12_tens h0) ?_
  refine zS_imul 92 rfl dX12_mixOf_91 ?_
  refine zS_iadd 93 rfl dX12_mixOf_92 ?_
  refine zS_bni (fun x10 => ?_)
  refine zS_istore_n 94 rfl dX12_mixOf_93 (by show 3 < 7; decide) (show _ = [(3, .int _), (0, .ref _), (1, .int _), (4, .int _), (5, .int _)] from rfl) ?_
  refine zS_iload 96 rfl 3 rfl dX12_mixOf_94 ?_
  refine zS_bipush 98 rfl (7 : Int32) (by decide) dX12_mixOf_96 ?_
  refine zS_imul 99 rfl dX12_mixOf_98 ?_
  refine zS_bni (fun x11 => ?_)
  refine zS_istore 101 rfl dX12_mixOf_99 (by show 4 < 7; decide) (show _ = [(4, .int _), (3, .int _), (0, .ref _), (1, .int _), (5, .int _)] from rfl) ?_
  refine zS_iinc 104 rfl 4 (_ + (1 : Int32)) dX12_mixOf_101 rfl (by show 5 < 7; decide) rfl (show _ = [(5, .int _), (4, .int _), (3, .int _), (0, .ref _), (1, .int _)] from rfl) ?_
  refine zS_goto 13 dX12_mixOf_104 (by decide) ?_
  refine zS_sub [3, 4, 2, 1, 0] (show _ = [(0, .ref _), (1, .int _), (3, .int _), (4, .int _), (5, .int _)] from rfl) ?_
  exact hk13 _ _ _ _

set_option maxHeartbeats 4000000 in
set_option maxRecDepth 100000 in
theorem sX12_mixOf_58 (k13 : Int32 × Int32 × Int32 × zWd → Option (Int32 × zWd)) (v0 : Nat) (v1 : Int32) (v3 : Int32) (v4 : Int32) (v5 : Int32) (s0 : Int32) (hk13 : ∀ (v3 : Int32) (v4 : Int32) (v5 : Int32) (w : zWd), zS gX12_mixOf zEi 13 [(0, .ref v0), (1, .int v1), (3, .int v3), (4, .int v4), (5, .int v5)] [] w (k13 (v3, v4, v5, w))) (h0 : zShp v0 = (12, 25)) (w : zWd) : zS gX12_mixOf zEi 58 [(0, .ref v0), (1, .int v1), (3, .int v3), (4, .int v4), (5, .int v5)] [.int s0] w (mX12_mixOf_58 k13 v0 v1 v3 v4 v5 s0 w) := by
  unfold mX12_mixOf_58
  refine zS_istore 60 rfl dX12_mixOf_58 (by show 6 < 7; decide) (show _ = [(6, .int _), (0, .ref _), (1, .int _), (3, .int _), (4, .int _), (5, .int _)] from rfl) ?_
  refine zS_aload_n 61 rfl 1 rfl dX12_mixOf_60 ?_
  refine zS_getfp 64 rfl 19 dX12_mixOf_61 zC12 zw1131 (by decide) rfl h0 ?_
  refine zS_iload 66 rfl 5 rfl dX12_mixOf_64 ?_
  refine zS_iload 68 rfl 0 rfl dX12_mixOf_66 ?_
  refine zS_bipush 70 rfl (6 : Int32) (by decide) dX12_mixOf_68 ?_
  refine zS_icmp_le 78 73 rfl dX12_mixOf_70 (by decide) ?_ ?_
  · refine zS_iload 80 rfl 0 rfl dX12_mixOf_78 ?_
    refine zS_sub [1, 2, 3, 4, 5] (show _ = [(0, .ref _), (1, .int _), (3, .int _), (4, .int _), (5, .int _)] from rfl) ?_
    exact sX12_mixOf_80 k13 _ _ _ _ _ _ _ _ hk13 h0 (zP12_tens h0) _
  · refine zS_bipush 75 rfl (6 : Int32) (by decide) dX12_mixOf_73 ?_
    refine zS_goto 80 dX12_mixOf_75 (by decide) ?_
    refine zS_sub [1, 2, 3, 4, 5] (show _ = [(0, .ref _), (1, .int _), (3, .int _), (4, .int _), (5, .int _)] from rfl) ?_
    exact sX12_mixOf_80 k13 _ _ _ _ _ _ _ _ hk13 h0 (zP12_tens h0) _

set_option maxHeartbeats 4000000 in
set_option maxRecDepth 100000 in
theorem sX12_mixOf_57 (k13 : Int32 × Int32 × Int32 × zWd → Option (Int32 × zWd)) (v0 : Nat) (v1 : Int32) (v3 : Int32) (v4 : Int32) (v5 : Int32) (hk13 : ∀ (v3 : Int32) (v4 : Int32) (v5 : Int32) (w : zWd), zS gX12_mixOf zEi 13 [(0, .ref v0), (1, .int v1), (3, .int v3), (4, .int v4), (5, .int v5)] [] w (k13 (v3, v4, v5, w))) (h0 : zShp v0 = (12, 25)) (w : zWd) : zS gX12_mixOf zEi 57 [(0, .ref v0), (1, .int v1), (3, .int v3), (4, .int v4), (5, .int v5)] [] w (mX12_mixOf_57 k13 v0 v1 v3 v4 v5 w) := by
  unfold mX12_mixOf_57
  refine zS_iconst 58 rfl (0 : Int32) (by decide) dX12_mixOf_57 ?_
  exact sX12_mixOf_58 k13 _ _ _ _ _ _ hk13 h0 _

set_option maxHeartbeats 4000000 in
set_option maxRecDepth 100000 in
theorem sX12_mixOf_13b (v0 : Nat) (v1 : Int32) (k13 : Int32 × Int32 × Int32 × zWd → Option (Int32 × zWd)) (v3 : Int32) (v4 : Int32) (v5 : Int32) (hk13 : ∀ (v3 : Int32) (v4 : Int32) (v5 : Int32) (w : zWd), zS gX12_mixOf zEi 13 [(0, .ref v0), (1, .int v1), (3, .int v3), (4, .int v4), (5, .int v5)] [] w (k13 (v3, v4, v5, w))) (h0 : zShp v0 = (12, 25)) (w : zWd) : zS gX12_mixOf zEi 13 [(0, .ref v0), (1, .int v1), (3, .int v3), (4, .int v4), (5, .int v5)] [] w (mX12_mixOf_13b v0 v1 k13 v3 v4 v5 w) := by
  unfold mX12_mixOf_13b
  refine zS_iload 15 rfl 4 rfl dX12_mixOf_13 ?_
  refine zS_iconst 16 rfl (4 : Int32) (by decide) dX12_mixOf_15 ?_
  refine zS_icmp_ge 107 19 rfl dX12_mixOf_16 (by decide) ?_ ?_
  · refine zS_iconst 108 rfl (0 : Int32) (by decide) dX12_mixOf_107 ?_
    refine zS_istore 110 rfl dX12_mixOf_108 (by show 5 < 7; decide) (show _ = [(5, .int _), (0, .ref _), (1, .int _), (3, .int _), (4, .int _)] from rfl) ?_
    refine zS_sub [1, 2, 3, 0] (show _ = [(0, .ref _), (1, .int _), (3, .int _), (5, .int _)] from rfl) ?_
    exact sX12_mixOf_110 _ _ _ _ h0 _
  · refine zS_aload_n 20 rfl 0 rfl dX12_mixOf_19 ?_
    refine zS_iload 22 rfl 4 rfl dX12_mixOf_20 ?_
    refine zS_cVi (as := [.int _]) (st := []) (g' := gX12_isTap) 25 rfl (okX12_isTap _ _ _ h0) dX12_mixOf_22 zC12 h0 zw1269 cbX12_isTap rfl rfl (by decide) (Nat.le_of_ble_eq_true rfl) (fun r7 w8 => ?_)
    refine zS_if_eq 57 28 rfl dX12_mixOf_25 (by decide) ?_ ?_
    · exact sX12_mixOf_57 k13 _ _ _ _ _ hk13 h0 _
    · refine zS_iload_n 29 rfl 1 rfl dX12_mixOf_28 ?_
      refine zS_aload_n 30 rfl 0 rfl dX12_mixOf_29 ?_
      refine zS_getfp 33 rfl 1 dX12_mixOf_30 zC12 zw1113 (by decide) rfl h0 ?_
      refine zS_sipush 36 rfl (200 : Int32) (by decide) dX12_mixOf_33 ?_
      refine zS_iload 38 rfl 4 rfl dX12_mixOf_36 ?_
      refine zS_iadd 39 rfl dX12_mixOf_38 ?_
      refine zS_iald 40 rfl dX12_mixOf_39 (zP12_s h0) ?_
      refine zS_icmp_lt 57 43 rfl dX12_mixOf_40 (by decide) ?_ ?_
      · exact sX12_mixOf_57 k13 _ _ _ _ _ hk13 h0 _
      · refine zS_aload_n 44 rfl 0 rfl dX12_mixOf_43 ?_
        refine zS_iload 46 rfl 4 rfl dX12_mixOf_44 ?_
        refine zS_iload_n 47 rfl 1 rfl dX12_mixOf_46 ?_
        refine zS_iconst 48 rfl (2 : Int32) (by decide) dX12_mixOf_47 ?_
        refine zS_cVi (as := [.int _, .int _, .int _]) (st := []) (g' := gX12_flowOf) 51 rfl (okX12_flowOf _ _ _ _ _ h0) dX12_mixOf_48 zC12 h0 zw1297 cbX12_flowOf rfl rfl (by decide) (Nat.le_of_ble_eq_true rfl) (fun r12 w13 => ?_)
        refine zS_bipush 53 rfl (10 : Int32) (by decide) dX12_mixOf_51 ?_
        refine zS_idivC 54 rfl dX12_mixOf_53 (by decide) ?_
        refine zS_goto 58 dX12_mixOf_54 (by decide) ?_
        exact sX12_mixOf_58 k13 _ _ _ _ _ _ hk13 h0 _

theorem sX12_mixOf_13 (v0 : Nat) (v1 : Int32) (v3 : Int32) (v4 : Int32) (v5 : Int32) (h0 : zShp v0 = (12, 25)) (w : zWd) : zS gX12_mixOf zEi 13 [(0, .ref v0), (1, .int v1), (3, .int v3), (4, .int v4), (5, .int v5)] [] w (mX12_mixOf_13 v0 v1 v3 v4 v5 w) :=
  zS_loop (L := fun q : Int32 × Int32 × Int32 × zWd => [(0, .ref v0), (1, .int v1), (3, .int q.1), (4, .int q.2.1), (5, .int q.2.2.1)]) (V := fun q => q.2.2.2) (T := fun _ => []) (F := fun k q => mX12_mixOf_13b v0 v1 k q.1 q.2.1 q.2.2.1 q.2.2.2) (fun k hk q => sX12_mixOf_13b v0 v1 k q.1 q.2.1 q.2.2.1 (fun a3 a4 a5 w => hk (a3, a4, a5, w)) h0 q.2.2.2) zFU (v3, v4, v5, w)
set_option maxHeartbeats 4000000 in
set_option maxRecDepth 100000 in
theorem sX12_mixOf (v0 : Nat) (v1 : Int32) (v2 : Int32) (h0 : zShp v0 = (12, 25)) (w : zWd) : zS gX12_mixOf zEi 0 [(0, .ref v0), (1, .int v1), (2, .int v2)] [] w (mX12_mixOf v0 v1 v2 w) := by
  unfold mX12_mixOf
  refine zS_aload_n 1 rfl 0 rfl dX12_mixOf_0 ?_
  refine zS_iload_n 2 rfl 2 rfl dX12_mixOf_1 ?_
  refine zS_cVv (as := [.int _]) (st := []) (g' := gX12_rows) 5 rfl (okX12_rows _ _ _ h0) dX12_mixOf_2 zC12 h0 zw1373 cbX12_rows rfl rfl (by decide) (Nat.le_of_ble_eq_true rfl) (fun r1 w2 => ?_)
  refine zS_iconst 6 rfl (0 : Int32) (by decide) dX12_mixOf_5 ?_
  refine zS_istore_n 7 rfl dX12_mixOf_6 (by show 3 < 7; decide) (show _ = [(3, .int _), (0, .ref _), (1, .int _), (2, .int _)] from rfl) ?_
  refine zS_iconst 8 rfl (1 : Int32) (by decide) dX12_mixOf_7 ?_
  refine zS_istore 10 rfl dX12_mixOf_8 (by show 4 < 7; decide) (show _ = [(4, .int _), (3, .int _), (0, .ref _), (1, .int _), (2, .int _)] from rfl) ?_
  refine zS_iconst 11 rfl (0 : Int32) (by decide) dX12_mixOf_10 ?_
  refine zS_istore 13 rfl dX12_mixOf_11 (by show 5 < 7; decide) (show _ = [(5, .int _), (4, .int _), (3, .int _), (0, .ref _), (1, .int _), (2, .int _)] from rfl) ?_
  refine zS_sub [3, 4, 2, 1, 0] (show _ = [(0, .ref _), (1, .int _), (3, .int _), (4, .int _), (5, .int _)] from rfl) ?_
  exact sX12_mixOf_13 _ _ _ _ _ h0 _

theorem okX12_mixOf (v0 : Nat) (v1 : Int32) (v2 : Int32) (w : zWd) (h0 : zShp v0 = (12, 25)) : zOk gX12_mixOf zEi [.ref v0, .int v1, .int v2] w (mX12_mixOf v0 v1 v2 w) := zOk_of (by decide) rfl (Nat.le_of_ble_eq_true rfl) (sX12_mixOf v0 v1 v2 h0 w)
abbrev gX12_mix : zMth := (yX12_mix, cX12_mix, 2, (some .int), 50, zE0)
theorem cbX12_mix : zCbV yX12_mix cX12_mix 2 (some .int) 1 := ⟨zw1405, zw1406, zw89, zw1407, by decide, by decide, by decide +kernel⟩
set_option maxHeartbeats 4000000 in
set_option maxRecDepth 100000 in
theorem sX12_mix_18 (s0 : Int32) (w : zWd) : zS gX12_mix zEi 18 [] [.int s0] w (mX12_mix_18 s0 w) := by
  unfold mX12_mix_18
  exact zS_reti dX12_mix_18 rfl

set_option maxHeartbeats 4000000 in
set_option maxRecDepth 100000 in
theorem sX12_mix (v0 : Nat) (v1 : Int32) (h0 : zShp v0 = (12, 25)) (w : zWd) : zS gX12_mix zEi 0 [(0, .ref v0), (1, .int v1)] [] w (mX12_mix v0 v1 w) := by
  unfold mX12_mix
  refine zS_aload_n 1 rfl 0 rfl dX12_mix_0 ?_
  refine zS_iload_n 2 rfl 1 rfl dX12_mix_1 ?_
  refine zS_cVi (as := [.int _]) (st := []) (g' := gX12_isGone) 5 rfl (okX12_isGone _ _ _ h0) dX12_mix_2 zC12 h0 zw1293 cbX12_isGone rfl rfl (by decide) (Nat.le_of_ble_eq_true rfl) (fun r1 w2 => ?_)
  refine zS_if_eq 17 8 rfl dX12_mix_5 (by decide) ?_ ?_
  · refine zS_iconst 18 rfl (-1 : Int32) (by decide) dX12_mix_17 ?_
    refine zS_sub [] (show _ = [] from rfl) ?_
    exact sX12_mix_18 _ _
  · refine zS_aload_n 9 rfl 0 rfl dX12_mix_8 ?_
    refine zS_iload_n 10 rfl 1 rfl dX12_mix_9 ?_
    refine zS_iload_n 11 rfl 1 rfl dX12_mix_10 ?_
    refine zS_cVi (as := [.int _, .int _]) (st := []) (g' := gX12_mixOf) 14 rfl (okX12_mixOf _ _ _ _ h0) dX12_mix_11 zC12 h0 zw1408 cbX12_mixOf rfl rfl (by decide) (Nat.le_of_ble_eq_true rfl) (fun r3 w4 => ?_)
    refine zS_goto 18 dX12_mix_14 (by decide) ?_
    refine zS_sub [] (show _ = [] from rfl) ?_
    exact sX12_mix_18 _ _

theorem okX12_mix (v0 : Nat) (v1 : Int32) (w : zWd) (h0 : zShp v0 = (12, 25)) : zOk gX12_mix zEi [.ref v0, .int v1] w (mX12_mix v0 v1 w) := zOk_of (by decide) rfl (Nat.le_of_ble_eq_true rfl) (sX12_mix v0 v1 h0 w)
abbrev gX12_want : zMth := (yX12_want, cX12_want, 9, (some .int), 49, zE0)
theorem cbX12_want : zCbV yX12_want cX12_want 9 (some .int) 2 := ⟨zw1425, zw1426, zw89, zw1427, by decide, by decide, by decide +kernel⟩
set_option maxHeartbeats 4000000 in
set_option maxRecDepth 100000 in
theorem sX12_want_396 (v0 : Nat) (v2 : Int32) (h0 : zShp v0 = (12, 25)) (w : zWd) : zS gX12_want zEi 396 [(0, .ref v0), (2, .int v2)] [] w (mX12_want_396 v0 v2 w) := by
  unfold mX12_want_396
  refine zS_aload_n 397 rfl 0 rfl dX12_want_396 ?_
  refine zS_getfp 400 rfl 21 dX12_want_397 zC12 zw1133 (by decide) rfl h0 ?_
  refine zS_iload_n 401 rfl 1 rfl dX12_want_400 ?_
  refine zS_iald 402 rfl dX12_want_401 (zP12_parts h0) ?_
  exact zS_reti dX12_want_402 rfl

set_option maxHeartbeats 4000000 in
set_option maxRecDepth 100000 in
theorem sX12_want_161 (k103 : Int32 × Int32 × zWd → Option (Int32 × zWd)) (v0 : Nat) (v2 : Int32) (v5 : Int32) (v6 : Int32) (v7 : Int32) (s0 : Int32) (s1 : Int32) (s2 : Nat) (hk103 : ∀ (v5 : Int32) (v6 : Int32) (w : zWd), zS gX12_want zEi 103 [(0, .ref v0), (2, .int v2), (5, .int v5), (6, .int v6)] [] w (k103 (v5, v6, w))) (h0 : zShp v0 = (12, 25)) (t2 : zShp s2 = (20, 8)) (w : zWd) : zS gX12_want zEi 161 [(0, .ref v0), (2, .int v2), (5, .int v5), (6, .int v6), (7, .int v7)] [.int s0, .int s1, .ref s2] w (mX12_want_161 k103 v0 v2 v5 v6 v7 s0 s1 s2 w) := by
  unfold mX12_want_161
  refine zS_iast 162 rfl dX12_want_161 t2 ?_
  refine zS_bnw (fun w10 => ?_)
  refine zS_iload 164 rfl 2 rfl dX12_want_162 ?_
  refine zS_aload_n 165 rfl 0 rfl dX12_want_164 ?_
  refine zS_getfp 168 rfl 21 dX12_want_165 zC12 zw1133 (by decide) rfl h0 ?_
  refine zS_iload 170 rfl 4 rfl dX12_want_168 ?_
  refine zS_iald 171 rfl dX12_want_170 (zP12_parts h0) ?_
  refine zS_isub 172 rfl dX12_want_171 ?_
  refine zS_bni (fun x11 => ?_)
  refine zS_istore 174 rfl dX12_want_172 (by show 5 < 9; decide) (show _ = [(5, .int _), (0, .ref _), (2, .int _), (6, .int _), (7, .int _)] from rfl) ?_
  refine zS_iinc 177 rfl 3 (_ + (1 : Int32)) dX12_want_174 rfl (by show 6 < 9; decide) rfl (show _ = [(6, .int _), (5, .int _), (0, .ref _), (2, .int _), (7, .int _)] from rfl) ?_
  refine zS_goto 103 dX12_want_177 (by decide) ?_
  refine zS_sub [2, 3, 1, 0] (show _ = [(0, .ref _), (2, .int _), (5, .int _), (6, .int _)] from rfl) ?_
  exact hk103 _ _ _

set_option maxHeartbeats 4000000 in
set_option maxRecDepth 100000 in
theorem sX12_want_103b (v0 : Nat) (v2 : Int32) (k103 : Int32 × Int32 × zWd → Option (Int32 × zWd)) (v5 : Int32) (v6 : Int32) (hk103 : ∀ (v5 : Int32) (v6 : Int32) (w : zWd), zS gX12_want zEi 103 [(0, .ref v0), (2, .int v2), (5, .int v5), (6, .int v6)] [] w (k103 (v5, v6, w))) (h0 : zShp v0 = (12, 25)) (w : zWd) : zS gX12_want zEi 103 [(0, .ref v0), (2, .int v2), (5, .int v5), (6, .int v6)] [] w (mX12_want_103b v0 v2 k103 v5 v6 w) := by
  unfold mX12_want_103b
  refine zS_iload 105 rfl 3 rfl dX12_want_103 ?_
  refine zS_aload_n 106 rfl 0 rfl dX12_want_105 ?_
  refine zS_getfp 109 rfl 1 dX12_want_106 zC12 zw1113 (by decide) rfl h0 ?_
  refine zS_iconst 110 rfl (3 : Int32) (by decide) dX12_want_109 ?_
  refine zS_iald 111 rfl dX12_want_110 (zP12_s h0) ?_
  refine zS_icmp_ge 180 114 rfl dX12_want_111 (by decide) ?_ ?_
  · refine zS_goto 396 dX12_want_180 (by decide) ?_
    refine zS_sub [0, 1] (show _ = [(0, .ref _), (2, .int _)] from rfl) ?_
    exact sX12_want_396 _ _ h0 _
  · refine zS_aload_n 115 rfl 0 rfl dX12_want_114 ?_
    refine zS_getfp 118 rfl 15 dX12_want_115 zC12 zw1127 (by decide) rfl h0 ?_
    refine zS_iload 120 rfl 3 rfl dX12_want_118 ?_
    refine zS_iald 121 rfl dX12_want_120 (zP12_line h0) ?_
    refine zS_bni (fun x9 => ?_)
    refine zS_istore 123 rfl dX12_want_121 (by show 7 < 9; decide) (show _ = [(7, .int _), (0, .ref _), (2, .int _), (5, .int _), (6, .int _)] from rfl) ?_
    refine zS_aload_n 124 rfl 1 rfl dX12_want_123 ?_
    refine zS_getfp 127 rfl 21 dX12_want_124 zC12 zw1133 (by decide) rfl h0 ?_
    refine zS_iload 129 rfl 0 rfl dX12_want_127 ?_
    refine zS_aload_n 130 rfl 1 rfl dX12_want_129 ?_
    refine zS_getfp 133 rfl 1 dX12_want_130 zC12 zw1113 (by decide) rfl h0 ?_
    refine zS_sipush 136 rfl (2016 : Int32) (by decide) dX12_want_133 ?_
    refine zS_iload 138 rfl 0 rfl dX12_want_136 ?_
    refine zS_iadd 139 rfl dX12_want_138 ?_
    refine zS_iald 140 rfl dX12_want_139 (zP12_s h0) ?_
    refine zS_iload 142 rfl 3 rfl dX12_want_140 ?_
    refine zS_icmp_ge 159 145 rfl dX12_want_142 (by decide) ?_ ?_
    · refine zS_iload 161 rfl 3 rfl dX12_want_159 ?_
      refine zS_sub [1, 2, 3, 4, 0] (show _ = [(0, .ref _), (2, .int _), (5, .int _), (6, .int _), (7, .int _)] from rfl) ?_
      exact sX12_want_161 k103 _ _ _ _ _ _ _ _ hk103 h0 (zP12_parts h0) _
    · refine zS_aload_n 146 rfl 1 rfl dX12_want_145 ?_
      refine zS_getfp 149 rfl 1 dX12_want_146 zC12 zw1113 (by decide) rfl h0 ?_
      refine zS_sipush 152 rfl (2016 : Int32) (by decide) dX12_want_149 ?_
      refine zS_iload 154 rfl 0 rfl dX12_want_152 ?_
      refine zS_iadd 155 rfl dX12_want_154 ?_
      refine zS_iald 156 rfl dX12_want_155 (zP12_s h0) ?_
      refine zS_goto 161 dX12_want_156 (by decide) ?_
      refine zS_sub [1, 2, 3, 4, 0] (show _ = [(0, .ref _), (2, .int _), (5, .int _), (6, .int _), (7, .int _)] from rfl) ?_
      exact sX12_want_161 k103 _ _ _ _ _ _ _ _ hk103 h0 (zP12_parts h0) _

theorem sX12_want_103 (v0 : Nat) (v2 : Int32) (v5 : Int32) (v6 : Int32) (h0 : zShp v0 = (12, 25)) (w : zWd) : zS gX12_want zEi 103 [(0, .ref v0), (2, .int v2), (5, .int v5), (6, .int v6)] [] w (mX12_want_103 v0 v2 v5 v6 w) :=
  zS_loop (L := fun q : Int32 × Int32 × zWd => [(0, .ref v0), (2, .int v2), (5, .int q.1), (6, .int q.2.1)]) (V := fun q => q.2.2) (T := fun _ => []) (F := fun k q => mX12_want_103b v0 v2 k q.1 q.2.1 q.2.2) (fun k hk q => sX12_want_103b v0 v2 k q.1 q.2.1 (fun a5 a6 w => hk (a5, a6, w)) h0 q.2.2) zFU (v5, v6, w)
set_option maxHeartbeats 4000000 in
set_option maxRecDepth 100000 in
theorem sX12_want_246b (v0 : Nat) (v2 : Int32) (v5 : Int32) (k246 : Int32 × zWd → Option (Int32 × zWd)) (v6 : Int32) (hk246 : ∀ (v6 : Int32) (w : zWd), zS gX12_want zEi 246 [(0, .ref v0), (2, .int v2), (5, .int v5), (6, .int v6)] [] w (k246 (v6, w))) (h0 : zShp v0 = (12, 25)) (w : zWd) : zS gX12_want zEi 246 [(0, .ref v0), (2, .int v2), (5, .int v5), (6, .int v6)] [] w (mX12_want_246b v0 v2 v5 k246 v6 w) := by
  unfold mX12_want_246b
  refine zS_iload 248 rfl 3 rfl dX12_want_246 ?_
  refine zS_iload 250 rfl 2 rfl dX12_want_248 ?_
  refine zS_icmp_ge 275 253 rfl dX12_want_250 (by decide) ?_ ?_
  · refine zS_goto 396 dX12_want_275 (by decide) ?_
    refine zS_sub [0, 1] (show _ = [(0, .ref _), (2, .int _)] from rfl) ?_
    exact sX12_want_396 _ _ h0 _
  · refine zS_aload_n 254 rfl 0 rfl dX12_want_253 ?_
    refine zS_getfp 257 rfl 21 dX12_want_254 zC12 zw1133 (by decide) rfl h0 ?_
    refine zS_aload_n 258 rfl 0 rfl dX12_want_257 ?_
    refine zS_getfp 261 rfl 15 dX12_want_258 zC12 zw1127 (by decide) rfl h0 ?_
    refine zS_iload 263 rfl 3 rfl dX12_want_261 ?_
    refine zS_iald 264 rfl dX12_want_263 (zP12_line h0) ?_
    refine zS_dup2 265 rfl rfl rfl dX12_want_264 ?_
    refine zS_iald 266 rfl dX12_want_265 (zP12_parts h0) ?_
    refine zS_iconst 267 rfl (1 : Int32) (by decide) dX12_want_266 ?_
    refine zS_iadd 268 rfl dX12_want_267 ?_
    refine zS_iast 269 rfl dX12_want_268 (zP12_parts h0) ?_
    refine zS_bnw (fun w12 => ?_)
    refine zS_iinc 272 rfl 3 (_ + (1 : Int32)) dX12_want_269 rfl (by show 6 < 9; decide) rfl (show _ = [(6, .int _), (0, .ref _), (2, .int _), (5, .int _)] from rfl) ?_
    refine zS_goto 246 dX12_want_272 (by decide) ?_
    refine zS_sub [1, 2, 3, 0] (show _ = [(0, .ref _), (2, .int _), (5, .int _), (6, .int _)] from rfl) ?_
    exact hk246 _ _

theorem sX12_want_246 (v0 : Nat) (v2 : Int32) (v5 : Int32) (v6 : Int32) (h0 : zShp v0 = (12, 25)) (w : zWd) : zS gX12_want zEi 246 [(0, .ref v0), (2, .int v2), (5, .int v5), (6, .int v6)] [] w (mX12_want_246 v0 v2 v5 v6 w) :=
  zS_loop (L := fun q : Int32 × zWd => [(0, .ref v0), (2, .int v2), (5, .int v5), (6, .int q.1)]) (V := fun q => q.2) (T := fun _ => []) (F := fun k q => mX12_want_246b v0 v2 v5 k q.1 q.2) (fun k hk q => sX12_want_246b v0 v2 v5 k q.1 (fun a6 w => hk (a6, w)) h0 q.2) zFU (v6, w)
set_option maxHeartbeats 4000000 in
set_option maxRecDepth 100000 in
theorem sX12_want_191b (v0 : Nat) (v1 : Int32) (v2 : Int32) (v4 : Int32) (k191 : Int32 × Int32 × zWd → Option (Int32 × zWd)) (v5 : Int32) (v6 : Int32) (hk191 : ∀ (v5 : Int32) (v6 : Int32) (w : zWd), zS gX12_want zEi 191 [(0, .ref v0), (1, .int v1), (2, .int v2), (4, .int v4), (5, .int v5), (6, .int v6)] [] w (k191 (v5, v6, w))) (h0 : zShp v0 = (12, 25)) (w : zWd) : zS gX12_want zEi 191 [(0, .ref v0), (1, .int v1), (2, .int v2), (4, .int v4), (5, .int v5), (6, .int v6)] [] w (mX12_want_191b v0 v1 v2 v4 k191 v5 v6 w) := by
  unfold mX12_want_191b
  refine zS_iload 193 rfl 5 rfl dX12_want_191 ?_
  refine zS_aload_n 194 rfl 0 rfl dX12_want_193 ?_
  refine zS_getfp 197 rfl 1 dX12_want_194 zC12 zw1113 (by decide) rfl h0 ?_
  refine zS_iconst 198 rfl (3 : Int32) (by decide) dX12_want_197 ?_
  refine zS_iald 199 rfl dX12_want_198 (zP12_s h0) ?_
  refine zS_icmp_ge 243 202 rfl dX12_want_199 (by decide) ?_ ?_
  · refine zS_iconst 244 rfl (0 : Int32) (by decide) dX12_want_243 ?_
    refine zS_istore 246 rfl dX12_want_244 (by show 6 < 9; decide) (show _ = [(6, .int _), (0, .ref _), (1, .int _), (2, .int _), (4, .int _), (5, .int _)] from rfl) ?_
    refine zS_sub [1, 3, 5, 0] (show _ = [(0, .ref _), (2, .int _), (5, .int _), (6, .int _)] from rfl) ?_
    exact sX12_want_246 _ _ _ _ h0 _
  · refine zS_aload_n 203 rfl 0 rfl dX12_want_202 ?_
    refine zS_getfp 206 rfl 21 dX12_want_203 zC12 zw1133 (by decide) rfl h0 ?_
    refine zS_iload 208 rfl 5 rfl dX12_want_206 ?_
    refine zS_iload_n 209 rfl 1 rfl dX12_want_208 ?_
    refine zS_aload_n 210 rfl 0 rfl dX12_want_209 ?_
    refine zS_getfp 213 rfl 1 dX12_want_210 zC12 zw1113 (by decide) rfl h0 ?_
    refine zS_sipush 216 rfl (2016 : Int32) (by decide) dX12_want_213 ?_
    refine zS_iload 218 rfl 5 rfl dX12_want_216 ?_
    refine zS_iadd 219 rfl dX12_want_218 ?_
    refine zS_iald 220 rfl dX12_want_219 (zP12_s h0) ?_
    refine zS_imul 221 rfl dX12_want_220 ?_
    refine zS_iload 223 rfl 3 rfl dX12_want_221 ?_
    refine zS_idiv 224 rfl dX12_want_223 ?_
    refine zS_iast 225 rfl dX12_want_224 (zP12_parts h0) ?_
    refine zS_bnw (fun w13 => ?_)
    refine zS_iload 227 rfl 4 rfl dX12_want_225 ?_
    refine zS_aload_n 228 rfl 0 rfl dX12_want_227 ?_
    refine zS_getfp 231 rfl 21 dX12_want_228 zC12 zw1133 (by decide) rfl h0 ?_
    refine zS_iload 233 rfl 5 rfl dX12_want_231 ?_
    refine zS_iald 234 rfl dX12_want_233 (zP12_parts h0) ?_
    refine zS_isub 235 rfl dX12_want_234 ?_
    refine zS_bni (fun x14 => ?_)
    refine zS_istore 237 rfl dX12_want_235 (by show 5 < 9; decide) (show _ = [(5, .int _), (0, .ref _), (1, .int _), (2, .int _), (4, .int _), (6, .int _)] from rfl) ?_
    refine zS_iinc 240 rfl 5 (_ + (1 : Int32)) dX12_want_237 rfl (by show 6 < 9; decide) rfl (show _ = [(6, .int _), (5, .int _), (0, .ref _), (1, .int _), (2, .int _), (4, .int _)] from rfl) ?_
    refine zS_goto 191 dX12_want_240 (by decide) ?_
    refine zS_sub [2, 3, 4, 5, 1, 0] (show _ = [(0, .ref _), (1, .int _), (2, .int _), (4, .int _), (5, .int _), (6, .int _)] from rfl) ?_
    exact hk191 _ _ _

theorem sX12_want_191 (v0 : Nat) (v1 : Int32) (v2 : Int32) (v4 : Int32) (v5 : Int32) (v6 : Int32) (h0 : zShp v0 = (12, 25)) (w : zWd) : zS gX12_want zEi 191 [(0, .ref v0), (1, .int v1), (2, .int v2), (4, .int v4), (5, .int v5), (6, .int v6)] [] w (mX12_want_191 v0 v1 v2 v4 v5 v6 w) :=
  zS_loop (L := fun q : Int32 × Int32 × zWd => [(0, .ref v0), (1, .int v1), (2, .int v2), (4, .int v4), (5, .int q.1), (6, .int q.2.1)]) (V := fun q => q.2.2) (T := fun _ => []) (F := fun k q => mX12_want_191b v0 v1 v2 v4 k q.1 q.2.1 q.2.2) (fun k hk q => sX12_want_191b v0 v1 v2 v4 k q.1 q.2.1 (fun a5 a6 w => hk (a5, a6, w)) h0 q.2.2) zFU (v5, v6, w)
set_option maxHeartbeats 4000000 in
set_option maxRecDepth 100000 in
theorem sX12_want_381 (k281 : Int32 × Int32 × zWd → Option (Int32 × zWd)) (k290 : Int32 × Int32 × zWd → Option (Int32 × zWd)) (v0 : Nat) (v2 : Int32) (v6 : Int32) (v7 : Int32) (s0 : Int32) (s1 : Int32) (hk281 : ∀ (v5 : Int32) (v6 : Int32) (w : zWd), zS gX12_want zEi 281 [(0, .ref v0), (2, .int v2), (5, .int v5), (6, .int v6)] [] w (k281 (v5, v6, w))) (hk290 : ∀ (v5 : Int32) (v7 : Int32) (w : zWd), zS gX12_want zEi 290 [(0, .ref v0), (2, .int v2), (5, .int v5), (6, .int v6), (7, .int v7)] [] w (k290 (v5, v7, w))) (h0 : zShp v0 = (12, 25)) (w : zWd) : zS gX12_want zEi 381 [(0, .ref v0), (2, .int v2), (6, .int v6), (7, .int v7)] [.int s0, .int s1] w (mX12_want_381 k281 k290 v0 v2 v6 v7 s0 s1 w) := by
  unfold mX12_want_381
  refine zS_isub 382 rfl dX12_want_381 ?_
  refine zS_bni (fun x16 => ?_)
  refine zS_istore 384 rfl dX12_want_382 (by show 5 < 9; decide) (show _ = [(5, .int _), (0, .ref _), (2, .int _), (6, .int _), (7, .int _)] from rfl) ?_
  refine zS_iinc 387 rfl 4 (_ + (1 : Int32)) dX12_want_384 rfl (by show 7 < 9; decide) rfl (show _ = [(7, .int _), (5, .int _), (0, .ref _), (2, .int _), (6, .int _)] from rfl) ?_
  refine zS_goto 290 dX12_want_387 (by decide) ?_
  refine zS_sub [2, 3, 1, 4, 0] (show _ = [(0, .ref _), (2, .int _), (5, .int _), (6, .int _), (7, .int _)] from rfl) ?_
  exact hk290 _ _ _

set_option maxHeartbeats 4000000 in
set_option maxRecDepth 100000 in
theorem sX12_want_367 (k281 : Int32 × Int32 × zWd → Option (Int32 × zWd)) (k290 : Int32 × Int32 × zWd → Option (Int32 × zWd)) (v0 : Nat) (v2 : Int32) (v5 : Int32) (v6 : Int32) (v7 : Int32) (v8 : Int32) (s0 : Int32) (s1 : Int32) (s2 : Int32) (s3 : Nat) (hk281 : ∀ (v5 : Int32) (v6 : Int32) (w : zWd), zS gX12_want zEi 281 [(0, .ref v0), (2, .int v2), (5, .int v5), (6, .int v6)] [] w (k281 (v5, v6, w))) (hk290 : ∀ (v5 : Int32) (v7 : Int32) (w : zWd), zS gX12_want zEi 290 [(0, .ref v0), (2, .int v2), (5, .int v5), (6, .int v6), (7, .int v7)] [] w (k290 (v5, v7, w))) (h0 : zShp v0 = (12, 25)) (t3 : zShp s3 = (20, 8)) (w : zWd) : zS gX12_want zEi 367 [(0, .ref v0), (2, .int v2), (5, .int v5), (6, .int v6), (7, .int v7), (8, .int v8)] [.int s0, .int s1, .int s2, .ref s3] w (mX12_want_367 k281 k290 v0 v2 v5 v6 v7 v8 s0 s1 s2 s3 w) := by
  unfold mX12_want_367
  refine zS_iadd 368 rfl dX12_want_367 ?_
  refine zS_iast 369 rfl dX12_want_368 t3 ?_
  refine zS_bnw (fun w15 => ?_)
  refine zS_iload 371 rfl 2 rfl dX12_want_369 ?_
  refine zS_iload 373 rfl 5 rfl dX12_want_371 ?_
  refine zS_if_eq 380 376 rfl dX12_want_373 (by decide) ?_ ?_
  · refine zS_iconst 381 rfl (0 : Int32) (by decide) dX12_want_380 ?_
    refine zS_sub [0, 1, 3, 4] (show _ = [(0, .ref _), (2, .int _), (6, .int _), (7, .int _)] from rfl) ?_
    exact sX12_want_381 k281 k290 _ _ _ _ _ _ hk281 hk290 h0 _
  · refine zS_iconst 377 rfl (1 : Int32) (by decide) dX12_want_376 ?_
    refine zS_goto 381 dX12_want_377 (by decide) ?_
    refine zS_sub [0, 1, 3, 4] (show _ = [(0, .ref _), (2, .int _), (6, .int _), (7, .int _)] from rfl) ?_
    exact sX12_want_381 k281 k290 _ _ _ _ _ _ hk281 hk290 h0 _

set_option maxHeartbeats 4000000 in
set_option maxRecDepth 100000 in
theorem sX12_want_342 (k281 : Int32 × Int32 × zWd → Option (Int32 × zWd)) (k290 : Int32 × Int32 × zWd → Option (Int32 × zWd)) (v0 : Nat) (v2 : Int32) (v5 : Int32) (v6 : Int32) (v7 : Int32) (s0 : Int32) (hk281 : ∀ (v5 : Int32) (v6 : Int32) (w : zWd), zS gX12_want zEi 281 [(0, .ref v0), (2, .int v2), (5, .int v5), (6, .int v6)] [] w (k281 (v5, v6, w))) (hk290 : ∀ (v5 : Int32) (v7 : Int32) (w : zWd), zS gX12_want zEi 290 [(0, .ref v0), (2, .int v2), (5, .int v5), (6, .int v6), (7, .int v7)] [] w (k290 (v5, v7, w))) (h0 : zShp v0 = (12, 25)) (w : zWd) : zS gX12_want zEi 342 [(0, .ref v0), (2, .int v2), (5, .int v5), (6, .int v6), (7, .int v7)] [.int s0] w (mX12_want_342 k281 k290 v0 v2 v5 v6 v7 s0 w) := by
  unfold mX12_want_342
  refine zS_istore 344 rfl dX12_want_342 (by show 8 < 9; decide) (show _ = [(8, .int _), (0, .ref _), (2, .int _), (5, .int _), (6, .int _), (7, .int _)] from rfl) ?_
  refine zS_aload_n 345 rfl 1 rfl dX12_want_344 ?_
  refine zS_getfp 348 rfl 21 dX12_want_345 zC12 zw1133 (by decide) rfl h0 ?_
  refine zS_aload_n 349 rfl 1 rfl dX12_want_348 ?_
  refine zS_getfp 352 rfl 15 dX12_want_349 zC12 zw1127 (by decide) rfl h0 ?_
  refine zS_iload 354 rfl 5 rfl dX12_want_352 ?_
  refine zS_iald 355 rfl dX12_want_354 (zP12_line h0) ?_
  refine zS_dup2 356 rfl rfl rfl dX12_want_355 ?_
  refine zS_iald 357 rfl dX12_want_356 (zP12_parts h0) ?_
  refine zS_iload 359 rfl 0 rfl dX12_want_357 ?_
  refine zS_if_eq 366 362 rfl dX12_want_359 (by decide) ?_ ?_
  · refine zS_iconst 367 rfl (0 : Int32) (by decide) dX12_want_366 ?_
    refine zS_sub [1, 2, 3, 4, 5, 0] (show _ = [(0, .ref _), (2, .int _), (5, .int _), (6, .int _), (7, .int _), (8, .int _)] from rfl) ?_
    exact sX12_want_367 k281 k290 _ _ _ _ _ _ _ _ _ _ hk281 hk290 h0 (zP12_parts h0) _
  · refine zS_iconst 363 rfl (1 : Int32) (by decide) dX12_want_362 ?_
    refine zS_goto 367 dX12_want_363 (by decide) ?_
    refine zS_sub [1, 2, 3, 4, 5, 0] (show _ = [(0, .ref _), (2, .int _), (5, .int _), (6, .int _), (7, .int _), (8, .int _)] from rfl) ?_
    exact sX12_want_367 k281 k290 _ _ _ _ _ _ _ _ _ _ hk281 hk290 h0 (zP12_parts h0) _

set_option maxHeartbeats 4000000 in
set_option maxRecDepth 100000 in
theorem sX12_want_341 (k281 : Int32 × Int32 × zWd → Option (Int32 × zWd)) (k290 : Int32 × Int32 × zWd → Option (Int32 × zWd)) (v0 : Nat) (v2 : Int32) (v5 : Int32) (v6 : Int32) (v7 : Int32) (hk281 : ∀ (v5 : Int32) (v6 : Int32) (w : zWd), zS gX12_want zEi 281 [(0, .ref v0), (2, .int v2), (5, .int v5), (6, .int v6)] [] w (k281 (v5, v6, w))) (hk290 : ∀ (v5 : Int32) (v7 : Int32) (w : zWd), zS gX12_want zEi 290 [(0, .ref v0), (2, .int v2), (5, .int v5), (6, .int v6), (7, .int v7)] [] w (k290 (v5, v7, w))) (h0 : zShp v0 = (12, 25)) (w : zWd) : zS gX12_want zEi 341 [(0, .ref v0), (2, .int v2), (5, .int v5), (6, .int v6), (7, .int v7)] [] w (mX12_want_341 k281 k290 v0 v2 v5 v6 v7 w) := by
  unfold mX12_want_341
  refine zS_iconst 342 rfl (0 : Int32) (by decide) dX12_want_341 ?_
  exact sX12_want_342 k281 k290 _ _ _ _ _ _ hk281 hk290 h0 _

set_option maxHeartbeats 4000000 in
set_option maxRecDepth 100000 in
theorem sX12_want_290b (k281 : Int32 × Int32 × zWd → Option (Int32 × zWd)) (v0 : Nat) (v2 : Int32) (v6 : Int32) (k290 : Int32 × Int32 × zWd → Option (Int32 × zWd)) (v5 : Int32) (v7 : Int32) (hk281 : ∀ (v5 : Int32) (v6 : Int32) (w : zWd), zS gX12_want zEi 281 [(0, .ref v0), (2, .int v2), (5, .int v5), (6, .int v6)] [] w (k281 (v5, v6, w))) (hk290 : ∀ (v5 : Int32) (v7 : Int32) (w : zWd), zS gX12_want zEi 290 [(0, .ref v0), (2, .int v2), (5, .int v5), (6, .int v6), (7, .int v7)] [] w (k290 (v5, v7, w))) (h0 : zShp v0 = (12, 25)) (w : zWd) : zS gX12_want zEi 290 [(0, .ref v0), (2, .int v2), (5, .int v5), (6, .int v6), (7, .int v7)] [] w (mX12_want_290b k281 v0 v2 v6 k290 v5 v7 w) := by
  unfold mX12_want_290b
  refine zS_iload 292 rfl 4 rfl dX12_want_290 ?_
  refine zS_aload_n 293 rfl 0 rfl dX12_want_292 ?_
  refine zS_getfp 296 rfl 1 dX12_want_293 zC12 zw1113 (by decide) rfl h0 ?_
  refine zS_iconst 297 rfl (3 : Int32) (by decide) dX12_want_296 ?_
  refine zS_iald 298 rfl dX12_want_297 (zP12_s h0) ?_
  refine zS_icmp_ge 390 301 rfl dX12_want_298 (by decide) ?_ ?_
  · refine zS_iinc 393 rfl 3 (_ + (1 : Int32)) dX12_want_390 rfl (by show 6 < 9; decide) rfl (show _ = [(6, .int _), (0, .ref _), (2, .int _), (5, .int _), (7, .int _)] from rfl) ?_
    refine zS_goto 281 dX12_want_393 (by decide) ?_
    refine zS_sub [1, 2, 3, 0] (show _ = [(0, .ref _), (2, .int _), (5, .int _), (6, .int _)] from rfl) ?_
    exact hk281 _ _ _
  · refine zS_iload 303 rfl 2 rfl dX12_want_301 ?_
    refine zS_if_le 341 306 rfl dX12_want_303 (by decide) ?_ ?_
    · exact sX12_want_341 k281 k290 _ _ _ _ _ hk281 hk290 h0 _
    · refine zS_aload_n 307 rfl 0 rfl dX12_want_306 ?_
      refine zS_getfp 310 rfl 21 dX12_want_307 zC12 zw1133 (by decide) rfl h0 ?_
      refine zS_aload_n 311 rfl 0 rfl dX12_want_310 ?_
      refine zS_getfp 314 rfl 15 dX12_want_311 zC12 zw1127 (by decide) rfl h0 ?_
      refine zS_iload 316 rfl 4 rfl dX12_want_314 ?_
      refine zS_iald 317 rfl dX12_want_316 (zP12_line h0) ?_
      refine zS_iald 318 rfl dX12_want_317 (zP12_parts h0) ?_
      refine zS_aload_n 319 rfl 0 rfl dX12_want_318 ?_
      refine zS_getfp 322 rfl 1 dX12_want_319 zC12 zw1113 (by decide) rfl h0 ?_
      refine zS_sipush 325 rfl (2016 : Int32) (by decide) dX12_want_322 ?_
      refine zS_aload_n 326 rfl 0 rfl dX12_want_325 ?_
      refine zS_getfp 329 rfl 15 dX12_want_326 zC12 zw1127 (by decide) rfl h0 ?_
      refine zS_iload 331 rfl 4 rfl dX12_want_329 ?_
      refine zS_iald 332 rfl dX12_want_331 (zP12_line h0) ?_
      refine zS_iadd 333 rfl dX12_want_332 ?_
      refine zS_iald 334 rfl dX12_want_333 (zP12_s h0) ?_
      refine zS_icmp_ge 341 337 rfl dX12_want_334 (by decide) ?_ ?_
      · exact sX12_want_341 k281 k290 _ _ _ _ _ hk281 hk290 h0 _
      · refine zS_iconst 338 rfl (1 : Int32) (by decide) dX12_want_337 ?_
        refine zS_goto 342 dX12_want_338 (by decide) ?_
        exact sX12_want_342 k281 k290 _ _ _ _ _ _ hk281 hk290 h0 _

theorem sX12_want_290 (k281 : Int32 × Int32 × zWd → Option (Int32 × zWd)) (v0 : Nat) (v2 : Int32) (v6 : Int32) (v5 : Int32) (v7 : Int32) (hk281 : ∀ (v5 : Int32) (v6 : Int32) (w : zWd), zS gX12_want zEi 281 [(0, .ref v0), (2, .int v2), (5, .int v5), (6, .int v6)] [] w (k281 (v5, v6, w))) (h0 : zShp v0 = (12, 25)) (w : zWd) : zS gX12_want zEi 290 [(0, .ref v0), (2, .int v2), (5, .int v5), (6, .int v6), (7, .int v7)] [] w (mX12_want_290 k281 v0 v2 v6 v5 v7 w) :=
  zS_loop (L := fun q : Int32 × Int32 × zWd => [(0, .ref v0), (2, .int v2), (5, .int q.1), (6, .int v6), (7, .int q.2.1)]) (V := fun q => q.2.2) (T := fun _ => []) (F := fun k q => mX12_want_290b k281 v0 v2 v6 k q.1 q.2.1 q.2.2) (fun k hk q => sX12_want_290b k281 v0 v2 v6 k q.1 q.2.1 hk281 (fun a5 a7 w => hk (a5, a7, w)) h0 q.2.2) zFU (v5, v7, w)
set_option maxHeartbeats 4000000 in
set_option maxRecDepth 100000 in
theorem sX12_want_281b (v0 : Nat) (v2 : Int32) (k281 : Int32 × Int32 × zWd → Option (Int32 × zWd)) (v5 : Int32) (v6 : Int32) (hk281 : ∀ (v5 : Int32) (v6 : Int32) (w : zWd), zS gX12_want zEi 281 [(0, .ref v0), (2, .int v2), (5, .int v5), (6, .int v6)] [] w (k281 (v5, v6, w))) (h0 : zShp v0 = (12, 25)) (w : zWd) : zS gX12_want zEi 281 [(0, .ref v0), (2, .int v2), (5, .int v5), (6, .int v6)] [] w (mX12_want_281b v0 v2 k281 v5 v6 w) := by
  unfold mX12_want_281b
  refine zS_iload 283 rfl 3 rfl dX12_want_281 ?_
  refine zS_iconst 284 rfl (4 : Int32) (by decide) dX12_want_283 ?_
  refine zS_icmp_ge 396 287 rfl dX12_want_284 (by decide) ?_ ?_
  · refine zS_sub [0, 1] (show _ = [(0, .ref _), (2, .int _)] from rfl) ?_
    exact sX12_want_396 _ _ h0 _
  · refine zS_iconst 288 rfl (0 : Int32) (by decide) dX12_want_287 ?_
    refine zS_istore 290 rfl dX12_want_288 (by show 7 < 9; decide) (show _ = [(7, .int _), (0, .ref _), (2, .int _), (5, .int _), (6, .int _)] from rfl) ?_
    refine zS_sub [1, 2, 3, 4, 0] (show _ = [(0, .ref _), (2, .int _), (5, .int _), (6, .int _), (7, .int _)] from rfl) ?_
    exact sX12_want_290 k281 _ _ _ _ _ hk281 h0 _

theorem sX12_want_281 (v0 : Nat) (v2 : Int32) (v5 : Int32) (v6 : Int32) (h0 : zShp v0 = (12, 25)) (w : zWd) : zS gX12_want zEi 281 [(0, .ref v0), (2, .int v2), (5, .int v5), (6, .int v6)] [] w (mX12_want_281 v0 v2 v5 v6 w) :=
  zS_loop (L := fun q : Int32 × Int32 × zWd => [(0, .ref v0), (2, .int v2), (5, .int q.1), (6, .int q.2.1)]) (V := fun q => q.2.2) (T := fun _ => []) (F := fun k q => mX12_want_281b v0 v2 k q.1 q.2.1 q.2.2) (fun k hk q => sX12_want_281b v0 v2 k q.1 q.2.1 (fun a5 a6 w => hk (a5, a6, w)) h0 q.2.2) zFU (v5, v6, w)
set_option maxHeartbeats 4000000 in
set_option maxRecDepth 100000 in
theorem sX12_want_52b (v0 : Nat) (v1 : Int32) (v2 : Int32) (v3 : Int32) (k52 : Int32 × Int32 × zWd → Option (Int32 × zWd)) (v4 : Int32) (v5 : Int32) (hk52 : ∀ (v4 : Int32) (v5 : Int32) (w : zWd), zS gX12_want zEi 52 [(0, .ref v0), (1, .int v1), (2, .int v2), (3, .int v3), (4, .int v4), (5, .int v5)] [] w (k52 (v4, v5, w))) (h0 : zShp v0 = (12, 25)) (w : zWd) : zS gX12_want zEi 52 [(0, .ref v0), (1, .int v1), (2, .int v2), (3, .int v3), (4, .int v4), (5, .int v5)] [] w (mX12_want_52b v0 v1 v2 v3 k52 v4 v5 w) := by
  unfold mX12_want_52b
  refine zS_iload 54 rfl 5 rfl dX12_want_52 ?_
  refine zS_aload_n 55 rfl 0 rfl dX12_want_54 ?_
  refine zS_getfp 58 rfl 1 dX12_want_55 zC12 zw1113 (by decide) rfl h0 ?_
  refine zS_iconst 59 rfl (3 : Int32) (by decide) dX12_want_58 ?_
  refine zS_iald 60 rfl dX12_want_59 (zP12_s h0) ?_
  refine zS_icmp_ge 93 63 rfl dX12_want_60 (by decide) ?_ ?_
  · refine zS_iload_n 94 rfl 1 rfl dX12_want_93 ?_
    refine zS_istore 96 rfl dX12_want_94 (by show 5 < 9; decide) (show _ = [(5, .int _), (0, .ref _), (1, .int _), (2, .int _), (3, .int _), (4, .int _)] from rfl) ?_
    refine zS_iload_n 97 rfl 4 rfl dX12_want_96 ?_
    refine zS_if_ne 183 100 rfl dX12_want_97 (by decide) ?_ ?_
    · refine zS_iconst 101 rfl (0 : Int32) (by decide) dX12_want_100 ?_
      refine zS_istore 103 rfl dX12_want_101 (by show 6 < 9; decide) (show _ = [(6, .int _), (5, .int _), (0, .ref _), (1, .int _), (2, .int _), (3, .int _), (4, .int _)] from rfl) ?_
      refine zS_sub [2, 4, 1, 0] (show _ = [(0, .ref _), (2, .int _), (5, .int _), (6, .int _)] from rfl) ?_
      exact sX12_want_103 _ _ _ _ h0 _
    · refine zS_iload_n 184 rfl 4 rfl dX12_want_183 ?_
      refine zS_iconst 185 rfl (1 : Int32) (by decide) dX12_want_184 ?_
      refine zS_icmp_ne 278 188 rfl dX12_want_185 (by decide) ?_ ?_
      · refine zS_iconst 189 rfl (0 : Int32) (by decide) dX12_want_188 ?_
        refine zS_istore 191 rfl dX12_want_189 (by show 6 < 9; decide) (show _ = [(6, .int _), (5, .int _), (0, .ref _), (1, .int _), (2, .int _), (3, .int _), (4, .int _)] from rfl) ?_
        refine zS_sub [2, 3, 4, 6, 1, 0] (show _ = [(0, .ref _), (1, .int _), (2, .int _), (4, .int _), (5, .int _), (6, .int _)] from rfl) ?_
        exact sX12_want_191 _ _ _ _ _ _ h0 _
      · refine zS_iconst 279 rfl (0 : Int32) (by decide) dX12_want_278 ?_
        refine zS_istore 281 rfl dX12_want_279 (by show 6 < 9; decide) (show _ = [(6, .int _), (5, .int _), (0, .ref _), (1, .int _), (2, .int _), (3, .int _), (4, .int _)] from rfl) ?_
        refine zS_sub [2, 4, 1, 0] (show _ = [(0, .ref _), (2, .int _), (5, .int _), (6, .int _)] from rfl) ?_
        exact sX12_want_281 _ _ _ _ h0 _
  · refine zS_iload 65 rfl 4 rfl dX12_want_63 ?_
    refine zS_aload_n 66 rfl 0 rfl dX12_want_65 ?_
    refine zS_getfp 69 rfl 1 dX12_want_66 zC12 zw1113 (by decide) rfl h0 ?_
    refine zS_sipush 72 rfl (2016 : Int32) (by decide) dX12_want_69 ?_
    refine zS_iload 74 rfl 5 rfl dX12_want_72 ?_
    refine zS_iadd 75 rfl dX12_want_74 ?_
    refine zS_iald 76 rfl dX12_want_75 (zP12_s h0) ?_
    refine zS_iadd 77 rfl dX12_want_76 ?_
    refine zS_bni (fun x17 => ?_)
    refine zS_istore 79 rfl dX12_want_77 (by show 4 < 9; decide) (show _ = [(4, .int _), (0, .ref _), (1, .int _), (2, .int _), (3, .int _), (5, .int _)] from rfl) ?_
    refine zS_aload_n 80 rfl 1 rfl dX12_want_79 ?_
    refine zS_getfp 83 rfl 21 dX12_want_80 zC12 zw1133 (by decide) rfl h0 ?_
    refine zS_iload 85 rfl 5 rfl dX12_want_83 ?_
    refine zS_iconst 86 rfl (0 : Int32) (by decide) dX12_want_85 ?_
    refine zS_iast 87 rfl dX12_want_86 (zP12_parts h0) ?_
    refine zS_bnw (fun w18 => ?_)
    refine zS_iinc 90 rfl 5 (_ + (1 : Int32)) dX12_want_87 rfl (by show 5 < 9; decide) rfl (show _ = [(5, .int _), (4, .int _), (0, .ref _), (1, .int _), (2, .int _), (3, .int _)] from rfl) ?_
    refine zS_goto 52 dX12_want_90 (by decide) ?_
    refine zS_sub [2, 3, 4, 5, 1, 0] (show _ = [(0, .ref _), (1, .int _), (2, .int _), (3, .int _), (4, .int _), (5, .int _)] from rfl) ?_
    exact hk52 _ _ _

theorem sX12_want_52 (v0 : Nat) (v1 : Int32) (v2 : Int32) (v3 : Int32) (v4 : Int32) (v5 : Int32) (h0 : zShp v0 = (12, 25)) (w : zWd) : zS gX12_want zEi 52 [(0, .ref v0), (1, .int v1), (2, .int v2), (3, .int v3), (4, .int v4), (5, .int v5)] [] w (mX12_want_52 v0 v1 v2 v3 v4 v5 w) :=
  zS_loop (L := fun q : Int32 × Int32 × zWd => [(0, .ref v0), (1, .int v1), (2, .int v2), (3, .int v3), (4, .int q.1), (5, .int q.2.1)]) (V := fun q => q.2.2) (T := fun _ => []) (F := fun k q => mX12_want_52b v0 v1 v2 v3 k q.1 q.2.1 q.2.2) (fun k hk q => sX12_want_52b v0 v1 v2 v3 k q.1 q.2.1 (fun a4 a5 w => hk (a4, a5, w)) h0 q.2.2) zFU (v4, v5, w)
set_option maxHeartbeats 4000000 in
set_option maxRecDepth 100000 in
theorem sX12_want (v0 : Nat) (v1 : Int32) (v2 : Int32) (h0 : zShp v0 = (12, 25)) (w : zWd) : zS gX12_want zEi 0 [(0, .ref v0), (1, .int v1), (2, .int v2)] [] w (mX12_want v0 v1 v2 w) := by
  unfold mX12_want
  refine zS_aload_n 1 rfl 0 rfl dX12_want_0 ?_
  refine zS_iload_n 2 rfl 2 rfl dX12_want_1 ?_
  refine zS_cVi (as := [.int _]) (st := []) (g' := gX12_isTaker) 5 rfl (okX12_isTaker _ _ _ h0) dX12_want_2 zC12 h0 zw1349 cbX12_isTaker rfl rfl (by decide) (Nat.le_of_ble_eq_true rfl) (fun r1 w2 => ?_)
  refine zS_if_ne 10 8 rfl dX12_want_5 (by decide) ?_ ?_
  · refine zS_iconst 9 rfl (-1 : Int32) (by decide) dX12_want_8 ?_
    exact zS_reti dX12_want_9 rfl
  · refine zS_iload_n 11 rfl 1 rfl dX12_want_10 ?_
    refine zS_iconst 12 rfl (0 : Int32) (by decide) dX12_want_11 ?_
    refine zS_sipush 15 rfl (999 : Int32) (by decide) dX12_want_12 ?_
    refine zS_cSi (as := [.int _, .int _, .int _]) (st := []) (g' := gX12_in) 18 rfl (okX12_in _ _ _ _) dX12_want_15 zw1196 cbX12_in rfl rfl (by decide) (Nat.le_of_ble_eq_true rfl) (fun r3 w4 => ?_)
    refine zS_if_ne 24 21 rfl dX12_want_18 (by decide) ?_ ?_
    · refine zS_bipush 23 rfl (-2 : Int32) (by decide) dX12_want_21 ?_
      exact zS_reti dX12_want_23 rfl
    · refine zS_aload_n 25 rfl 0 rfl dX12_want_24 ?_
      refine zS_aload_n 26 rfl 0 rfl dX12_want_25 ?_
      refine zS_getfp 29 rfl 1 dX12_want_26 zC12 zw1113 (by decide) rfl h0 ?_
      refine zS_iconst 30 rfl (0 : Int32) (by decide) dX12_want_29 ?_
      refine zS_iald 31 rfl dX12_want_30 (zP12_s h0) ?_
      refine zS_cVv (as := [.int _]) (st := []) (g' := gX12_rows) 34 rfl (okX12_rows _ _ _ h0) dX12_want_31 zC12 h0 zw1373 cbX12_rows rfl rfl (by decide) (Nat.le_of_ble_eq_true rfl) (fun r5 w6 => ?_)
      refine zS_aload_n 35 rfl 0 rfl dX12_want_34 ?_
      refine zS_iconst 36 rfl (5 : Int32) (by decide) dX12_want_35 ?_
      refine zS_aload_n 37 rfl 0 rfl dX12_want_36 ?_
      refine zS_getfp 40 rfl 1 dX12_want_37 zC12 zw1113 (by decide) rfl h0 ?_
      refine zS_iconst 41 rfl (0 : Int32) (by decide) dX12_want_40 ?_
      refine zS_iald 42 rfl dX12_want_41 (zP12_s h0) ?_
      refine zS_cVi (as := [.int _, .int _]) (st := []) (g' := gX12_rule) 45 rfl (okX12_rule _ _ _ _ h0) dX12_want_42 zC12 h0 zw1215 cbX12_rule rfl rfl (by decide) (Nat.le_of_ble_eq_true rfl) (fun r7 w8 => ?_)
      refine zS_istore_n 46 rfl dX12_want_45 (by show 3 < 9; decide) (show _ = [(3, .int _), (0, .ref _), (1, .int _), (2, .int _)] from rfl) ?_
      refine zS_iconst 47 rfl (0 : Int32) (by decide) dX12_want_46 ?_
      refine zS_istore 49 rfl dX12_want_47 (by show 4 < 9; decide) (show _ = [(4, .int _), (3, .int _), (0, .ref _), (1, .int _), (2, .int _)] from rfl) ?_
      refine zS_iconst 50 rfl (0 : Int32) (by decide) dX12_want_49 ?_
      refine zS_istore 52 rfl dX12_want_50 (by show 5 < 9; decide) (show _ = [(5, .int _), (4, .int _), (3, .int _), (0, .ref _), (1, .int _), (2, .int _)] from rfl) ?_
      refine zS_sub [3, 4, 5, 2, 1, 0] (show _ = [(0, .ref _), (1, .int _), (2, .int _), (3, .int _), (4, .int _), (5, .int _)] from rfl) ?_
      exact sX12_want_52 _ _ _ _ _ _ h0 _

theorem okX12_want (v0 : Nat) (v1 : Int32) (v2 : Int32) (w : zWd) (h0 : zShp v0 = (12, 25)) : zOk gX12_want zEi [.ref v0, .int v1, .int v2] w (mX12_want v0 v1 v2 w) := zOk_of (by decide) rfl (Nat.le_of_ble_eq_true rfl) (sX12_want v0 v1 v2 h0 w)
abbrev gX12_look : zMth := (yX12_look, cX12_look, 6, (some .int), 3, zE0)
theorem cbX12_look : zCbV yX12_look cX12_look 6 (some .int) 4 := ⟨zw1429, zw1430, zw89, zw1431, by decide, by decide, by decide +kernel⟩
set_option maxHeartbeats 4000000 in
set_option maxRecDepth 100000 in
theorem sX12_look_40 (w : zWd) : zS gX12_look zEi 40 [] [] w (mX12_look_40 w) := by
  unfold mX12_look_40
  refine zS_bipush 42 rfl (-2 : Int32) (by decide) dX12_look_40 ?_
  exact zS_reti dX12_look_42 rfl

set_option maxHeartbeats 4000000 in
set_option maxRecDepth 100000 in
theorem sX12_look (v0 : Nat) (v1 : Int32) (v2 : Int32) (v3 : Int32) (v4 : Int32) (h0 : zShp v0 = (12, 25)) (w : zWd) : zS gX12_look zEi 0 [(0, .ref v0), (1, .int v1), (2, .int v2), (3, .int v3), (4, .int v4)] [] w (mX12_look v0 v1 v2 v3 v4 w) := by
  unfold mX12_look
  refine zS_aload_n 1 rfl 0 rfl dX12_look_0 ?_
  refine zS_iload_n 2 rfl 1 rfl dX12_look_1 ?_
  refine zS_cVi (as := [.int _]) (st := []) (g' := gX12_isTap) 5 rfl (okX12_isTap _ _ _ h0) dX12_look_2 zC12 h0 zw1269 cbX12_isTap rfl rfl (by decide) (Nat.le_of_ble_eq_true rfl) (fun r1 w2 => ?_)
  refine zS_if_ne 10 8 rfl dX12_look_5 (by decide) ?_ ?_
  · refine zS_iconst 9 rfl (-1 : Int32) (by decide) dX12_look_8 ?_
    exact zS_reti dX12_look_9 rfl
  · refine zS_iload_n 11 rfl 2 rfl dX12_look_10 ?_
    refine zS_cSi (as := [.int _]) (st := []) (g' := gX12_isDay) 14 rfl (okX12_isDay _ _) dX12_look_11 zw1318 cbX12_isDay rfl rfl (by decide) (Nat.le_of_ble_eq_true rfl) (fun r3 w4 => ?_)
    refine zS_if_eq 40 17 rfl dX12_look_14 (by decide) ?_ ?_
    · refine zS_sub [] (show _ = [] from rfl) ?_
      exact sX12_look_40 _
    · refine zS_iload_n 18 rfl 3 rfl dX12_look_17 ?_
      refine zS_iconst 19 rfl (0 : Int32) (by decide) dX12_look_18 ?_
      refine zS_sipush 22 rfl (9999 : Int32) (by decide) dX12_look_19 ?_
      refine zS_cSi (as := [.int _, .int _, .int _]) (st := []) (g' := gX12_in) 25 rfl (okX12_in _ _ _ _) dX12_look_22 zw1196 cbX12_in rfl rfl (by decide) (Nat.le_of_ble_eq_true rfl) (fun r5 w6 => ?_)
      refine zS_if_eq 40 28 rfl dX12_look_25 (by decide) ?_ ?_
      · refine zS_sub [] (show _ = [] from rfl) ?_
        exact sX12_look_40 _
      · refine zS_iload 30 rfl 4 rfl dX12_look_28 ?_
        refine zS_iconst 31 rfl (0 : Int32) (by decide) dX12_look_30 ?_
        refine zS_sipush 34 rfl (2000 : Int32) (by decide) dX12_look_31 ?_
        refine zS_cSi (as := [.int _, .int _, .int _]) (st := []) (g' := gX12_in) 37 rfl (okX12_in _ _ _ _) dX12_look_34 zw1196 cbX12_in rfl rfl (by decide) (Nat.le_of_ble_eq_true rfl) (fun r7 w8 => ?_)
        refine zS_if_ne 43 40 rfl dX12_look_37 (by decide) ?_ ?_
        · refine zS_sub [] (show _ = [] from rfl) ?_
          exact sX12_look_40 _
        · refine zS_aload_n 44 rfl 0 rfl dX12_look_43 ?_
          refine zS_getfp 47 rfl 1 dX12_look_44 zC12 zw1113 (by decide) rfl h0 ?_
          refine zS_iconst 48 rfl (5 : Int32) (by decide) dX12_look_47 ?_
          refine zS_iald 49 rfl dX12_look_48 (zP12_s h0) ?_
          refine zS_bipush 51 rfl (60 : Int32) (by decide) dX12_look_49 ?_
          refine zS_icmp_ne 57 54 rfl dX12_look_51 (by decide) ?_ ?_
          · refine zS_bipush 56 rfl (-4 : Int32) (by decide) dX12_look_54 ?_
            exact zS_reti dX12_look_56 rfl
          · refine zS_aload_n 58 rfl 0 rfl dX12_look_57 ?_
            refine zS_getfp 61 rfl 1 dX12_look_58 zC12 zw1113 (by decide) rfl h0 ?_
            refine zS_iconst 62 rfl (5 : Int32) (by decide) dX12_look_61 ?_
            refine zS_iald 63 rfl dX12_look_62 (zP12_s h0) ?_
            refine zS_bni (fun x9 => ?_)
            refine zS_istore 65 rfl dX12_look_63 (by show 5 < 6; decide) (show _ = [(5, .int _), (0, .ref _), (1, .int _), (2, .int _), (3, .int _), (4, .int _)] from rfl) ?_
            refine zS_aload_n 66 rfl 1 rfl dX12_look_65 ?_
            refine zS_getfp 69 rfl 1 dX12_look_66 zC12 zw1113 (by decide) rfl h0 ?_
            refine zS_sipush 72 rfl (2330 : Int32) (by decide) dX12_look_69 ?_
            refine zS_iload 74 rfl 0 rfl dX12_look_72 ?_
            refine zS_iadd 75 rfl dX12_look_74 ?_
            refine zS_iload_n 76 rfl 2 rfl dX12_look_75 ?_
            refine zS_iast 77 rfl dX12_look_76 (zP12_s h0) ?_
            refine zS_bnw (fun w10 => ?_)
            refine zS_aload_n 78 rfl 1 rfl dX12_look_77 ?_
            refine zS_getfp 81 rfl 1 dX12_look_78 zC12 zw1113 (by decide) rfl h0 ?_
            refine zS_sipush 84 rfl (2390 : Int32) (by decide) dX12_look_81 ?_
            refine zS_iload 86 rfl 0 rfl dX12_look_84 ?_
            refine zS_iadd 87 rfl dX12_look_86 ?_
            refine zS_iload_n 88 rfl 3 rfl dX12_look_87 ?_
            refine zS_iast 89 rfl dX12_look_88 (zP12_s h0) ?_
            refine zS_bnw (fun w11 => ?_)
            refine zS_aload_n 90 rfl 1 rfl dX12_look_89 ?_
            refine zS_getfp 93 rfl 1 dX12_look_90 zC12 zw1113 (by decide) rfl h0 ?_
            refine zS_sipush 96 rfl (2450 : Int32) (by decide) dX12_look_93 ?_
            refine zS_iload 98 rfl 0 rfl dX12_look_96 ?_
            refine zS_iadd 99 rfl dX12_look_98 ?_
            refine zS_iload_n 100 rfl 4 rfl dX12_look_99 ?_
            refine zS_iast 101 rfl dX12_look_100 (zP12_s h0) ?_
            refine zS_bnw (fun w12 => ?_)
            refine zS_aload_n 102 rfl 1 rfl dX12_look_101 ?_
            refine zS_getfp 105 rfl 1 dX12_look_102 zC12 zw1113 (by decide) rfl h0 ?_
            refine zS_sipush 108 rfl (2510 : Int32) (by decide) dX12_look_105 ?_
            refine zS_iload 110 rfl 0 rfl dX12_look_108 ?_
            refine zS_iadd 111 rfl dX12_look_110 ?_
            refine zS_iload 113 rfl 5 rfl dX12_look_111 ?_
            refine zS_iast 114 rfl dX12_look_113 (zP12_s h0) ?_
            refine zS_bnw (fun w13 => ?_)
            refine zS_aload_n 115 rfl 1 rfl dX12_look_114 ?_
            refine zS_getfp 118 rfl 1 dX12_look_115 zC12 zw1113 (by decide) rfl h0 ?_
            refine zS_iconst 119 rfl (5 : Int32) (by decide) dX12_look_118 ?_
            refine zS_dup2 120 rfl rfl rfl dX12_look_119 ?_
            refine zS_iald 121 rfl dX12_look_120 (zP12_s h0) ?_
            refine zS_iconst 122 rfl (1 : Int32) (by decide) dX12_look_121 ?_
            refine zS_iadd 123 rfl dX12_look_122 ?_
            refine zS_iast 124 rfl dX12_look_123 (zP12_s h0) ?_
            refine zS_bnw (fun w14 => ?_)
            refine zS_aload_n 125 rfl 1 rfl dX12_look_124 ?_
            refine zS_getfp 128 rfl 1 dX12_look_125 zC12 zw1113 (by decide) rfl h0 ?_
            refine zS_iconst 129 rfl (5 : Int32) (by decide) dX12_look_128 ?_
            refine zS_iald 130 rfl dX12_look_129 (zP12_s h0) ?_
            exact zS_reti dX12_look_130 rfl

theorem okX12_look (v0 : Nat) (v1 : Int32) (v2 : Int32) (v3 : Int32) (v4 : Int32) (w : zWd) (h0 : zShp v0 = (12, 25)) : zOk gX12_look zEi [.ref v0, .int v1, .int v2, .int v3, .int v4] w (mX12_look v0 v1 v2 v3 v4 w) := zOk_of (by decide) rfl (Nat.le_of_ble_eq_true rfl) (sX12_look v0 v1 v2 v3 v4 h0 w)
