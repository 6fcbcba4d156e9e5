abbrev gX12_off : zMth := (yX12_off, cX12_off, 7, (some .int), 48, zE0)
theorem cbX12_off : zCbV yX12_off cX12_off 7 (some .int) 1 := ⟨zw1433, zw1434, zw89, zw1435, by decide, by decide, by decide +kernel⟩
set_option maxHeartbeats 4000000 in
set_option maxRecDepth 100000 in
theorem sX12_off_157 (k14 : Int32 × Int32 × zWd → Option (Int32 × zWd)) (v0 : Nat) (v1 : Int32) (v2 : Int32) (v3 : Int32) (hk14 : ∀ (v2 : Int32) (v3 : Int32) (w : zWd), zS gX12_off zEi 14 [(0, .ref v0), (1, .int v1), (2, .int v2), (3, .int v3)] [] w (k14 (v2, v3, w))) (h0 : zShp v0 = (12, 25)) (w : zWd) : zS gX12_off zEi 157 [(0, .ref v0), (1, .int v1), (2, .int v2), (3, .int v3)] [] w (mX12_off_157 k14 v0 v1 v2 v3 w) := by
  unfold mX12_off_157
  refine zS_iinc 160 rfl 3 (_ + (1 : Int32)) dX12_off_157 rfl (by show 3 < 7; decide) rfl (show _ = [(3, .int _), (0, .ref _), (1, .int _), (2, .int _)] from rfl) ?_
  refine zS_goto 14 dX12_off_160 (by decide) ?_
  refine zS_sub [1, 2, 3, 0] (show _ = [(0, .ref _), (1, .int _), (2, .int _), (3, .int _)] from rfl) ?_
  exact hk14 _ _ _

set_option maxHeartbeats 4000000 in
set_option maxRecDepth 100000 in
theorem sX12_off_155 (k14 : Int32 × Int32 × zWd → Option (Int32 × zWd)) (v0 : Nat) (v1 : Int32) (v3 : Int32) (s0 : Int32) (s1 : Int32) (hk14 : ∀ (v2 : Int32) (v3 : Int32) (w : zWd), zS gX12_off zEi 14 [(0, .ref v0), (1, .int v1), (2, .int v2), (3, .int v3)] [] w (k14 (v2, v3, w))) (h0 : zShp v0 = (12, 25)) (w : zWd) : zS gX12_off zEi 155 [(0, .ref v0), (1, .int v1), (3, .int v3)] [.int s0, .int s1] w (mX12_off_155 k14 v0 v1 v3 s0 s1 w) := by
  unfold mX12_off_155
  refine zS_iadd 156 rfl dX12_off_155 ?_
  refine zS_bni (fun x12 => ?_)
  refine zS_istore_n 157 rfl dX12_off_156 (by show 2 < 7; decide) (show _ = [(2, .int _), (0, .ref _), (1, .int _), (3, .int _)] from rfl) ?_
  refine zS_sub [1, 2, 0, 3] (show _ = [(0, .ref _), (1, .int _), (2, .int _), (3, .int _)] from rfl) ?_
  exact sX12_off_157 k14 _ _ _ _ hk14 h0 _

set_option maxHeartbeats 4000000 in
set_option maxRecDepth 100000 in
theorem sX12_off_142 (k14 : Int32 × Int32 × zWd → Option (Int32 × zWd)) (v0 : Nat) (v1 : Int32) (v2 : Int32) (v3 : Int32) (s0 : Int32) (hk14 : ∀ (v2 : Int32) (v3 : Int32) (w : zWd), zS gX12_off zEi 14 [(0, .ref v0), (1, .int v1), (2, .int v2), (3, .int v3)] [] w (k14 (v2, v3, w))) (h0 : zShp v0 = (12, 25)) (w : zWd) : zS gX12_off zEi 142 [(0, .ref v0), (1, .int v1), (2, .int v2), (3, .int v3)] [.int s0] w (mX12_off_142 k14 v0 v1 v2 v3 s0 w) := by
  unfold mX12_off_142
  refine zS_istore 144 rfl dX12_off_142 (by show 6 < 7; decide) (show _ = [(6, .int _), (0, .ref _), (1, .int _), (2, .int _), (3, .int _)] from rfl) ?_
  refine zS_iload_n 145 rfl 3 rfl dX12_off_144 ?_
  refine zS_iload 147 rfl 0 rfl dX12_off_145 ?_
  refine zS_if_eq 154 150 rfl dX12_off_147 (by decide) ?_ ?_
  · refine zS_iconst 155 rfl (0 : Int32) (by decide) dX12_off_154 ?_
    refine zS_sub [1, 2, 4] (show _ = [(0, .ref _), (1, .int _), (3, .int _)] from rfl) ?_
    exact sX12_off_155 k14 _ _ _ _ _ hk14 h0 _
  · refine zS_iconst 151 rfl (1 : Int32) (by decide) dX12_off_150 ?_
    refine zS_goto 155 dX12_off_151 (by decide) ?_
    refine zS_sub [1, 2, 4] (show _ = [(0, .ref _), (1, .int _), (3, .int _)] from rfl) ?_
    exact sX12_off_155 k14 _ _ _ _ _ hk14 h0 _

set_option maxHeartbeats 4000000 in
set_option maxRecDepth 100000 in
theorem sX12_off_137 (k14 : Int32 × Int32 × zWd → Option (Int32 × zWd)) (v0 : Nat) (v1 : Int32) (v2 : Int32) (v3 : Int32) (hk14 : ∀ (v2 : Int32) (v3 : Int32) (w : zWd), zS gX12_off zEi 14 [(0, .ref v0), (1, .int v1), (2, .int v2), (3, .int v3)] [] w (k14 (v2, v3, w))) (h0 : zShp v0 = (12, 25)) (w : zWd) : zS gX12_off zEi 137 [(0, .ref v0), (1, .int v1), (2, .int v2), (3, .int v3)] [] w (mX12_off_137 k14 v0 v1 v2 v3 w) := by
  unfold mX12_off_137
  refine zS_iconst 138 rfl (1 : Int32) (by decide) dX12_off_137 ?_
  refine zS_goto 142 dX12_off_138 (by decide) ?_
  exact sX12_off_142 k14 _ _ _ _ _ hk14 h0 _

set_option maxHeartbeats 4000000 in
set_option maxRecDepth 100000 in
theorem sX12_off_14b (v0 : Nat) (v1 : Int32) (k14 : Int32 × Int32 × zWd → Option (Int32 × zWd)) (v2 : Int32) (v3 : Int32) (hk14 : ∀ (v2 : Int32) (v3 : Int32) (w : zWd), zS gX12_off zEi 14 [(0, .ref v0), (1, .int v1), (2, .int v2), (3, .int v3)] [] w (k14 (v2, v3, w))) (h0 : zShp v0 = (12, 25)) (w : zWd) : zS gX12_off zEi 14 [(0, .ref v0), (1, .int v1), (2, .int v2), (3, .int v3)] [] w (mX12_off_14b v0 v1 k14 v2 v3 w) := by
  unfold mX12_off_14b
  refine zS_iload_n 15 rfl 3 rfl dX12_off_14 ?_
  refine zS_aload_n 16 rfl 0 rfl dX12_off_15 ?_
  refine zS_getfp 19 rfl 1 dX12_off_16 zC12 zw1113 (by decide) rfl h0 ?_
  refine zS_iconst 20 rfl (5 : Int32) (by decide) dX12_off_19 ?_
  refine zS_iald 21 rfl dX12_off_20 (zP12_s h0) ?_
  refine zS_icmp_ge 163 24 rfl dX12_off_21 (by decide) ?_ ?_
  · refine zS_iload_n 164 rfl 2 rfl dX12_off_163 ?_
    exact zS_reti dX12_off_164 rfl
  · refine zS_aload_n 25 rfl 0 rfl dX12_off_24 ?_
    refine zS_getfp 28 rfl 1 dX12_off_25 zC12 zw1113 (by decide) rfl h0 ?_
    refine zS_sipush 31 rfl (2390 : Int32) (by decide) dX12_off_28 ?_
    refine zS_iload_n 32 rfl 3 rfl dX12_off_31 ?_
    refine zS_iadd 33 rfl dX12_off_32 ?_
    refine zS_iald 34 rfl dX12_off_33 (zP12_s h0) ?_
    refine zS_bni (fun x3 => ?_)
    refine zS_istore 36 rfl dX12_off_34 (by show 4 < 7; decide) (show _ = [(4, .int _), (0, .ref _), (1, .int _), (2, .int _), (3, .int _)] from rfl) ?_
    refine zS_aload_n 37 rfl 1 rfl dX12_off_36 ?_
    refine zS_getfp 40 rfl 1 dX12_off_37 zC12 zw1113 (by decide) rfl h0 ?_
    refine zS_sipush 43 rfl (2330 : Int32) (by decide) dX12_off_40 ?_
    refine zS_iload_n 44 rfl 4 rfl dX12_off_43 ?_
    refine zS_iadd 45 rfl dX12_off_44 ?_
    refine zS_iald 46 rfl dX12_off_45 (zP12_s h0) ?_
    refine zS_iload_n 47 rfl 2 rfl dX12_off_46 ?_
    refine zS_icmp_ne 157 50 rfl dX12_off_47 (by decide) ?_ ?_
    · refine zS_aload_n 51 rfl 1 rfl dX12_off_50 ?_
      refine zS_iload 53 rfl 0 rfl dX12_off_51 ?_
      refine zS_cVi (as := [.int _]) (st := []) (g' := gX12_isGone) 56 rfl (okX12_isGone _ _ _ h0) dX12_off_53 zC12 h0 zw1293 cbX12_isGone rfl rfl (by decide) (Nat.le_of_ble_eq_true rfl) (fun r4 w5 => ?_)
      refine zS_if_eq 157 59 rfl dX12_off_56 (by decide) ?_ ?_
      · refine zS_sub [1, 2, 3, 4] (show _ = [(0, .ref _), (1, .int _), (2, .int _), (3, .int _)] from rfl) ?_
        exact sX12_off_157 k14 _ _ _ _ hk14 h0 _
      · refine zS_iload 61 rfl 0 rfl dX12_off_59 ?_
        refine zS_aload_n 62 rfl 1 rfl dX12_off_61 ?_
        refine zS_getfp 65 rfl 1 dX12_off_62 zC12 zw1113 (by decide) rfl h0 ?_
        refine zS_sipush 68 rfl (200 : Int32) (by decide) dX12_off_65 ?_
        refine zS_iload_n 69 rfl 2 rfl dX12_off_68 ?_
        refine zS_iadd 70 rfl dX12_off_69 ?_
        refine zS_iald 71 rfl dX12_off_70 (zP12_s h0) ?_
        refine zS_icmp_lt 157 74 rfl dX12_off_71 (by decide) ?_ ?_
        · refine zS_sub [1, 2, 3, 4] (show _ = [(0, .ref _), (1, .int _), (2, .int _), (3, .int _)] from rfl) ?_
          exact sX12_off_157 k14 _ _ _ _ hk14 h0 _
        · refine zS_aload_n 75 rfl 1 rfl dX12_off_74 ?_
          refine zS_iconst 76 rfl (4 : Int32) (by decide) dX12_off_75 ?_
          refine zS_iload 78 rfl 0 rfl dX12_off_76 ?_
          refine zS_cVi (as := [.int _, .int _]) (st := []) (g' := gX12_rule) 81 rfl (okX12_rule _ _ _ _ h0) dX12_off_78 zC12 h0 zw1215 cbX12_rule rfl rfl (by decide) (Nat.le_of_ble_eq_true rfl) (fun r6 w7 => ?_)
          refine zS_istore 83 rfl dX12_off_81 (by show 5 < 7; decide) (show _ = [(5, .int _), (4, .int _), (0, .ref _), (1, .int _), (2, .int _), (3, .int _)] from rfl) ?_
          refine zS_aload_n 84 rfl 2 rfl dX12_off_83 ?_
          refine zS_getfp 87 rfl 1 dX12_off_84 zC12 zw1113 (by decide) rfl h0 ?_
          refine zS_sipush 90 rfl (2450 : Int32) (by decide) dX12_off_87 ?_
          refine zS_iload_n 91 rfl 5 rfl dX12_off_90 ?_
          refine zS_iadd 92 rfl dX12_off_91 ?_
          refine zS_iald 93 rfl dX12_off_92 (zP12_s h0) ?_
          refine zS_aload_n 94 rfl 2 rfl dX12_off_93 ?_
          refine zS_iload_n 95 rfl 3 rfl dX12_off_94 ?_
          refine zS_iload 97 rfl 1 rfl dX12_off_95 ?_
          refine zS_iconst 98 rfl (0 : Int32) (by decide) dX12_off_97 ?_
          refine zS_cVi (as := [.int _, .int _, .int _]) (st := [.int _]) (g' := gX12_flowOf) 101 rfl (okX12_flowOf _ _ _ _ _ h0) dX12_off_98 zC12 h0 zw1297 cbX12_flowOf rfl rfl (by decide) (Nat.le_of_ble_eq_true rfl) (fun r8 w9 => ?_)
          refine zS_isub 102 rfl dX12_off_101 ?_
          refine zS_cSi (as := [.int _]) (st := []) (g' := gX12_size) 105 rfl (okX12_size _ _) dX12_off_102 zw1262 cbX12_size rfl rfl (by decide) (Nat.le_of_ble_eq_true rfl) (fun r10 w11 => ?_)
          refine zS_iload 107 rfl 0 rfl dX12_off_105 ?_
          refine zS_icmp_gt 137 110 rfl dX12_off_107 (by decide) ?_ ?_
          · refine zS_sub [2, 3, 4, 5] (show _ = [(0, .ref _), (1, .int _), (2, .int _), (3, .int _)] from rfl) ?_
            exact sX12_off_137 k14 _ _ _ _ hk14 h0 _
          · refine zS_aload_n 111 rfl 2 rfl dX12_off_110 ?_
            refine zS_getfp 114 rfl 1 dX12_off_111 zC12 zw1113 (by decide) rfl h0 ?_
            refine zS_sipush 117 rfl (2510 : Int32) (by decide) dX12_off_114 ?_
            refine zS_iload_n 118 rfl 5 rfl dX12_off_117 ?_
            refine zS_iadd 119 rfl dX12_off_118 ?_
            refine zS_iald 120 rfl dX12_off_119 (zP12_s h0) ?_
            refine zS_aload_n 121 rfl 2 rfl dX12_off_120 ?_
            refine zS_iload_n 122 rfl 3 rfl dX12_off_121 ?_
            refine zS_iload 124 rfl 1 rfl dX12_off_122 ?_
            refine zS_iconst 125 rfl (1 : Int32) (by decide) dX12_off_124 ?_
            refine zS_cVi (as := [.int _, .int _, .int _]) (st := [.int _]) (g' := gX12_flowOf) 128 rfl (okX12_flowOf _ _ _ _ _ h0) dX12_off_125 zC12 h0 zw1297 cbX12_flowOf rfl rfl (by decide) (Nat.le_of_ble_eq_true rfl) (fun r13 w14 => ?_)
            refine zS_isub 129 rfl dX12_off_128 ?_
            refine zS_cSi (as := [.int _]) (st := []) (g' := gX12_size) 132 rfl (okX12_size _ _) dX12_off_129 zw1262 cbX12_size rfl rfl (by decide) (Nat.le_of_ble_eq_true rfl) (fun r15 w16 => ?_)
            refine zS_iload 134 rfl 0 rfl dX12_off_132 ?_
            refine zS_icmp_le 141 137 rfl dX12_off_134 (by decide) ?_ ?_
            · refine zS_iconst 142 rfl (0 : Int32) (by decide) dX12_off_141 ?_
              refine zS_sub [2, 3, 4, 5] (show _ = [(0, .ref _), (1, .int _), (2, .int _), (3, .int _)] from rfl) ?_
              exact sX12_off_142 k14 _ _ _ _ _ hk14 h0 _
            · refine zS_sub [2, 3, 4, 5] (show _ = [(0, .ref _), (1, .int _), (2, .int _), (3, .int _)] from rfl) ?_
              exact sX12_off_137 k14 _ _ _ _ hk14 h0 _
    · refine zS_sub [1, 2, 3, 4] (show _ = [(0, .ref _), (1, .int _), (2, .int _), (3, .int _)] from rfl) ?_
      exact sX12_off_157 k14 _ _ _ _ hk14 h0 _

theorem sX12_off_14 (v0 : Nat) (v1 : Int32) (v2 : Int32) (v3 : Int32) (h0 : zShp v0 = (12, 25)) (w : zWd) : zS gX12_off zEi 14 [(0, .ref v0), (1, .int v1), (2, .int v2), (3, .int v3)] [] w (mX12_off_14 v0 v1 v2 v3 w) :=
  zS_loop (L := fun q : Int32 × Int32 × zWd => [(0, .ref v0), (1, .int v1), (2, .int q.1), (3, .int q.2.1)]) (V := fun q => q.2.2) (T := fun _ => []) (F := fun k q => mX12_off_14b v0 v1 k q.1 q.2.1 q.2.2) (fun k hk q => sX12_off_14b v0 v1 k q.1 q.2.1 (fun a2 a3 w => hk (a2, a3, w)) h0 q.2.2) zFU (v2, v3, w)
set_option maxHeartbeats 4000000 in
set_option maxRecDepth 100000 in
theorem sX12_off (v0 : Nat) (v1 : Int32) (h0 : zShp v0 = (12, 25)) (w : zWd) : zS gX12_off zEi 0 [(0, .ref v0), (1, .int v1)] [] w (mX12_off v0 v1 w) := by
  unfold mX12_off
  refine zS_aload_n 1 rfl 0 rfl dX12_off_0 ?_
  refine zS_iload_n 2 rfl 1 rfl dX12_off_1 ?_
  refine zS_cVi (as := [.int _]) (st := []) (g' := gX12_isTap) 5 rfl (okX12_isTap _ _ _ h0) dX12_off_2 zC12 h0 zw1269 cbX12_isTap rfl rfl (by decide) (Nat.le_of_ble_eq_true rfl) (fun r1 w2 => ?_)
  refine zS_if_ne 10 8 rfl dX12_off_5 (by decide) ?_ ?_
  · refine zS_iconst 9 rfl (-1 : Int32) (by decide) dX12_off_8 ?_
    exact zS_reti dX12_off_9 rfl
  · refine zS_iconst 11 rfl (0 : Int32) (by decide) dX12_off_10 ?_
    refine zS_istore_n 12 rfl dX12_off_11 (by show 2 < 7; decide) (show _ = [(2, .int _), (0, .ref _), (1, .int _)] from rfl) ?_
    refine zS_iconst 13 rfl (0 : Int32) (by decide) dX12_off_12 ?_
    refine zS_istore_n 14 rfl dX12_off_13 (by show 3 < 7; decide) (show _ = [(3, .int _), (2, .int _), (0, .ref _), (1, .int _)] from rfl) ?_
    refine zS_sub [2, 3, 1, 0] (show _ = [(0, .ref _), (1, .int _), (2, .int _), (3, .int _)] from rfl) ?_
    exact sX12_off_14 _ _ _ _ h0 _

theorem okX12_off (v0 : Nat) (v1 : Int32) (w : zWd) (h0 : zShp v0 = (12, 25)) : zOk gX12_off zEi [.ref v0, .int v1] w (mX12_off v0 v1 w) := zOk_of (by decide) rfl (Nat.le_of_ble_eq_true rfl) (sX12_off v0 v1 h0 w)
abbrev gX12_drops : zMth := (yX12_drops, cX12_drops, 3, (some .int), 1, zE0)
theorem cbX12_drops : zCbV yX12_drops cX12_drops 3 (some .int) 0 := ⟨zw1442, zw69, zw89, zw1443, by decide, by decide, by decide +kernel⟩
set_option maxHeartbeats 4000000 in
set_option maxRecDepth 100000 in
theorem sX12_drops_30 (k4 : Int32 × Int32 × zWd → Option (Int32 × zWd)) (v0 : Nat) (v2 : Int32) (s0 : Int32) (s1 : Int32) (hk4 : ∀ (v1 : Int32) (v2 : Int32) (w : zWd), zS gX12_drops zEi 4 [(0, .ref v0), (1, .int v1), (2, .int v2)] [] w (k4 (v1, v2, w))) (h0 : zShp v0 = (12, 25)) (w : zWd) : zS gX12_drops zEi 30 [(0, .ref v0), (2, .int v2)] [.int s0, .int s1] w (mX12_drops_30 k4 v0 v2 s0 s1 w) := by
  unfold mX12_drops_30
  refine zS_iadd 31 rfl dX12_drops_30 ?_
  refine zS_bni (fun x1 => ?_)
  refine zS_istore_n 32 rfl dX12_drops_31 (by show 1 < 3; decide) (show _ = [(1, .int _), (0, .ref _), (2, .int _)] from rfl) ?_
  refine zS_iinc 35 rfl 2 (_ + (1 : Int32)) dX12_drops_32 rfl (by show 2 < 3; decide) rfl (show _ = [(2, .int _), (1, .int _), (0, .ref _)] from rfl) ?_
  refine zS_goto 4 dX12_drops_35 (by decide) ?_
  refine zS_sub [2, 1, 0] (show _ = [(0, .ref _), (1, .int _), (2, .int _)] from rfl) ?_
  exact hk4 _ _ _

set_option maxHeartbeats 4000000 in
set_option maxRecDepth 100000 in
theorem sX12_drops_4b (v0 : Nat) (k4 : Int32 × Int32 × zWd → Option (Int32 × zWd)) (v1 : Int32) (v2 : Int32) (hk4 : ∀ (v1 : Int32) (v2 : Int32) (w : zWd), zS gX12_drops zEi 4 [(0, .ref v0), (1, .int v1), (2, .int v2)] [] w (k4 (v1, v2, w))) (h0 : zShp v0 = (12, 25)) (w : zWd) : zS gX12_drops zEi 4 [(0, .ref v0), (1, .int v1), (2, .int v2)] [] w (mX12_drops_4b v0 k4 v1 v2 w) := by
  unfold mX12_drops_4b
  refine zS_iload_n 5 rfl 2 rfl dX12_drops_4 ?_
  refine zS_bipush 7 rfl (12 : Int32) (by decide) dX12_drops_5 ?_
  refine zS_icmp_ge 38 10 rfl dX12_drops_7 (by decide) ?_ ?_
  · refine zS_iload_n 39 rfl 1 rfl dX12_drops_38 ?_
    exact zS_reti dX12_drops_39 rfl
  · refine zS_iload_n 11 rfl 1 rfl dX12_drops_10 ?_
    refine zS_aload_n 12 rfl 0 rfl dX12_drops_11 ?_
    refine zS_getfp 15 rfl 1 dX12_drops_12 zC12 zw1113 (by decide) rfl h0 ?_
    refine zS_sipush 18 rfl (2570 : Int32) (by decide) dX12_drops_15 ?_
    refine zS_iload_n 19 rfl 2 rfl dX12_drops_18 ?_
    refine zS_iadd 20 rfl dX12_drops_19 ?_
    refine zS_iald 21 rfl dX12_drops_20 (zP12_s h0) ?_
    refine zS_iconst 22 rfl (-1 : Int32) (by decide) dX12_drops_21 ?_
    refine zS_icmp_eq 29 25 rfl dX12_drops_22 (by decide) ?_ ?_
    · refine zS_iconst 30 rfl (0 : Int32) (by decide) dX12_drops_29 ?_
      refine zS_sub [0, 2] (show _ = [(0, .ref _), (2, .int _)] from rfl) ?_
      exact sX12_drops_30 k4 _ _ _ _ hk4 h0 _
    · refine zS_iconst 26 rfl (1 : Int32) (by decide) dX12_drops_25 ?_
      refine zS_goto 30 dX12_drops_26 (by decide) ?_
      refine zS_sub [0, 2] (show _ = [(0, .ref _), (2, .int _)] from rfl) ?_
      exact sX12_drops_30 k4 _ _ _ _ hk4 h0 _

theorem sX12_drops_4 (v0 : Nat) (v1 : Int32) (v2 : Int32) (h0 : zShp v0 = (12, 25)) (w : zWd) : zS gX12_drops zEi 4 [(0, .ref v0), (1, .int v1), (2, .int v2)] [] w (mX12_drops_4 v0 v1 v2 w) :=
  zS_loop (L := fun q : Int32 × Int32 × zWd => [(0, .ref v0), (1, .int q.1), (2, .int q.2.1)]) (V := fun q => q.2.2) (T := fun _ => []) (F := fun k q => mX12_drops_4b v0 k q.1 q.2.1 q.2.2) (fun k hk q => sX12_drops_4b v0 k q.1 q.2.1 (fun a1 a2 w => hk (a1, a2, w)) h0 q.2.2) zFU (v1, v2, w)
set_option maxHeartbeats 4000000 in
set_option maxRecDepth 100000 in
theorem sX12_drops (v0 : Nat) (h0 : zShp v0 = (12, 25)) (w : zWd) : zS gX12_drops zEi 0 [(0, .ref v0)] [] w (mX12_drops v0 w) := by
  unfold mX12_drops
  refine zS_iconst 1 rfl (0 : Int32) (by decide) dX12_drops_0 ?_
  refine zS_istore_n 2 rfl dX12_drops_1 (by show 1 < 3; decide) (show _ = [(1, .int _), (0, .ref _)] from rfl) ?_
  refine zS_iconst 3 rfl (0 : Int32) (by decide) dX12_drops_2 ?_
  refine zS_istore_n 4 rfl dX12_drops_3 (by show 2 < 3; decide) (show _ = [(2, .int _), (1, .int _), (0, .ref _)] from rfl) ?_
  refine zS_sub [2, 1, 0] (show _ = [(0, .ref _), (1, .int _), (2, .int _)] from rfl) ?_
  exact sX12_drops_4 _ _ _ h0 _

theorem okX12_drops (v0 : Nat) (w : zWd) (h0 : zShp v0 = (12, 25)) : zOk gX12_drops zEi [.ref v0] w (mX12_drops v0 w) := zOk_of (by decide) rfl (Nat.le_of_ble_eq_true rfl) (sX12_drops v0 h0 w)
abbrev gX12_drop : zMth := (yX12_drop, cX12_drop, 3, (some .int), 3, zE0)
theorem cbX12_drop : zCbV yX12_drop cX12_drop 3 (some .int) 2 := ⟨zw1437, zw1438, zw89, zw1439, by decide, by decide, by decide +kernel⟩
set_option maxHeartbeats 4000000 in
set_option maxRecDepth 100000 in
theorem sX12_drop_49 (v0 : Nat) (v1 : Int32) (v2 : Int32) (h0 : zShp v0 = (12, 25)) (w : zWd) : zS gX12_drop zEi 49 [(0, .ref v0), (1, .int v1), (2, .int v2)] [] w (mX12_drop_49 v0 v1 v2 w) := by
  unfold mX12_drop_49
  refine zS_aload_n 50 rfl 0 rfl dX12_drop_49 ?_
  refine zS_getfp 53 rfl 1 dX12_drop_50 zC12 zw1113 (by decide) rfl h0 ?_
  refine zS_sipush 56 rfl (2570 : Int32) (by decide) dX12_drop_53 ?_
  refine zS_iload_n 57 rfl 1 rfl dX12_drop_56 ?_
  refine zS_iadd 58 rfl dX12_drop_57 ?_
  refine zS_iload_n 59 rfl 2 rfl dX12_drop_58 ?_
  refine zS_iast 60 rfl dX12_drop_59 (zP12_s h0) ?_
  refine zS_bnw (fun w7 => ?_)
  refine zS_aload_n 61 rfl 0 rfl dX12_drop_60 ?_
  refine zS_cVi (as := []) (st := []) (g' := gX12_drops) 64 rfl (okX12_drops _ _ h0) dX12_drop_61 zC12 h0 zw1440 cbX12_drops rfl rfl (by decide) (Nat.le_of_ble_eq_true rfl) (fun r8 w9 => ?_)
  exact zS_reti dX12_drop_64 rfl

set_option maxHeartbeats 4000000 in
set_option maxRecDepth 100000 in
theorem sX12_drop (v0 : Nat) (v1 : Int32) (v2 : Int32) (h0 : zShp v0 = (12, 25)) (w : zWd) : zS gX12_drop zEi 0 [(0, .ref v0), (1, .int v1), (2, .int v2)] [] w (mX12_drop v0 v1 v2 w) := by
  unfold mX12_drop
  refine zS_aload_n 1 rfl 0 rfl dX12_drop_0 ?_
  refine zS_iload_n 2 rfl 1 rfl dX12_drop_1 ?_
  refine zS_cVi (as := [.int _]) (st := []) (g' := gX12_isTap) 5 rfl (okX12_isTap _ _ _ h0) dX12_drop_2 zC12 h0 zw1269 cbX12_isTap rfl rfl (by decide) (Nat.le_of_ble_eq_true rfl) (fun r1 w2 => ?_)
  refine zS_if_ne 10 8 rfl dX12_drop_5 (by decide) ?_ ?_
  · refine zS_iconst 9 rfl (-1 : Int32) (by decide) dX12_drop_8 ?_
    exact zS_reti dX12_drop_9 rfl
  · refine zS_iload_n 11 rfl 2 rfl dX12_drop_10 ?_
    refine zS_iconst 12 rfl (0 : Int32) (by decide) dX12_drop_11 ?_
    refine zS_sipush 15 rfl (999 : Int32) (by decide) dX12_drop_12 ?_
    refine zS_cSi (as := [.int _, .int _, .int _]) (st := []) (g' := gX12_in) 18 rfl (okX12_in _ _ _ _) dX12_drop_15 zw1196 cbX12_in rfl rfl (by decide) (Nat.le_of_ble_eq_true rfl) (fun r3 w4 => ?_)
    refine zS_if_ne 24 21 rfl dX12_drop_18 (by decide) ?_ ?_
    · refine zS_bipush 23 rfl (-2 : Int32) (by decide) dX12_drop_21 ?_
      exact zS_reti dX12_drop_23 rfl
    · refine zS_aload_n 25 rfl 0 rfl dX12_drop_24 ?_
      refine zS_getfp 28 rfl 1 dX12_drop_25 zC12 zw1113 (by decide) rfl h0 ?_
      refine zS_sipush 31 rfl (2570 : Int32) (by decide) dX12_drop_28 ?_
      refine zS_iload_n 32 rfl 1 rfl dX12_drop_31 ?_
      refine zS_iadd 33 rfl dX12_drop_32 ?_
      refine zS_iald 34 rfl dX12_drop_33 (zP12_s h0) ?_
      refine zS_iconst 35 rfl (-1 : Int32) (by decide) dX12_drop_34 ?_
      refine zS_icmp_ne 49 38 rfl dX12_drop_35 (by decide) ?_ ?_
      · refine zS_aload_n 39 rfl 0 rfl dX12_drop_38 ?_
        refine zS_cVi (as := []) (st := []) (g' := gX12_drops) 42 rfl (okX12_drops _ _ h0) dX12_drop_39 zC12 h0 zw1440 cbX12_drops rfl rfl (by decide) (Nat.le_of_ble_eq_true rfl) (fun r5 w6 => ?_)
        refine zS_iconst 43 rfl (4 : Int32) (by decide) dX12_drop_42 ?_
        refine zS_icmp_ne 49 46 rfl dX12_drop_43 (by decide) ?_ ?_
        · refine zS_bipush 48 rfl (-4 : Int32) (by decide) dX12_drop_46 ?_
          exact zS_reti dX12_drop_48 rfl
        · exact sX12_drop_49 _ _ _ h0 _
      · exact sX12_drop_49 _ _ _ h0 _

theorem okX12_drop (v0 : Nat) (v1 : Int32) (v2 : Int32) (w : zWd) (h0 : zShp v0 = (12, 25)) : zOk gX12_drop zEi [.ref v0, .int v1, .int v2] w (mX12_drop v0 v1 v2 w) := zOk_of (by decide) rfl (Nat.le_of_ble_eq_true rfl) (sX12_drop v0 v1 v2 h0 w)
abbrev gX12_count1 : zMth := (yX12_count1, cX12_count1, 3, (some .int), 1, zE0)
theorem cbX12_count1 : zCbS yX12_count1 cX12_count1 3 (some .int) 1 := ⟨zw1453, zw89, zw1454, by decide, by decide, by decide +kernel⟩
set_option maxHeartbeats 4000000 in
set_option maxRecDepth 100000 in
theorem sX12_count1_4b (v0 : Int32) (k4 : Int32 × Int32 × zWd → Option (Int32 × zWd)) (v1 : Int32) (v2 : Int32) (hk4 : ∀ (v1 : Int32) (v2 : Int32) (w : zWd), zS gX12_count1 zEi 4 [(0, .int v0), (1, .int v1), (2, .int v2)] [] w (k4 (v1, v2, w))) (w : zWd) : zS gX12_count1 zEi 4 [(0, .int v0), (1, .int v1), (2, .int v2)] [] w (mX12_count1_4b v0 k4 v1 v2 w) := by
  unfold mX12_count1_4b
  refine zS_iload_n 5 rfl 2 rfl dX12_count1_4 ?_
  refine zS_bipush 7 rfl (12 : Int32) (by decide) dX12_count1_5 ?_
  refine zS_icmp_ge 24 10 rfl dX12_count1_7 (by decide) ?_ ?_
  · refine zS_iload_n 25 rfl 1 rfl dX12_count1_24 ?_
    exact zS_reti dX12_count1_25 rfl
  · refine zS_iload_n 11 rfl 1 rfl dX12_count1_10 ?_
    refine zS_iload_n 12 rfl 0 rfl dX12_count1_11 ?_
    refine zS_iload_n 13 rfl 2 rfl dX12_count1_12 ?_
    refine zS_ishr 14 rfl dX12_count1_13 ?_
    refine zS_iconst 15 rfl (1 : Int32) (by decide) dX12_count1_14 ?_
    refine zS_iand 16 rfl dX12_count1_15 ?_
    refine zS_iadd 17 rfl dX12_count1_16 ?_
    refine zS_bni (fun x1 => ?_)
    refine zS_istore_n 18 rfl dX12_count1_17 (by show 1 < 3; decide) (show _ = [(1, .int _), (0, .int _), (2, .int _)] from rfl) ?_
    refine zS_iinc 21 rfl 2 (_ + (1 : Int32)) dX12_count1_18 rfl (by show 2 < 3; decide) rfl (show _ = [(2, .int _), (1, .int _), (0, .int _)] from rfl) ?_
    refine zS_goto 4 dX12_count1_21 (by decide) ?_
    refine zS_sub [2, 1, 0] (show _ = [(0, .int _), (1, .int _), (2, .int _)] from rfl) ?_
    exact hk4 _ _ _

theorem sX12_count1_4 (v0 : Int32) (v1 : Int32) (v2 : Int32) (w : zWd) : zS gX12_count1 zEi 4 [(0, .int v0), (1, .int v1), (2, .int v2)] [] w (mX12_count1_4 v0 v1 v2 w) :=
  zS_loop (L := fun q : Int32 × Int32 × zWd => [(0, .int v0), (1, .int q.1), (2, .int q.2.1)]) (V := fun q => q.2.2) (T := fun _ => []) (F := fun k q => mX12_count1_4b v0 k q.1 q.2.1 q.2.2) (fun k hk q => sX12_count1_4b v0 k q.1 q.2.1 (fun a1 a2 w => hk (a1, a2, w)) q.2.2) zFU (v1, v2, w)
set_option maxHeartbeats 4000000 in
set_option maxRecDepth 100000 in
theorem sX12_count1 (v0 : Int32) (w : zWd) : zS gX12_count1 zEi 0 [(0, .int v0)] [] w (mX12_count1 v0 w) := by
  unfold mX12_count1
  refine zS_iconst 1 rfl (0 : Int32) (by decide) dX12_count1_0 ?_
  refine zS_istore_n 2 rfl dX12_count1_1 (by show 1 < 3; decide) (show _ = [(1, .int _), (0, .int _)] from rfl) ?_
  refine zS_iconst 3 rfl (0 : Int32) (by decide) dX12_count1_2 ?_
  refine zS_istore_n 4 rfl dX12_count1_3 (by show 2 < 3; decide) (show _ = [(2, .int _), (1, .int _), (0, .int _)] from rfl) ?_
  refine zS_sub [2, 1, 0] (show _ = [(0, .int _), (1, .int _), (2, .int _)] from rfl) ?_
  exact sX12_count1_4 _ _ _ _

theorem okX12_count1 (v0 : Int32) (w : zWd) : zOk gX12_count1 zEi [.int v0] w (mX12_count1 v0 w) := zOk_of (by decide) rfl (Nat.le_of_ble_eq_true rfl) (sX12_count1 v0 w)
abbrev gX12_explains : zMth := (yX12_explains, cX12_explains, 9, (some .boolean), 3, zE0)
theorem cbX12_explains : zCbV yX12_explains cX12_explains 9 (some .boolean) 3 := ⟨zw1450, zw70, zw89, zw1451, by decide, by decide, by decide +kernel⟩
set_option maxHeartbeats 4000000 in
set_option maxRecDepth 100000 in
theorem sX12_explains_175 (k6 : Int32 × Int32 × zWd → Option (Int32 × zWd)) (v0 : Nat) (v1 : Int32) (v2 : Int32) (v3 : Int32) (v4 : Int32) (v5 : Int32) (hk6 : ∀ (v4 : Int32) (v5 : Int32) (w : zWd), zS gX12_explains zEi 6 [(0, .ref v0), (1, .int v1), (2, .int v2), (3, .int v3), (4, .int v4), (5, .int v5)] [] w (k6 (v4, v5, w))) (h0 : zShp v0 = (12, 25)) (w : zWd) : zS gX12_explains zEi 175 [(0, .ref v0), (1, .int v1), (2, .int v2), (3, .int v3), (4, .int v4), (5, .int v5)] [] w (mX12_explains_175 k6 v0 v1 v2 v3 v4 v5 w) := by
  unfold mX12_explains_175
  refine zS_iinc 178 rfl 5 (_ + (1 : Int32)) dX12_explains_175 rfl (by show 5 < 9; decide) rfl (show _ = [(5, .int _), (0, .ref _), (1, .int _), (2, .int _), (3, .int _), (4, .int _)] from rfl) ?_
  refine zS_goto 6 dX12_explains_178 (by decide) ?_
  refine zS_sub [1, 2, 3, 4, 5, 0] (show _ = [(0, .ref _), (1, .int _), (2, .int _), (3, .int _), (4, .int _), (5, .int _)] from rfl) ?_
  exact hk6 _ _ _

set_option maxHeartbeats 4000000 in
set_option maxRecDepth 100000 in
theorem sX12_explains_173 (k6 : Int32 × Int32 × zWd → Option (Int32 × zWd)) (v0 : Nat) (v1 : Int32) (v2 : Int32) (v3 : Int32) (v5 : Int32) (s0 : Int32) (hk6 : ∀ (v4 : Int32) (v5 : Int32) (w : zWd), zS gX12_explains zEi 6 [(0, .ref v0), (1, .int v1), (2, .int v2), (3, .int v3), (4, .int v4), (5, .int v5)] [] w (k6 (v4, v5, w))) (h0 : zShp v0 = (12, 25)) (w : zWd) : zS gX12_explains zEi 173 [(0, .ref v0), (1, .int v1), (2, .int v2), (3, .int v3), (5, .int v5)] [.int s0] w (mX12_explains_173 k6 v0 v1 v2 v3 v5 s0 w) := by
  unfold mX12_explains_173
  refine zS_istore 175 rfl dX12_explains_173 (by show 4 < 9; decide) (show _ = [(4, .int _), (0, .ref _), (1, .int _), (2, .int _), (3, .int _), (5, .int _)] from rfl) ?_
  refine zS_sub [1, 2, 3, 4, 0, 5] (show _ = [(0, .ref _), (1, .int _), (2, .int _), (3, .int _), (4, .int _), (5, .int _)] from rfl) ?_
  exact sX12_explains_175 k6 _ _ _ _ _ _ hk6 h0 _

set_option maxHeartbeats 4000000 in
set_option maxRecDepth 100000 in
theorem sX12_explains_172 (k6 : Int32 × Int32 × zWd → Option (Int32 × zWd)) (v0 : Nat) (v1 : Int32) (v2 : Int32) (v3 : Int32) (v5 : Int32) (hk6 : ∀ (v4 : Int32) (v5 : Int32) (w : zWd), zS gX12_explains zEi 6 [(0, .ref v0), (1, .int v1), (2, .int v2), (3, .int v3), (4, .int v4), (5, .int v5)] [] w (k6 (v4, v5, w))) (h0 : zShp v0 = (12, 25)) (w : zWd) : zS gX12_explains zEi 172 [(0, .ref v0), (1, .int v1), (2, .int v2), (3, .int v3), (5, .int v5)] [] w (mX12_explains_172 k6 v0 v1 v2 v3 v5 w) := by
  unfold mX12_explains_172
  refine zS_iconst 173 rfl (0 : Int32) (by decide) dX12_explains_172 ?_
  exact sX12_explains_173 k6 _ _ _ _ _ _ hk6 h0 _

set_option maxHeartbeats 4000000 in
set_option maxRecDepth 100000 in
theorem sX12_explains_133 (k6 : Int32 × Int32 × zWd → Option (Int32 × zWd)) (k38 : Int32 × Int32 × zWd → Option (Int32 × zWd)) (v0 : Nat) (v1 : Int32) (v2 : Int32) (v3 : Int32) (v4 : Int32) (v5 : Int32) (v7 : Int32) (s0 : Int32) (s1 : Int32) (hk6 : ∀ (v4 : Int32) (v5 : Int32) (w : zWd), zS gX12_explains zEi 6 [(0, .ref v0), (1, .int v1), (2, .int v2), (3, .int v3), (4, .int v4), (5, .int v5)] [] w (k6 (v4, v5, w))) (hk38 : ∀ (v6 : Int32) (v7 : Int32) (w : zWd), zS gX12_explains zEi 38 [(0, .ref v0), (1, .int v1), (2, .int v2), (3, .int v3), (4, .int v4), (5, .int v5), (6, .int v6), (7, .int v7)] [] w (k38 (v6, v7, w))) (h0 : zShp v0 = (12, 25)) (w : zWd) : zS gX12_explains zEi 133 [(0, .ref v0), (1, .int v1), (2, .int v2), (3, .int v3), (4, .int v4), (5, .int v5), (7, .int v7)] [.int s0, .int s1] w (mX12_explains_133 k6 k38 v0 v1 v2 v3 v4 v5 v7 s0 s1 w) := by
  unfold mX12_explains_133
  refine zS_iadd 134 rfl dX12_explains_133 ?_
  refine zS_bni (fun x3 => ?_)
  refine zS_istore 136 rfl dX12_explains_134 (by show 6 < 9; decide) (show _ = [(6, .int _), (0, .ref _), (1, .int _), (2, .int _), (3, .int _), (4, .int _), (5, .int _), (7, .int _)] from rfl) ?_
  refine zS_iinc 139 rfl 7 (_ + (1 : Int32)) dX12_explains_136 rfl (by show 7 < 9; decide) rfl (show _ = [(7, .int _), (6, .int _), (0, .ref _), (1, .int _), (2, .int _), (3, .int _), (4, .int _), (5, .int _)] from rfl) ?_
  refine zS_goto 38 dX12_explains_139 (by decide) ?_
  refine zS_sub [2, 3, 4, 5, 6, 7, 1, 0] (show _ = [(0, .ref _), (1, .int _), (2, .int _), (3, .int _), (4, .int _), (5, .int _), (6, .int _), (7, .int _)] from rfl) ?_
  exact hk38 _ _ _

set_option maxHeartbeats 4000000 in
set_option maxRecDepth 100000 in
theorem sX12_explains_71 (k6 : Int32 × Int32 × zWd → Option (Int32 × zWd)) (k38 : Int32 × Int32 × zWd → Option (Int32 × zWd)) (v0 : Nat) (v1 : Int32) (v2 : Int32) (v3 : Int32) (v4 : Int32) (v5 : Int32) (v6 : Int32) (v7 : Int32) (s0 : Int32) (hk6 : ∀ (v4 : Int32) (v5 : Int32) (w : zWd), zS gX12_explains zEi 6 [(0, .ref v0), (1, .int v1), (2, .int v2), (3, .int v3), (4, .int v4), (5, .int v5)] [] w (k6 (v4, v5, w))) (hk38 : ∀ (v6 : Int32) (v7 : Int32) (w : zWd), zS gX12_explains zEi 38 [(0, .ref v0), (1, .int v1), (2, .int v2), (3, .int v3), (4, .int v4), (5, .int v5), (6, .int v6), (7, .int v7)] [] w (k38 (v6, v7, w))) (h0 : zShp v0 = (12, 25)) (w : zWd) : zS gX12_explains zEi 71 [(0, .ref v0), (1, .int v1), (2, .int v2), (3, .int v3), (4, .int v4), (5, .int v5), (6, .int v6), (7, .int v7)] [.int s0] w (mX12_explains_71 k6 k38 v0 v1 v2 v3 v4 v5 v6 v7 s0 w) := by
  unfold mX12_explains_71
  refine zS_istore 73 rfl dX12_explains_71 (by show 8 < 9; decide) (show _ = [(8, .int _), (0, .ref _), (1, .int _), (2, .int _), (3, .int _), (4, .int _), (5, .int _), (6, .int _), (7, .int _)] from rfl) ?_
  refine zS_iload 75 rfl 7 rfl dX12_explains_73 ?_
  refine zS_iload 77 rfl 0 rfl dX12_explains_75 ?_
  refine zS_if_eq 132 80 rfl dX12_explains_77 (by decide) ?_ ?_
  · refine zS_iconst 133 rfl (0 : Int32) (by decide) dX12_explains_132 ?_
    refine zS_sub [1, 2, 3, 4, 5, 6, 8] (show _ = [(0, .ref _), (1, .int _), (2, .int _), (3, .int _), (4, .int _), (5, .int _), (7, .int _)] from rfl) ?_
    exact sX12_explains_133 k6 k38 _ _ _ _ _ _ _ _ _ hk6 hk38 h0 _
  · refine zS_aload_n 81 rfl 1 rfl dX12_explains_80 ?_
    refine zS_getfp 84 rfl 1 dX12_explains_81 zC12 zw1113 (by decide) rfl h0 ?_
    refine zS_sipush 87 rfl (164 : Int32) (by decide) dX12_explains_84 ?_
    refine zS_aload_n 88 rfl 1 rfl dX12_explains_87 ?_
    refine zS_getfp 91 rfl 22 dX12_explains_88 zC12 zw1134 (by decide) rfl h0 ?_
    refine zS_iload 93 rfl 8 rfl dX12_explains_91 ?_
    refine zS_iald 94 rfl dX12_explains_93 (zP12_bores h0) ?_
    refine zS_iadd 95 rfl dX12_explains_94 ?_
    refine zS_iald 96 rfl dX12_explains_95 (zP12_s h0) ?_
    refine zS_aload_n 97 rfl 1 rfl dX12_explains_96 ?_
    refine zS_getfp 100 rfl 1 dX12_explains_97 zC12 zw1113 (by decide) rfl h0 ?_
    refine zS_sipush 103 rfl (152 : Int32) (by decide) dX12_explains_100 ?_
    refine zS_aload_n 104 rfl 1 rfl dX12_explains_103 ?_
    refine zS_getfp 107 rfl 22 dX12_explains_104 zC12 zw1134 (by decide) rfl h0 ?_
    refine zS_iload 109 rfl 8 rfl dX12_explains_107 ?_
    refine zS_iald 110 rfl dX12_explains_109 (zP12_bores h0) ?_
    refine zS_iadd 111 rfl dX12_explains_110 ?_
    refine zS_iald 112 rfl dX12_explains_111 (zP12_s h0) ?_
    refine zS_aload_n 113 rfl 1 rfl dX12_explains_112 ?_
    refine zS_getfp 116 rfl 1 dX12_explains_113 zC12 zw1113 (by decide) rfl h0 ?_
    refine zS_sipush 119 rfl (152 : Int32) (by decide) dX12_explains_116 ?_
    refine zS_iload 121 rfl 6 rfl dX12_explains_119 ?_
    refine zS_iadd 122 rfl dX12_explains_121 ?_
    refine zS_iald 123 rfl dX12_explains_122 (zP12_s h0) ?_
    refine zS_cSi (as := [.int _, .int _]) (st := [.int _, .int _]) (g' := gX12_apart) 126 rfl (okX12_apart _ _ _) dX12_explains_123 zw1259 cbX12_apart rfl rfl (by decide) (Nat.le_of_ble_eq_true rfl) (fun r4 w5 => ?_)
    refine zS_iconst 127 rfl (1 : Int32) (by decide) dX12_explains_126 ?_
    refine zS_iadd 128 rfl dX12_explains_127 ?_
    refine zS_idiv 129 rfl dX12_explains_128 ?_
    refine zS_goto 133 dX12_explains_129 (by decide) ?_
    refine zS_sub [1, 2, 3, 4, 5, 6, 8] (show _ = [(0, .ref _), (1, .int _), (2, .int _), (3, .int _), (4, .int _), (5, .int _), (7, .int _)] from rfl) ?_
    exact sX12_explains_133 k6 k38 _ _ _ _ _ _ _ _ _ hk6 hk38 h0 _

set_option maxHeartbeats 4000000 in
set_option maxRecDepth 100000 in
theorem sX12_explains_70 (k6 : Int32 × Int32 × zWd → Option (Int32 × zWd)) (k38 : Int32 × Int32 × zWd → Option (Int32 × zWd)) (v0 : Nat) (v1 : Int32) (v2 : Int32) (v3 : Int32) (v4 : Int32) (v5 : Int32) (v6 : Int32) (v7 : Int32) (hk6 : ∀ (v4 : Int32) (v5 : Int32) (w : zWd), zS gX12_explains zEi 6 [(0, .ref v0), (1, .int v1), (2, .int v2), (3, .int v3), (4, .int v4), (5, .int v5)] [] w (k6 (v4, v5, w))) (hk38 : ∀ (v6 : Int32) (v7 : Int32) (w : zWd), zS gX12_explains zEi 38 [(0, .ref v0), (1, .int v1), (2, .int v2), (3, .int v3), (4, .int v4), (5, .int v5), (6, .int v6), (7, .int v7)] [] w (k38 (v6, v7, w))) (h0 : zShp v0 = (12, 25)) (w : zWd) : zS gX12_explains zEi 70 [(0, .ref v0), (1, .int v1), (2, .int v2), (3, .int v3), (4, .int v4), (5, .int v5), (6, .int v6), (7, .int v7)] [] w (mX12_explains_70 k6 k38 v0 v1 v2 v3 v4 v5 v6 v7 w) := by
  unfold mX12_explains_70
  refine zS_iconst 71 rfl (0 : Int32) (by decide) dX12_explains_70 ?_
  exact sX12_explains_71 k6 k38 _ _ _ _ _ _ _ _ _ hk6 hk38 h0 _

set_option maxHeartbeats 4000000 in
set_option maxRecDepth 100000 in
theorem sX12_explains_38b (k6 : Int32 × Int32 × zWd → Option (Int32 × zWd)) (v0 : Nat) (v1 : Int32) (v2 : Int32) (v3 : Int32) (v4 : Int32) (v5 : Int32) (k38 : Int32 × Int32 × zWd → Option (Int32 × zWd)) (v6 : Int32) (v7 : Int32) (hk6 : ∀ (v4 : Int32) (v5 : Int32) (w : zWd), zS gX12_explains zEi 6 [(0, .ref v0), (1, .int v1), (2, .int v2), (3, .int v3), (4, .int v4), (5, .int v5)] [] w (k6 (v4, v5, w))) (hk38 : ∀ (v6 : Int32) (v7 : Int32) (w : zWd), zS gX12_explains zEi 38 [(0, .ref v0), (1, .int v1), (2, .int v2), (3, .int v3), (4, .int v4), (5, .int v5), (6, .int v6), (7, .int v7)] [] w (k38 (v6, v7, w))) (h0 : zShp v0 = (12, 25)) (w : zWd) : zS gX12_explains zEi 38 [(0, .ref v0), (1, .int v1), (2, .int v2), (3, .int v3), (4, .int v4), (5, .int v5), (6, .int v6), (7, .int v7)] [] w (mX12_explains_38b k6 v0 v1 v2 v3 v4 v5 k38 v6 v7 w) := by
  unfold mX12_explains_38b
  refine zS_iload 40 rfl 7 rfl dX12_explains_38 ?_
  refine zS_iload_n 41 rfl 2 rfl dX12_explains_40 ?_
  refine zS_icmp_ge 142 44 rfl dX12_explains_41 (by decide) ?_ ?_
  · refine zS_iload 144 rfl 4 rfl dX12_explains_142 ?_
    refine zS_if_eq 172 147 rfl dX12_explains_144 (by decide) ?_ ?_
    · refine zS_sub [0, 1, 2, 3, 5] (show _ = [(0, .ref _), (1, .int _), (2, .int _), (3, .int _), (5, .int _)] from rfl) ?_
      exact sX12_explains_172 k6 _ _ _ _ _ hk6 h0 _
    · refine zS_iload 149 rfl 6 rfl dX12_explains_147 ?_
      refine zS_aload_n 150 rfl 0 rfl dX12_explains_149 ?_
      refine zS_getfp 153 rfl 1 dX12_explains_150 zC12 zw1113 (by decide) rfl h0 ?_
      refine zS_sipush 156 rfl (2570 : Int32) (by decide) dX12_explains_153 ?_
      refine zS_iload 158 rfl 5 rfl dX12_explains_156 ?_
      refine zS_iadd 159 rfl dX12_explains_158 ?_
      refine zS_iald 160 rfl dX12_explains_159 (zP12_s h0) ?_
      refine zS_isub 161 rfl dX12_explains_160 ?_
      refine zS_cSi (as := [.int _]) (st := []) (g' := gX12_size) 164 rfl (okX12_size _ _) dX12_explains_161 zw1262 cbX12_size rfl rfl (by decide) (Nat.le_of_ble_eq_true rfl) (fun r1 w2 => ?_)
      refine zS_iload_n 165 rfl 3 rfl dX12_explains_164 ?_
      refine zS_icmp_gt 172 168 rfl dX12_explains_165 (by decide) ?_ ?_
      · refine zS_sub [0, 1, 2, 3, 5] (show _ = [(0, .ref _), (1, .int _), (2, .int _), (3, .int _), (5, .int _)] from rfl) ?_
        exact sX12_explains_172 k6 _ _ _ _ _ hk6 h0 _
      · refine zS_iconst 169 rfl (1 : Int32) (by decide) dX12_explains_168 ?_
        refine zS_goto 173 dX12_explains_169 (by decide) ?_
        refine zS_sub [0, 1, 2, 3, 5] (show _ = [(0, .ref _), (1, .int _), (2, .int _), (3, .int _), (5, .int _)] from rfl) ?_
        exact sX12_explains_173 k6 _ _ _ _ _ _ hk6 h0 _
  · refine zS_iload_n 45 rfl 1 rfl dX12_explains_44 ?_
    refine zS_iload 47 rfl 7 rfl dX12_explains_45 ?_
    refine zS_ishr 48 rfl dX12_explains_47 ?_
    refine zS_iconst 49 rfl (1 : Int32) (by decide) dX12_explains_48 ?_
    refine zS_iand 50 rfl dX12_explains_49 ?_
    refine zS_iconst 51 rfl (1 : Int32) (by decide) dX12_explains_50 ?_
    refine zS_icmp_ne 70 54 rfl dX12_explains_51 (by decide) ?_ ?_
    · refine zS_aload_n 55 rfl 0 rfl dX12_explains_54 ?_
      refine zS_getfp 58 rfl 22 dX12_explains_55 zC12 zw1134 (by decide) rfl h0 ?_
      refine zS_iload 60 rfl 7 rfl dX12_explains_58 ?_
      refine zS_iald 61 rfl dX12_explains_60 (zP12_bores h0) ?_
      refine zS_iload 63 rfl 5 rfl dX12_explains_61 ?_
      refine zS_icmp_eq 70 66 rfl dX12_explains_63 (by decide) ?_ ?_
      · exact sX12_explains_70 k6 k38 _ _ _ _ _ _ _ _ hk6 hk38 h0 _
      · refine zS_iconst 67 rfl (1 : Int32) (by decide) dX12_explains_66 ?_
        refine zS_goto 71 dX12_explains_67 (by decide) ?_
        exact sX12_explains_71 k6 k38 _ _ _ _ _ _ _ _ _ hk6 hk38 h0 _
    · exact sX12_explains_70 k6 k38 _ _ _ _ _ _ _ _ hk6 hk38 h0 _

theorem sX12_explains_38 (k6 : Int32 × Int32 × zWd → Option (Int32 × zWd)) (v0 : Nat) (v1 : Int32) (v2 : Int32) (v3 : Int32) (v4 : Int32) (v5 : Int32) (v6 : Int32) (v7 : Int32) (hk6 : ∀ (v4 : Int32) (v5 : Int32) (w : zWd), zS gX12_explains zEi 6 [(0, .ref v0), (1, .int v1), (2, .int v2), (3, .int v3), (4, .int v4), (5, .int v5)] [] w (k6 (v4, v5, w))) (h0 : zShp v0 = (12, 25)) (w : zWd) : zS gX12_explains zEi 38 [(0, .ref v0), (1, .int v1), (2, .int v2), (3, .int v3), (4, .int v4), (5, .int v5), (6, .int v6), (7, .int v7)] [] w (mX12_explains_38 k6 v0 v1 v2 v3 v4 v5 v6 v7 w) :=
  zS_loop (L := fun q : Int32 × Int32 × zWd => [(0, .ref v0), (1, .int v1), (2, .int v2), (3, .int v3), (4, .int v4), (5, .int v5), (6, .int q.1), (7, .int q.2.1)]) (V := fun q => q.2.2) (T := fun _ => []) (F := fun k q => mX12_explains_38b k6 v0 v1 v2 v3 v4 v5 k q.1 q.2.1 q.2.2) (fun k hk q => sX12_explains_38b k6 v0 v1 v2 v3 v4 v5 k q.1 q.2.1 hk6 (fun a6 a7 w => hk (a6, a7, w)) h0 q.2.2) zFU (v6, v7, w)
set_option maxHeartbeats 4000000 in
set_option maxRecDepth 100000 in
theorem sX12_explains_6b (v0 : Nat) (v1 : Int32) (v2 : Int32) (v3 : Int32) (k6 : Int32 × Int32 × zWd → Option (Int32 × zWd)) (v4 : Int32) (v5 : Int32) (hk6 : ∀ (v4 : Int32) (v5 : Int32) (w : zWd), zS gX12_explains zEi 6 [(0, .ref v0), (1, .int v1), (2, .int v2), (3, .int v3), (4, .int v4), (5, .int v5)] [] w (k6 (v4, v5, w))) (h0 : zShp v0 = (12, 25)) (w : zWd) : zS gX12_explains zEi 6 [(0, .ref v0), (1, .int v1), (2, .int v2), (3, .int v3), (4, .int v4), (5, .int v5)] [] w (mX12_explains_6b v0 v1 v2 v3 k6 v4 v5 w) := by
  unfold mX12_explains_6b
  refine zS_iload 8 rfl 5 rfl dX12_explains_6 ?_
  refine zS_aload_n 9 rfl 0 rfl dX12_explains_8 ?_
  refine zS_getfp 12 rfl 1 dX12_explains_9 zC12 zw1113 (by decide) rfl h0 ?_
  refine zS_iconst 13 rfl (1 : Int32) (by decide) dX12_explains_12 ?_
  refine zS_iald 14 rfl dX12_explains_13 (zP12_s h0) ?_
  refine zS_icmp_ge 181 17 rfl dX12_explains_14 (by decide) ?_ ?_
  · refine zS_iload 183 rfl 4 rfl dX12_explains_181 ?_
    exact zS_retb dX12_explains_183 rfl
  · refine zS_aload_n 18 rfl 0 rfl dX12_explains_17 ?_
    refine zS_getfp 21 rfl 1 dX12_explains_18 zC12 zw1113 (by decide) rfl h0 ?_
    refine zS_sipush 24 rfl (2570 : Int32) (by decide) dX12_explains_21 ?_
    refine zS_iload 26 rfl 5 rfl dX12_explains_24 ?_
    refine zS_iadd 27 rfl dX12_explains_26 ?_
    refine zS_iald 28 rfl dX12_explains_27 (zP12_s h0) ?_
    refine zS_iconst 29 rfl (-1 : Int32) (by decide) dX12_explains_28 ?_
    refine zS_icmp_eq 175 32 rfl dX12_explains_29 (by decide) ?_ ?_
    · exact sX12_explains_175 k6 _ _ _ _ _ _ hk6 h0 _
    · refine zS_iconst 33 rfl (0 : Int32) (by decide) dX12_explains_32 ?_
      refine zS_istore 35 rfl dX12_explains_33 (by show 6 < 9; decide) (show _ = [(6, .int _), (0, .ref _), (1, .int _), (2, .int _), (3, .int _), (4, .int _), (5, .int _)] from rfl) ?_
      refine zS_iconst 36 rfl (0 : Int32) (by decide) dX12_explains_35 ?_
      refine zS_istore 38 rfl dX12_explains_36 (by show 7 < 9; decide) (show _ = [(7, .int _), (6, .int _), (0, .ref _), (1, .int _), (2, .int _), (3, .int _), (4, .int _), (5, .int _)] from rfl) ?_
      refine zS_sub [2, 3, 4, 5, 6, 7, 1, 0] (show _ = [(0, .ref _), (1, .int _), (2, .int _), (3, .int _), (4, .int _), (5, .int _), (6, .int _), (7, .int _)] from rfl) ?_
      exact sX12_explains_38 k6 _ _ _ _ _ _ _ _ hk6 h0 _

theorem sX12_explains_6 (v0 : Nat) (v1 : Int32) (v2 : Int32) (v3 : Int32) (v4 : Int32) (v5 : Int32) (h0 : zShp v0 = (12, 25)) (w : zWd) : zS gX12_explains zEi 6 [(0, .ref v0), (1, .int v1), (2, .int v2), (3, .int v3), (4, .int v4), (5, .int v5)] [] w (mX12_explains_6 v0 v1 v2 v3 v4 v5 w) :=
  zS_loop (L := fun q : Int32 × Int32 × zWd => [(0, .ref v0), (1, .int v1), (2, .int v2), (3, .int v3), (4, .int q.1), (5, .int q.2.1)]) (V := fun q => q.2.2) (T := fun _ => []) (F := fun k q => mX12_explains_6b v0 v1 v2 v3 k q.1 q.2.1 q.2.2) (fun k hk q => sX12_explains_6b v0 v1 v2 v3 k q.1 q.2.1 (fun a4 a5 w => hk (a4, a5, w)) h0 q.2.2) zFU (v4, v5, w)
set_option maxHeartbeats 4000000 in
set_option maxRecDepth 100000 in
theorem sX12_explains (v0 : Nat) (v1 : Int32) (v2 : Int32) (v3 : Int32) (h0 : zShp v0 = (12, 25)) (w : zWd) : zS gX12_explains zEi 0 [(0, .ref v0), (1, .int v1), (2, .int v2), (3, .int v3)] [] w (mX12_explains v0 v1 v2 v3 w) := by
  unfold mX12_explains
  refine zS_iconst 1 rfl (1 : Int32) (by decide) dX12_explains_0 ?_
  refine zS_istore 3 rfl dX12_explains_1 (by show 4 < 9; decide) (show _ = [(4, .int _), (0, .ref _), (1, .int _), (2, .int _), (3, .int _)] from rfl) ?_
  refine zS_iconst 4 rfl (0 : Int32) (by decide) dX12_explains_3 ?_
  refine zS_istore 6 rfl dX12_explains_4 (by show 5 < 9; decide) (show _ = [(5, .int _), (4, .int _), (0, .ref _), (1, .int _), (2, .int _), (3, .int _)] from rfl) ?_
  refine zS_sub [2, 3, 4, 5, 1, 0] (show _ = [(0, .ref _), (1, .int _), (2, .int _), (3, .int _), (4, .int _), (5, .int _)] from rfl) ?_
  exact sX12_explains_6 _ _ _ _ _ _ h0 _

theorem okX12_explains (v0 : Nat) (v1 : Int32) (v2 : Int32) (v3 : Int32) (w : zWd) (h0 : zShp v0 = (12, 25)) : zOk gX12_explains zEi [.ref v0, .int v1, .int v2, .int v3] w (mX12_explains v0 v1 v2 v3 w) := zOk_of (by decide) rfl (Nat.le_of_ble_eq_true rfl) (sX12_explains v0 v1 v2 v3 h0 w)
abbrev gX12_cause : zMth := (yX12_cause, cX12_cause, 8, (some .int), 4, zE0)
theorem cbX12_cause : zCbV yX12_cause cX12_cause 8 (some .int) 2 := ⟨zw1445, zw1446, zw89, zw1447, by decide, by decide, by decide +kernel⟩
set_option maxHeartbeats 4000000 in
set_option maxRecDepth 100000 in
theorem sX12_cause_204 (s0 : Int32) (w : zWd) : zS gX12_cause zEi 204 [] [.int s0] w (mX12_cause_204 s0 w) := by
  unfold mX12_cause_204
  exact zS_reti dX12_cause_204 rfl

set_option maxHeartbeats 4000000 in
set_option maxRecDepth 100000 in
theorem sX12_cause_197 (v4 : Int32) (w : zWd) : zS gX12_cause zEi 197 [(4, .int v4)] [] w (mX12_cause_197 v4 w) := by
  unfold mX12_cause_197
  refine zS_iload 199 rfl 0 rfl dX12_cause_197 ?_
  refine zS_goto 204 dX12_cause_199 (by decide) ?_
  refine zS_sub [] (show _ = [] from rfl) ?_
  exact sX12_cause_204 _ _

set_option maxHeartbeats 4000000 in
set_option maxRecDepth 100000 in
theorem sX12_cause_180 (k87 : Int32 × Int32 × Int32 × zWd → Option (Int32 × zWd)) (v0 : Nat) (v1 : Int32) (v2 : Int32) (v3 : Int32) (v4 : Int32) (v5 : Int32) (v6 : Int32) (hk87 : ∀ (v4 : Int32) (v5 : Int32) (v6 : Int32) (w : zWd), zS gX12_cause zEi 87 [(0, .ref v0), (1, .int v1), (2, .int v2), (3, .int v3), (4, .int v4), (5, .int v5), (6, .int v6)] [] w (k87 (v4, v5, v6, w))) (h0 : zShp v0 = (12, 25)) (w : zWd) : zS gX12_cause zEi 180 [(0, .ref v0), (1, .int v1), (2, .int v2), (3, .int v3), (4, .int v4), (5, .int v5), (6, .int v6)] [] w (mX12_cause_180 k87 v0 v1 v2 v3 v4 v5 v6 w) := by
  unfold mX12_cause_180
  refine zS_iinc 183 rfl 6 (_ + (1 : Int32)) dX12_cause_180 rfl (by show 6 < 8; decide) rfl (show _ = [(6, .int _), (0, .ref _), (1, .int _), (2, .int _), (3, .int _), (4, .int _), (5, .int _)] from rfl) ?_
  refine zS_goto 87 dX12_cause_183 (by decide) ?_
  refine zS_sub [1, 2, 3, 4, 5, 6, 0] (show _ = [(0, .ref _), (1, .int _), (2, .int _), (3, .int _), (4, .int _), (5, .int _), (6, .int _)] from rfl) ?_
  exact hk87 _ _ _ _

set_option maxHeartbeats 4000000 in
set_option maxRecDepth 100000 in
theorem sX12_cause_178 (k87 : Int32 × Int32 × Int32 × zWd → Option (Int32 × zWd)) (v0 : Nat) (v1 : Int32) (v2 : Int32) (v3 : Int32) (v5 : Int32) (v6 : Int32) (s0 : Int32) (hk87 : ∀ (v4 : Int32) (v5 : Int32) (v6 : Int32) (w : zWd), zS gX12_cause zEi 87 [(0, .ref v0), (1, .int v1), (2, .int v2), (3, .int v3), (4, .int v4), (5, .int v5), (6, .int v6)] [] w (k87 (v4, v5, v6, w))) (h0 : zShp v0 = (12, 25)) (w : zWd) : zS gX12_cause zEi 178 [(0, .ref v0), (1, .int v1), (2, .int v2), (3, .int v3), (5, .int v5), (6, .int v6)] [.int s0] w (mX12_cause_178 k87 v0 v1 v2 v3 v5 v6 s0 w) := by
  unfold mX12_cause_178
  refine zS_istore 180 rfl dX12_cause_178 (by show 4 < 8; decide) (show _ = [(4, .int _), (0, .ref _), (1, .int _), (2, .int _), (3, .int _), (5, .int _), (6, .int _)] from rfl) ?_
  refine zS_sub [1, 2, 3, 4, 0, 5, 6] (show _ = [(0, .ref _), (1, .int _), (2, .int _), (3, .int _), (4, .int _), (5, .int _), (6, .int _)] from rfl) ?_
  exact sX12_cause_180 k87 _ _ _ _ _ _ _ hk87 h0 _

set_option maxHeartbeats 4000000 in
set_option maxRecDepth 100000 in
theorem sX12_cause_164 (k87 : Int32 × Int32 × Int32 × zWd → Option (Int32 × zWd)) (v0 : Nat) (v1 : Int32) (v2 : Int32) (v3 : Int32) (v4 : Int32) (v6 : Int32) (v7 : Int32) (s0 : Int32) (hk87 : ∀ (v4 : Int32) (v5 : Int32) (v6 : Int32) (w : zWd), zS gX12_cause zEi 87 [(0, .ref v0), (1, .int v1), (2, .int v2), (3, .int v3), (4, .int v4), (5, .int v5), (6, .int v6)] [] w (k87 (v4, v5, v6, w))) (h0 : zShp v0 = (12, 25)) (w : zWd) : zS gX12_cause zEi 164 [(0, .ref v0), (1, .int v1), (2, .int v2), (3, .int v3), (4, .int v4), (6, .int v6), (7, .int v7)] [.int s0] w (mX12_cause_164 k87 v0 v1 v2 v3 v4 v6 v7 s0 w) := by
  unfold mX12_cause_164
  refine zS_istore 166 rfl dX12_cause_164 (by show 5 < 8; decide) (show _ = [(5, .int _), (0, .ref _), (1, .int _), (2, .int _), (3, .int _), (4, .int _), (6, .int _), (7, .int _)] from rfl) ?_
  refine zS_iload 168 rfl 7 rfl dX12_cause_166 ?_
  refine zS_if_eq 176 171 rfl dX12_cause_168 (by decide) ?_ ?_
  · refine zS_iload 178 rfl 5 rfl dX12_cause_176 ?_
    refine zS_sub [1, 2, 3, 4, 0, 6] (show _ = [(0, .ref _), (1, .int _), (2, .int _), (3, .int _), (5, .int _), (6, .int _)] from rfl) ?_
    exact sX12_cause_178 k87 _ _ _ _ _ _ _ hk87 h0 _
  · refine zS_iload 173 rfl 6 rfl dX12_cause_171 ?_
    refine zS_goto 178 dX12_cause_173 (by decide) ?_
    refine zS_sub [1, 2, 3, 4, 0, 6] (show _ = [(0, .ref _), (1, .int _), (2, .int _), (3, .int _), (5, .int _), (6, .int _)] from rfl) ?_
    exact sX12_cause_178 k87 _ _ _ _ _ _ _ hk87 h0 _

set_option maxHeartbeats 4000000 in
set_option maxRecDepth 100000 in
theorem sX12_cause_131 (k87 : Int32 × Int32 × Int32 × zWd → Option (Int32 × zWd)) (v0 : Nat) (v1 : Int32) (v2 : Int32) (v3 : Int32) (v4 : Int32) (v5 : Int32) (v6 : Int32) (s0 : Int32) (hk87 : ∀ (v4 : Int32) (v5 : Int32) (v6 : Int32) (w : zWd), zS gX12_cause zEi 87 [(0, .ref v0), (1, .int v1), (2, .int v2), (3, .int v3), (4, .int v4), (5, .int v5), (6, .int v6)] [] w (k87 (v4, v5, v6, w))) (h0 : zShp v0 = (12, 25)) (w : zWd) : zS gX12_cause zEi 131 [(0, .ref v0), (1, .int v1), (2, .int v2), (3, .int v3), (4, .int v4), (5, .int v5), (6, .int v6)] [.int s0] w (mX12_cause_131 k87 v0 v1 v2 v3 v4 v5 v6 s0 w) := by
  unfold mX12_cause_131
  refine zS_istore 133 rfl dX12_cause_131 (by show 7 < 8; decide) (show _ = [(7, .int _), (0, .ref _), (1, .int _), (2, .int _), (3, .int _), (4, .int _), (5, .int _), (6, .int _)] from rfl) ?_
  refine zS_iload 135 rfl 0 rfl dX12_cause_133 ?_
  refine zS_if_eq 142 138 rfl dX12_cause_135 (by decide) ?_ ?_
  · refine zS_iload 144 rfl 7 rfl dX12_cause_142 ?_
    refine zS_cSi (as := [.int _]) (st := []) (g' := gX12_count1) 147 rfl (okX12_count1 _ _) dX12_cause_144 zw1452 cbX12_count1 rfl rfl (by decide) (Nat.le_of_ble_eq_true rfl) (fun r7 w8 => ?_)
    refine zS_iload 149 rfl 5 rfl dX12_cause_147 ?_
    refine zS_cSi (as := [.int _]) (st := [.int _]) (g' := gX12_count1) 152 rfl (okX12_count1 _ _) dX12_cause_149 zw1452 cbX12_count1 rfl rfl (by decide) (Nat.le_of_ble_eq_true rfl) (fun r9 w10 => ?_)
    refine zS_icmp_ne 162 155 rfl dX12_cause_152 (by decide) ?_ ?_
    · refine zS_iload 157 rfl 6 rfl dX12_cause_155 ?_
      refine zS_iconst 158 rfl (1 : Int32) (by decide) dX12_cause_157 ?_
      refine zS_iadd 159 rfl dX12_cause_158 ?_
      refine zS_goto 164 dX12_cause_159 (by decide) ?_
      refine zS_sub [1, 2, 3, 4, 5, 7, 0] (show _ = [(0, .ref _), (1, .int _), (2, .int _), (3, .int _), (4, .int _), (6, .int _), (7, .int _)] from rfl) ?_
      exact sX12_cause_164 k87 _ _ _ _ _ _ _ _ hk87 h0 _
    · refine zS_iload 164 rfl 6 rfl dX12_cause_162 ?_
      refine zS_sub [1, 2, 3, 4, 5, 7, 0] (show _ = [(0, .ref _), (1, .int _), (2, .int _), (3, .int _), (4, .int _), (6, .int _), (7, .int _)] from rfl) ?_
      exact sX12_cause_164 k87 _ _ _ _ _ _ _ _ hk87 h0 _
  · refine zS_iconst 139 rfl (1 : Int32) (by decide) dX12_cause_138 ?_
    refine zS_goto 164 dX12_cause_139 (by decide) ?_
    refine zS_sub [1, 2, 3, 4, 5, 7, 0] (show _ = [(0, .ref _), (1, .int _), (2, .int _), (3, .int _), (4, .int _), (6, .int _), (7, .int _)] from rfl) ?_
    exact sX12_cause_164 k87 _ _ _ _ _ _ _ _ hk87 h0 _

set_option maxHeartbeats 4000000 in
set_option maxRecDepth 100000 in
theorem sX12_cause_126 (k87 : Int32 × Int32 × Int32 × zWd → Option (Int32 × zWd)) (v0 : Nat) (v1 : Int32) (v2 : Int32) (v3 : Int32) (v4 : Int32) (v5 : Int32) (v6 : Int32) (hk87 : ∀ (v4 : Int32) (v5 : Int32) (v6 : Int32) (w : zWd), zS gX12_cause zEi 87 [(0, .ref v0), (1, .int v1), (2, .int v2), (3, .int v3), (4, .int v4), (5, .int v5), (6, .int v6)] [] w (k87 (v4, v5, v6, w))) (h0 : zShp v0 = (12, 25)) (w : zWd) : zS gX12_cause zEi 126 [(0, .ref v0), (1, .int v1), (2, .int v2), (3, .int v3), (4, .int v4), (5, .int v5), (6, .int v6)] [] w (mX12_cause_126 k87 v0 v1 v2 v3 v4 v5 v6 w) := by
  unfold mX12_cause_126
  refine zS_iconst 127 rfl (1 : Int32) (by decide) dX12_cause_126 ?_
  refine zS_goto 131 dX12_cause_127 (by decide) ?_
  exact sX12_cause_131 k87 _ _ _ _ _ _ _ _ hk87 h0 _

set_option maxHeartbeats 4000000 in
set_option maxRecDepth 100000 in
theorem sX12_cause_87b (v0 : Nat) (v1 : Int32) (v2 : Int32) (v3 : Int32) (k87 : Int32 × Int32 × Int32 × zWd → Option (Int32 × zWd)) (v4 : Int32) (v5 : Int32) (v6 : Int32) (hk87 : ∀ (v4 : Int32) (v5 : Int32) (v6 : Int32) (w : zWd), zS gX12_cause zEi 87 [(0, .ref v0), (1, .int v1), (2, .int v2), (3, .int v3), (4, .int v4), (5, .int v5), (6, .int v6)] [] w (k87 (v4, v5, v6, w))) (h0 : zShp v0 = (12, 25)) (w : zWd) : zS gX12_cause zEi 87 [(0, .ref v0), (1, .int v1), (2, .int v2), (3, .int v3), (4, .int v4), (5, .int v5), (6, .int v6)] [] w (mX12_cause_87b v0 v1 v2 v3 k87 v4 v5 v6 w) := by
  unfold mX12_cause_87b
  refine zS_iload 89 rfl 6 rfl dX12_cause_87 ?_
  refine zS_iconst 90 rfl (1 : Int32) (by decide) dX12_cause_89 ?_
  refine zS_iload_n 91 rfl 3 rfl dX12_cause_90 ?_
  refine zS_ishl 92 rfl dX12_cause_91 ?_
  refine zS_icmp_ge 186 95 rfl dX12_cause_92 (by decide) ?_ ?_
  · refine zS_iload 188 rfl 4 rfl dX12_cause_186 ?_
    refine zS_bipush 190 rfl (-5 : Int32) (by decide) dX12_cause_188 ?_
    refine zS_icmp_eq 197 193 rfl dX12_cause_190 (by decide) ?_ ?_
    · refine zS_sub [4] (show _ = [(4, .int _)] from rfl) ?_
      exact sX12_cause_197 _ _
    · refine zS_iload_n 194 rfl 2 rfl dX12_cause_193 ?_
      refine zS_if_ne 202 197 rfl dX12_cause_194 (by decide) ?_ ?_
      · refine zS_sub [4] (show _ = [(4, .int _)] from rfl) ?_
        exact sX12_cause_197 _ _
      · refine zS_iload 204 rfl 5 rfl dX12_cause_202 ?_
        refine zS_sub [] (show _ = [] from rfl) ?_
        exact sX12_cause_204 _ _
  · refine zS_aload_n 96 rfl 0 rfl dX12_cause_95 ?_
    refine zS_iload 98 rfl 6 rfl dX12_cause_96 ?_
    refine zS_iload_n 99 rfl 3 rfl dX12_cause_98 ?_
    refine zS_iload_n 100 rfl 1 rfl dX12_cause_99 ?_
    refine zS_cVi (as := [.int _, .int _, .int _]) (st := []) (g' := gX12_explains) 103 rfl (okX12_explains _ _ _ _ _ h0) dX12_cause_100 zC12 h0 zw1448 cbX12_explains rfl rfl (by decide) (Nat.le_of_ble_eq_true rfl) (fun r5 w6 => ?_)
    refine zS_if_eq 180 106 rfl dX12_cause_103 (by decide) ?_ ?_
    · exact sX12_cause_180 k87 _ _ _ _ _ _ _ hk87 h0 _
    · refine zS_iload 108 rfl 4 rfl dX12_cause_106 ?_
      refine zS_bipush 110 rfl (-5 : Int32) (by decide) dX12_cause_108 ?_
      refine zS_icmp_eq 126 113 rfl dX12_cause_110 (by decide) ?_ ?_
      · exact sX12_cause_126 k87 _ _ _ _ _ _ _ hk87 h0 _
      · refine zS_iload 115 rfl 6 rfl dX12_cause_113 ?_
        refine zS_cSi (as := [.int _]) (st := []) (g' := gX12_count1) 118 rfl (okX12_count1 _ _) dX12_cause_115 zw1452 cbX12_count1 rfl rfl (by decide) (Nat.le_of_ble_eq_true rfl) (fun r11 w12 => ?_)
        refine zS_iload 120 rfl 4 rfl dX12_cause_118 ?_
        refine zS_cSi (as := [.int _]) (st := [.int _]) (g' := gX12_count1) 123 rfl (okX12_count1 _ _) dX12_cause_120 zw1452 cbX12_count1 rfl rfl (by decide) (Nat.le_of_ble_eq_true rfl) (fun r13 w14 => ?_)
        refine zS_icmp_ge 130 126 rfl dX12_cause_123 (by decide) ?_ ?_
        · refine zS_iconst 131 rfl (0 : Int32) (by decide) dX12_cause_130 ?_
          exact sX12_cause_131 k87 _ _ _ _ _ _ _ _ hk87 h0 _
        · exact sX12_cause_126 k87 _ _ _ _ _ _ _ hk87 h0 _

theorem sX12_cause_87 (v0 : Nat) (v1 : Int32) (v2 : Int32) (v3 : Int32) (v4 : Int32) (v5 : Int32) (v6 : Int32) (h0 : zShp v0 = (12, 25)) (w : zWd) : zS gX12_cause zEi 87 [(0, .ref v0), (1, .int v1), (2, .int v2), (3, .int v3), (4, .int v4), (5, .int v5), (6, .int v6)] [] w (mX12_cause_87 v0 v1 v2 v3 v4 v5 v6 w) :=
  zS_loop (L := fun q : Int32 × Int32 × Int32 × zWd => [(0, .ref v0), (1, .int v1), (2, .int v2), (3, .int v3), (4, .int q.1), (5, .int q.2.1), (6, .int q.2.2.1)]) (V := fun q => q.2.2.2) (T := fun _ => []) (F := fun k q => mX12_cause_87b v0 v1 v2 v3 k q.1 q.2.1 q.2.2.1 q.2.2.2) (fun k hk q => sX12_cause_87b v0 v1 v2 v3 k q.1 q.2.1 q.2.2.1 (fun a4 a5 a6 w => hk (a4, a5, a6, w)) h0 q.2.2.2) zFU (v4, v5, v6, w)
set_option maxHeartbeats 4000000 in
set_option maxRecDepth 100000 in
theorem sX12_cause_77 (v0 : Nat) (v1 : Int32) (v2 : Int32) (v3 : Int32) (h0 : zShp v0 = (12, 25)) (w : zWd) : zS gX12_cause zEi 77 [(0, .ref v0), (1, .int v1), (2, .int v2), (3, .int v3)] [] w (mX12_cause_77 v0 v1 v2 v3 w) := by
  unfold mX12_cause_77
  refine zS_bipush 79 rfl (-5 : Int32) (by decide) dX12_cause_77 ?_
  refine zS_istore 81 rfl dX12_cause_79 (by show 4 < 8; decide) (show _ = [(4, .int _), (0, .ref _), (1, .int _), (2, .int _), (3, .int _)] from rfl) ?_
  refine zS_iconst 82 rfl (0 : Int32) (by decide) dX12_cause_81 ?_
  refine zS_istore 84 rfl dX12_cause_82 (by show 5 < 8; decide) (show _ = [(5, .int _), (4, .int _), (0, .ref _), (1, .int _), (2, .int _), (3, .int _)] from rfl) ?_
  refine zS_iconst 85 rfl (0 : Int32) (by decide) dX12_cause_84 ?_
  refine zS_istore 87 rfl dX12_cause_85 (by show 6 < 8; decide) (show _ = [(6, .int _), (5, .int _), (4, .int _), (0, .ref _), (1, .int _), (2, .int _), (3, .int _)] from rfl) ?_
  refine zS_sub [3, 4, 5, 6, 2, 1, 0] (show _ = [(0, .ref _), (1, .int _), (2, .int _), (3, .int _), (4, .int _), (5, .int _), (6, .int _)] from rfl) ?_
  exact sX12_cause_87 _ _ _ _ _ _ _ h0 _

set_option maxHeartbeats 4000000 in
set_option maxRecDepth 100000 in
theorem sX12_cause_71 (k29 : Int32 × Int32 × zWd → Option (Int32 × zWd)) (v0 : Nat) (v1 : Int32) (v2 : Int32) (v3 : Int32) (v4 : Int32) (hk29 : ∀ (v3 : Int32) (v4 : Int32) (w : zWd), zS gX12_cause zEi 29 [(0, .ref v0), (1, .int v1), (2, .int v2), (3, .int v3), (4, .int v4)] [] w (k29 (v3, v4, w))) (h0 : zShp v0 = (12, 25)) (w : zWd) : zS gX12_cause zEi 71 [(0, .ref v0), (1, .int v1), (2, .int v2), (3, .int v3), (4, .int v4)] [] w (mX12_cause_71 k29 v0 v1 v2 v3 v4 w) := by
  unfold mX12_cause_71
  refine zS_iinc 74 rfl 4 (_ + (1 : Int32)) dX12_cause_71 rfl (by show 4 < 8; decide) rfl (show _ = [(4, .int _), (0, .ref _), (1, .int _), (2, .int _), (3, .int _)] from rfl) ?_
  refine zS_goto 29 dX12_cause_74 (by decide) ?_
  refine zS_sub [1, 2, 3, 4, 0] (show _ = [(0, .ref _), (1, .int _), (2, .int _), (3, .int _), (4, .int _)] from rfl) ?_
  exact hk29 _ _ _

set_option maxHeartbeats 4000000 in
set_option maxRecDepth 100000 in
theorem sX12_cause_29b (v0 : Nat) (v1 : Int32) (v2 : Int32) (k29 : Int32 × Int32 × zWd → Option (Int32 × zWd)) (v3 : Int32) (v4 : Int32) (hk29 : ∀ (v3 : Int32) (v4 : Int32) (w : zWd), zS gX12_cause zEi 29 [(0, .ref v0), (1, .int v1), (2, .int v2), (3, .int v3), (4, .int v4)] [] w (k29 (v3, v4, w))) (h0 : zShp v0 = (12, 25)) (w : zWd) : zS gX12_cause zEi 29 [(0, .ref v0), (1, .int v1), (2, .int v2), (3, .int v3), (4, .int v4)] [] w (mX12_cause_29b v0 v1 v2 k29 v3 v4 w) := by
  unfold mX12_cause_29b
  refine zS_iload 31 rfl 4 rfl dX12_cause_29 ?_
  refine zS_aload_n 32 rfl 0 rfl dX12_cause_31 ?_
  refine zS_getfp 35 rfl 1 dX12_cause_32 zC12 zw1113 (by decide) rfl h0 ?_
  refine zS_iconst 36 rfl (1 : Int32) (by decide) dX12_cause_35 ?_
  refine zS_iald 37 rfl dX12_cause_36 (zP12_s h0) ?_
  refine zS_icmp_ge 77 40 rfl dX12_cause_37 (by decide) ?_ ?_
  · refine zS_sub [0, 1, 2, 3] (show _ = [(0, .ref _), (1, .int _), (2, .int _), (3, .int _)] from rfl) ?_
    exact sX12_cause_77 _ _ _ _ h0 _
  · refine zS_iload_n 41 rfl 3 rfl dX12_cause_40 ?_
    refine zS_bipush 43 rfl (8 : Int32) (by decide) dX12_cause_41 ?_
    refine zS_icmp_ge 77 46 rfl dX12_cause_43 (by decide) ?_ ?_
    · refine zS_sub [0, 1, 2, 3] (show _ = [(0, .ref _), (1, .int _), (2, .int _), (3, .int _)] from rfl) ?_
      exact sX12_cause_77 _ _ _ _ h0 _
    · refine zS_aload_n 47 rfl 0 rfl dX12_cause_46 ?_
      refine zS_getfp 50 rfl 1 dX12_cause_47 zC12 zw1113 (by decide) rfl h0 ?_
      refine zS_sipush 53 rfl (140 : Int32) (by decide) dX12_cause_50 ?_
      refine zS_iload 55 rfl 4 rfl dX12_cause_53 ?_
      refine zS_iadd 56 rfl dX12_cause_55 ?_
      refine zS_iald 57 rfl dX12_cause_56 (zP12_s h0) ?_
      refine zS_if_eq 71 60 rfl dX12_cause_57 (by decide) ?_ ?_
      · exact sX12_cause_71 k29 _ _ _ _ _ hk29 h0 _
      · refine zS_aload_n 61 rfl 0 rfl dX12_cause_60 ?_
        refine zS_getfp 64 rfl 22 dX12_cause_61 zC12 zw1134 (by decide) rfl h0 ?_
        refine zS_iload_n 65 rfl 3 rfl dX12_cause_64 ?_
        refine zS_iload 67 rfl 4 rfl dX12_cause_65 ?_
        refine zS_iast 68 rfl dX12_cause_67 (zP12_bores h0) ?_
        refine zS_bnw (fun w15 => ?_)
        refine zS_iinc 71 rfl 3 (_ + (1 : Int32)) dX12_cause_68 rfl (by show 3 < 8; decide) rfl (show _ = [(3, .int _), (0, .ref _), (1, .int _), (2, .int _), (4, .int _)] from rfl) ?_
        refine zS_sub [1, 2, 3, 0, 4] (show _ = [(0, .ref _), (1, .int _), (2, .int _), (3, .int _), (4, .int _)] from rfl) ?_
        exact sX12_cause_71 k29 _ _ _ _ _ hk29 h0 _

theorem sX12_cause_29 (v0 : Nat) (v1 : Int32) (v2 : Int32) (v3 : Int32) (v4 : Int32) (h0 : zShp v0 = (12, 25)) (w : zWd) : zS gX12_cause zEi 29 [(0, .ref v0), (1, .int v1), (2, .int v2), (3, .int v3), (4, .int v4)] [] w (mX12_cause_29 v0 v1 v2 v3 v4 w) :=
  zS_loop (L := fun q : Int32 × Int32 × zWd => [(0, .ref v0), (1, .int v1), (2, .int v2), (3, .int q.1), (4, .int q.2.1)]) (V := fun q => q.2.2) (T := fun _ => []) (F := fun k q => mX12_cause_29b v0 v1 v2 k q.1 q.2.1 q.2.2) (fun k hk q => sX12_cause_29b v0 v1 v2 k q.1 q.2.1 (fun a3 a4 w => hk (a3, a4, w)) h0 q.2.2) zFU (v3, v4, w)
set_option maxHeartbeats 4000000 in
set_option maxRecDepth 100000 in
theorem sX12_cause (v0 : Nat) (v1 : Int32) (v2 : Int32) (h0 : zShp v0 = (12, 25)) (w : zWd) : zS gX12_cause zEi 0 [(0, .ref v0), (1, .int v1), (2, .int v2)] [] w (mX12_cause v0 v1 v2 w) := by
  unfold mX12_cause
  refine zS_iload_n 1 rfl 2 rfl dX12_cause_0 ?_
  refine zS_iconst 2 rfl (0 : Int32) (by decide) dX12_cause_1 ?_
  refine zS_iconst 3 rfl (1 : Int32) (by decide) dX12_cause_2 ?_
  refine zS_cSi (as := [.int _, .int _, .int _]) (st := []) (g' := gX12_in) 6 rfl (okX12_in _ _ _ _) dX12_cause_3 zw1196 cbX12_in rfl rfl (by decide) (Nat.le_of_ble_eq_true rfl) (fun r1 w2 => ?_)
  refine zS_if_ne 11 9 rfl dX12_cause_6 (by decide) ?_ ?_
  · refine zS_iconst 10 rfl (-1 : Int32) (by decide) dX12_cause_9 ?_
    exact zS_reti dX12_cause_10 rfl
  · refine zS_iload_n 12 rfl 1 rfl dX12_cause_11 ?_
    refine zS_iconst 13 rfl (0 : Int32) (by decide) dX12_cause_12 ?_
    refine zS_bipush 15 rfl (99 : Int32) (by decide) dX12_cause_13 ?_
    refine zS_cSi (as := [.int _, .int _, .int _]) (st := []) (g' := gX12_in) 18 rfl (okX12_in _ _ _ _) dX12_cause_15 zw1196 cbX12_in rfl rfl (by decide) (Nat.le_of_ble_eq_true rfl) (fun r3 w4 => ?_)
    refine zS_if_ne 24 21 rfl dX12_cause_18 (by decide) ?_ ?_
    · refine zS_bipush 23 rfl (-2 : Int32) (by decide) dX12_cause_21 ?_
      exact zS_reti dX12_cause_23 rfl
    · refine zS_iconst 25 rfl (0 : Int32) (by decide) dX12_cause_24 ?_
      refine zS_istore_n 26 rfl dX12_cause_25 (by show 3 < 8; decide) (show _ = [(3, .int _), (0, .ref _), (1, .int _), (2, .int _)] from rfl) ?_
      refine zS_iconst 27 rfl (0 : Int32) (by decide) dX12_cause_26 ?_
      refine zS_istore 29 rfl dX12_cause_27 (by show 4 < 8; decide) (show _ = [(4, .int _), (3, .int _), (0, .ref _), (1, .int _), (2, .int _)] from rfl) ?_
      refine zS_sub [2, 3, 4, 1, 0] (show _ = [(0, .ref _), (1, .int _), (2, .int _), (3, .int _), (4, .int _)] from rfl) ?_
      exact sX12_cause_29 _ _ _ _ _ h0 _

theorem okX12_cause (v0 : Nat) (v1 : Int32) (v2 : Int32) (w : zWd) (h0 : zShp v0 = (12, 25)) : zOk gX12_cause zEi [.ref v0, .int v1, .int v2] w (mX12_cause v0 v1 v2 w) := zOk_of (by decide) rfl (Nat.le_of_ble_eq_true rfl) (sX12_cause v0 v1 v2 h0 w)
abbrev gX12_keeps : zMth := (yX12_keeps, cX12_keeps, 2, none, 1, zE0)
theorem cbX12_keeps : zCbV yX12_keeps cX12_keeps 2 none 0 := ⟨zw1461, zw71, zw89, zw1462, by decide, by decide, by decide +kernel⟩
set_option maxHeartbeats 4000000 in
set_option maxRecDepth 100000 in
theorem sX12_keeps_31b (v0 : Nat) (k31 : Int32 × zWd → Option (Unit × zWd)) (v1 : Int32) (hk31 : ∀ (v1 : Int32) (w : zWd), zS gX12_keeps zEv 31 [(0, .ref v0), (1, .int v1)] [] w (k31 (v1, w))) (h0 : zShp v0 = (12, 25)) (w : zWd) : zS gX12_keeps zEv 31 [(0, .ref v0), (1, .int v1)] [] w (mX12_keeps_31b v0 k31 v1 w) := by
  unfold mX12_keeps_31b
  refine zS_iload_n 32 rfl 1 rfl dX12_keeps_31 ?_
  refine zS_bipush 34 rfl (12 : Int32) (by decide) dX12_keeps_32 ?_
  refine zS_icmp_ge 59 37 rfl dX12_keeps_34 (by decide) ?_ ?_
  · exact zS_retv dX12_keeps_59 rfl
  · refine zS_aload_n 38 rfl 0 rfl dX12_keeps_37 ?_
    refine zS_getfp 41 rfl 24 dX12_keeps_38 zC12 zw1136 (by decide) rfl h0 ?_
    refine zS_iload_n 42 rfl 1 rfl dX12_keeps_41 ?_
    refine zS_aload_n 43 rfl 0 rfl dX12_keeps_42 ?_
    refine zS_getfp 46 rfl 1 dX12_keeps_43 zC12 zw1113 (by decide) rfl h0 ?_
    refine zS_sipush 49 rfl (224 : Int32) (by decide) dX12_keeps_46 ?_
    refine zS_iload_n 50 rfl 1 rfl dX12_keeps_49 ?_
    refine zS_iadd 51 rfl dX12_keeps_50 ?_
    refine zS_iald 52 rfl dX12_keeps_51 (zP12_s h0) ?_
    refine zS_iast 53 rfl dX12_keeps_52 (zP12_keptScale h0) ?_
    refine zS_bnw (fun w1 => ?_)
    refine zS_iinc 56 rfl 1 (_ + (1 : Int32)) dX12_keeps_53 rfl (by show 1 < 2; decide) rfl (show _ = [(1, .int _), (0, .ref _)] from rfl) ?_
    refine zS_goto 31 dX12_keeps_56 (by decide) ?_
    refine zS_sub [1, 0] (show _ = [(0, .ref _), (1, .int _)] from rfl) ?_
    exact hk31 _ _

theorem sX12_keeps_31 (v0 : Nat) (v1 : Int32) (h0 : zShp v0 = (12, 25)) (w : zWd) : zS gX12_keeps zEv 31 [(0, .ref v0), (1, .int v1)] [] w (mX12_keeps_31 v0 v1 w) :=
  zS_loop (L := fun q : Int32 × zWd => [(0, .ref v0), (1, .int q.1)]) (V := fun q => q.2) (T := fun _ => []) (F := fun k q => mX12_keeps_31b v0 k q.1 q.2) (fun k hk q => sX12_keeps_31b v0 k q.1 (fun a1 w => hk (a1, w)) h0 q.2) zFU (v1, w)
set_option maxHeartbeats 4000000 in
set_option maxRecDepth 100000 in
theorem sX12_keeps_2b (v0 : Nat) (k2 : Int32 × zWd → Option (Unit × zWd)) (v1 : Int32) (hk2 : ∀ (v1 : Int32) (w : zWd), zS gX12_keeps zEv 2 [(0, .ref v0), (1, .int v1)] [] w (k2 (v1, w))) (h0 : zShp v0 = (12, 25)) (w : zWd) : zS gX12_keeps zEv 2 [(0, .ref v0), (1, .int v1)] [] w (mX12_keeps_2b v0 k2 v1 w) := by
  unfold mX12_keeps_2b
  refine zS_iload_n 3 rfl 1 rfl dX12_keeps_2 ?_
  refine zS_bipush 5 rfl (60 : Int32) (by decide) dX12_keeps_3 ?_
  refine zS_icmp_ge 29 8 rfl dX12_keeps_5 (by decide) ?_ ?_
  · refine zS_iconst 30 rfl (0 : Int32) (by decide) dX12_keeps_29 ?_
    refine zS_istore_n 31 rfl dX12_keeps_30 (by show 1 < 2; decide) (show _ = [(1, .int _), (0, .ref _)] from rfl) ?_
    refine zS_sub [1, 0] (show _ = [(0, .ref _), (1, .int _)] from rfl) ?_
    exact sX12_keeps_31 _ _ h0 _
  · refine zS_aload_n 9 rfl 0 rfl dX12_keeps_8 ?_
    refine zS_getfp 12 rfl 23 dX12_keeps_9 zC12 zw1135 (by decide) rfl h0 ?_
    refine zS_iload_n 13 rfl 1 rfl dX12_keeps_12 ?_
    refine zS_aload_n 14 rfl 0 rfl dX12_keeps_13 ?_
    refine zS_getfp 17 rfl 1 dX12_keeps_14 zC12 zw1113 (by decide) rfl h0 ?_
    refine zS_bipush 19 rfl (20 : Int32) (by decide) dX12_keeps_17 ?_
    refine zS_iload_n 20 rfl 1 rfl dX12_keeps_19 ?_
    refine zS_iadd 21 rfl dX12_keeps_20 ?_
    refine zS_iald 22 rfl dX12_keeps_21 (zP12_s h0) ?_
    refine zS_iast 23 rfl dX12_keeps_22 (zP12_keptUnder h0) ?_
    refine zS_bnw (fun w2 => ?_)
    refine zS_iinc 26 rfl 1 (_ + (1 : Int32)) dX12_keeps_23 rfl (by show 1 < 2; decide) rfl (show _ = [(1, .int _), (0, .ref _)] from rfl) ?_
    refine zS_goto 2 dX12_keeps_26 (by decide) ?_
    refine zS_sub [1, 0] (show _ = [(0, .ref _), (1, .int _)] from rfl) ?_
    exact hk2 _ _

theorem sX12_keeps_2 (v0 : Nat) (v1 : Int32) (h0 : zShp v0 = (12, 25)) (w : zWd) : zS gX12_keeps zEv 2 [(0, .ref v0), (1, .int v1)] [] w (mX12_keeps_2 v0 v1 w) :=
  zS_loop (L := fun q : Int32 × zWd => [(0, .ref v0), (1, .int q.1)]) (V := fun q => q.2) (T := fun _ => []) (F := fun k q => mX12_keeps_2b v0 k q.1 q.2) (fun k hk q => sX12_keeps_2b v0 k q.1 (fun a1 w => hk (a1, w)) h0 q.2) zFU (v1, w)
set_option maxHeartbeats 4000000 in
set_option maxRecDepth 100000 in
theorem sX12_keeps (v0 : Nat) (h0 : zShp v0 = (12, 25)) (w : zWd) : zS gX12_keeps zEv 0 [(0, .ref v0)] [] w (mX12_keeps v0 w) := by
  unfold mX12_keeps
  refine zS_iconst 1 rfl (0 : Int32) (by decide) dX12_keeps_0 ?_
  refine zS_istore_n 2 rfl dX12_keeps_1 (by show 1 < 2; decide) (show _ = [(1, .int _), (0, .ref _)] from rfl) ?_
  refine zS_sub [1, 0] (show _ = [(0, .ref _), (1, .int _)] from rfl) ?_
  exact sX12_keeps_2 _ _ h0 _

theorem okX12_keeps (v0 : Nat) (w : zWd) (h0 : zShp v0 = (12, 25)) : zOk gX12_keeps zEv [.ref v0] w (mX12_keeps v0 w) := zOk_of (by decide) rfl (Nat.le_of_ble_eq_true rfl) (sX12_keeps v0 h0 w)
abbrev gX12_givesBack : zMth := (yX12_givesBack, cX12_givesBack, 2, none, 1, zE0)
theorem cbX12_givesBack : zCbV yX12_givesBack cX12_givesBack 2 none 0 := ⟨zw1465, zw72, zw89, zw1466, by decide, by decide, by decide +kernel⟩
set_option maxHeartbeats 4000000 in
set_option maxRecDepth 100000 in
theorem sX12_givesBack_31b (v0 : Nat) (k31 : Int32 × zWd → Option (Unit × zWd)) (v1 : Int32) (hk31 : ∀ (v1 : Int32) (w : zWd), zS gX12_givesBack zEv 31 [(0, .ref v0), (1, .int v1)] [] w (k31 (v1, w))) (h0 : zShp v0 = (12, 25)) (w : zWd) : zS gX12_givesBack zEv 31 [(0, .ref v0), (1, .int v1)] [] w (mX12_givesBack_31b v0 k31 v1 w) := by
  unfold mX12_givesBack_31b
  refine zS_iload_n 32 rfl 1 rfl dX12_givesBack_31 ?_
  refine zS_bipush 34 rfl (12 : Int32) (by decide) dX12_givesBack_32 ?_
  refine zS_icmp_ge 59 37 rfl dX12_givesBack_34 (by decide) ?_ ?_
  · exact zS_retv dX12_givesBack_59 rfl
  · refine zS_aload_n 38 rfl 0 rfl dX12_givesBack_37 ?_
    refine zS_getfp 41 rfl 1 dX12_givesBack_38 zC12 zw1113 (by decide) rfl h0 ?_
    refine zS_sipush 44 rfl (224 : Int32) (by decide) dX12_givesBack_41 ?_
    refine zS_iload_n 45 rfl 1 rfl dX12_givesBack_44 ?_
    refine zS_iadd 46 rfl dX12_givesBack_45 ?_
    refine zS_aload_n 47 rfl 0 rfl dX12_givesBack_46 ?_
    refine zS_getfp 50 rfl 24 dX12_givesBack_47 zC12 zw1136 (by decide) rfl h0 ?_
    refine zS_iload_n 51 rfl 1 rfl dX12_givesBack_50 ?_
    refine zS_iald 52 rfl dX12_givesBack_51 (zP12_keptScale h0) ?_
    refine zS_iast 53 rfl dX12_givesBack_52 (zP12_s h0) ?_
    refine zS_bnw (fun w1 => ?_)
    refine zS_iinc 56 rfl 1 (_ + (1 : Int32)) dX12_givesBack_53 rfl (by show 1 < 2; decide) rfl (show _ = [(1, .int _), (0, .ref _)] from rfl) ?_
    refine zS_goto 31 dX12_givesBack_56 (by decide) ?_
    refine zS_sub [1, 0] (show _ = [(0, .ref _), (1, .int _)] from rfl) ?_
    exact hk31 _ _

theorem sX12_givesBack_31 (v0 : Nat) (v1 : Int32) (h0 : zShp v0 = (12, 25)) (w : zWd) : zS gX12_givesBack zEv 31 [(0, .ref v0), (1, .int v1)] [] w (mX12_givesBack_31 v0 v1 w) :=
  zS_loop (L := fun q : Int32 × zWd => [(0, .ref v0), (1, .int q.1)]) (V := fun q => q.2) (T := fun _ => []) (F := fun k q => mX12_givesBack_31b v0 k q.1 q.2) (fun k hk q => sX12_givesBack_31b v0 k q.1 (fun a1 w => hk (a1, w)) h0 q.2) zFU (v1, w)
set_option maxHeartbeats 4000000 in
set_option maxRecDepth 100000 in
theorem sX12_givesBack_2b (v0 : Nat) (k2 : Int32 × zWd → Option (Unit × zWd)) (v1 : Int32) (hk2 : ∀ (v1 : Int32) (w : zWd), zS gX12_givesBack zEv 2 [(0, .ref v0), (1, .int v1)] [] w (k2 (v1, w))) (h0 : zShp v0 = (12, 25)) (w : zWd) : zS gX12_givesBack zEv 2 [(0, .ref v0), (1, .int v1)] [] w (mX12_givesBack_2b v0 k2 v1 w) := by
  unfold mX12_givesBack_2b
  refine zS_iload_n 3 rfl 1 rfl dX12_givesBack_2 ?_
  refine zS_bipush 5 rfl (60 : Int32) (by decide) dX12_givesBack_3 ?_
  refine zS_icmp_ge 29 8 rfl dX12_givesBack_5 (by decide) ?_ ?_
  · refine zS_iconst 30 rfl (0 : Int32) (by decide) dX12_givesBack_29 ?_
    refine zS_istore_n 31 rfl dX12_givesBack_30 (by show 1 < 2; decide) (show _ = [(1, .int _), (0, .ref _)] from rfl) ?_
    refine zS_sub [1, 0] (show _ = [(0, .ref _), (1, .int _)] from rfl) ?_
    exact sX12_givesBack_31 _ _ h0 _
  · refine zS_aload_n 9 rfl 0 rfl dX12_givesBack_8 ?_
    refine zS_getfp 12 rfl 1 dX12_givesBack_9 zC12 zw1113 (by decide) rfl h0 ?_
    refine zS_bipush 14 rfl (20 : Int32) (by decide) dX12_givesBack_12 ?_
    refine zS_iload_n 15 rfl 1 rfl dX12_givesBack_14 ?_
    refine zS_iadd 16 rfl dX12_givesBack_15 ?_
    refine zS_aload_n 17 rfl 0 rfl dX12_givesBack_16 ?_
    refine zS_getfp 20 rfl 23 dX12_givesBack_17 zC12 zw1135 (by decide) rfl h0 ?_
    refine zS_iload_n 21 rfl 1 rfl dX12_givesBack_20 ?_
    refine zS_iald 22 rfl dX12_givesBack_21 (zP12_keptUnder h0) ?_
    refine zS_iast 23 rfl dX12_givesBack_22 (zP12_s h0) ?_
    refine zS_bnw (fun w2 => ?_)
    refine zS_iinc 26 rfl 1 (_ + (1 : Int32)) dX12_givesBack_23 rfl (by show 1 < 2; decide) rfl (show _ = [(1, .int _), (0, .ref _)] from rfl) ?_
    refine zS_goto 2 dX12_givesBack_26 (by decide) ?_
    refine zS_sub [1, 0] (show _ = [(0, .ref _), (1, .int _)] from rfl) ?_
    exact hk2 _ _

theorem sX12_givesBack_2 (v0 : Nat) (v1 : Int32) (h0 : zShp v0 = (12, 25)) (w : zWd) : zS gX12_givesBack zEv 2 [(0, .ref v0), (1, .int v1)] [] w (mX12_givesBack_2 v0 v1 w) :=
  zS_loop (L := fun q : Int32 × zWd => [(0, .ref v0), (1, .int q.1)]) (V := fun q => q.2) (T := fun _ => []) (F := fun k q => mX12_givesBack_2b v0 k q.1 q.2) (fun k hk q => sX12_givesBack_2b v0 k q.1 (fun a1 w => hk (a1, w)) h0 q.2) zFU (v1, w)
set_option maxHeartbeats 4000000 in
set_option maxRecDepth 100000 in
theorem sX12_givesBack (v0 : Nat) (h0 : zShp v0 = (12, 25)) (w : zWd) : zS gX12_givesBack zEv 0 [(0, .ref v0)] [] w (mX12_givesBack v0 w) := by
  unfold mX12_givesBack
  refine zS_iconst 1 rfl (0 : Int32) (by decide) dX12_givesBack_0 ?_
  refine zS_istore_n 2 rfl dX12_givesBack_1 (by show 1 < 2; decide) (show _ = [(1, .int _), (0, .ref _)] from rfl) ?_
  refine zS_sub [1, 0] (show _ = [(0, .ref _), (1, .int _)] from rfl) ?_
  exact sX12_givesBack_2 _ _ h0 _

theorem okX12_givesBack (v0 : Nat) (w : zWd) (h0 : zShp v0 = (12, 25)) : zOk gX12_givesBack zEv [.ref v0] w (mX12_givesBack v0 w) := zOk_of (by decide) rfl (Nat.le_of_ble_eq_true rfl) (sX12_givesBack v0 h0 w)
abbrev gX12_tire : zMth := (yX12_tire, cX12_tire, 5, (some .int), 4, zE0)
theorem cbX12_tire : zCbV yX12_tire cX12_tire 5 (some .int) 2 := ⟨zw1456, zw1457, zw89, zw1458, by decide, by decide, by decide +kernel⟩
set_option maxHeartbeats 4000000 in
set_option maxRecDepth 100000 in
theorem sX12_tire_95 (v0 : Nat) (v3 : Int32) (h0 : zShp v0 = (12, 25)) (w : zWd) : zS gX12_tire zEi 95 [(0, .ref v0), (3, .int v3)] [] w (mX12_tire_95 v0 v3 w) := by
  unfold mX12_tire_95
  refine zS_aload_n 96 rfl 0 rfl dX12_tire_95 ?_
  refine zS_cVv (as := []) (st := []) (g' := gX12_givesBack) 99 rfl (okX12_givesBack _ _ h0) dX12_tire_96 zC12 h0 zw1463 cbX12_givesBack rfl rfl (by decide) (Nat.le_of_ble_eq_true rfl) (fun r8 w9 => ?_)
  refine zS_iload_n 100 rfl 1 rfl dX12_tire_99 ?_
  exact zS_reti dX12_tire_100 rfl

set_option maxHeartbeats 4000000 in
set_option maxRecDepth 100000 in
theorem sX12_tire_88 (k39 : Int32 × Int32 × zWd → Option (Int32 × zWd)) (v0 : Nat) (v1 : Int32) (v2 : Int32) (v4 : Int32) (s0 : Int32) (hk39 : ∀ (v3 : Int32) (v4 : Int32) (w : zWd), zS gX12_tire zEi 39 [(0, .ref v0), (1, .int v1), (2, .int v2), (3, .int v3), (4, .int v4)] [] w (k39 (v3, v4, w))) (h0 : zShp v0 = (12, 25)) (w : zWd) : zS gX12_tire zEi 88 [(0, .ref v0), (1, .int v1), (2, .int v2), (4, .int v4)] [.int s0] w (mX12_tire_88 k39 v0 v1 v2 v4 s0 w) := by
  unfold mX12_tire_88
  refine zS_istore_n 89 rfl dX12_tire_88 (by show 3 < 5; decide) (show _ = [(3, .int _), (0, .ref _), (1, .int _), (2, .int _), (4, .int _)] from rfl) ?_
  refine zS_iinc 92 rfl 4 (_ + (1 : Int32)) dX12_tire_89 rfl (by show 4 < 5; decide) rfl (show _ = [(4, .int _), (3, .int _), (0, .ref _), (1, .int _), (2, .int _)] from rfl) ?_
  refine zS_goto 39 dX12_tire_92 (by decide) ?_
  refine zS_sub [2, 3, 4, 1, 0] (show _ = [(0, .ref _), (1, .int _), (2, .int _), (3, .int _), (4, .int _)] from rfl) ?_
  exact hk39 _ _ _

set_option maxHeartbeats 4000000 in
set_option maxRecDepth 100000 in
theorem sX12_tire_39b (v0 : Nat) (v1 : Int32) (v2 : Int32) (k39 : Int32 × Int32 × zWd → Option (Int32 × zWd)) (v3 : Int32) (v4 : Int32) (hk39 : ∀ (v3 : Int32) (v4 : Int32) (w : zWd), zS gX12_tire zEi 39 [(0, .ref v0), (1, .int v1), (2, .int v2), (3, .int v3), (4, .int v4)] [] w (k39 (v3, v4, w))) (h0 : zShp v0 = (12, 25)) (w : zWd) : zS gX12_tire zEi 39 [(0, .ref v0), (1, .int v1), (2, .int v2), (3, .int v3), (4, .int v4)] [] w (mX12_tire_39b v0 v1 v2 k39 v3 v4 w) := by
  unfold mX12_tire_39b
  refine zS_iload 41 rfl 4 rfl dX12_tire_39 ?_
  refine zS_sipush 44 rfl (400 : Int32) (by decide) dX12_tire_41 ?_
  refine zS_icmp_ge 95 47 rfl dX12_tire_44 (by decide) ?_ ?_
  · refine zS_sub [0, 3] (show _ = [(0, .ref _), (3, .int _)] from rfl) ?_
    exact sX12_tire_95 _ _ h0 _
  · refine zS_iload 49 rfl 4 rfl dX12_tire_47 ?_
    refine zS_aload_n 50 rfl 0 rfl dX12_tire_49 ?_
    refine zS_getfp 53 rfl 1 dX12_tire_50 zC12 zw1113 (by decide) rfl h0 ?_
    refine zS_iconst 54 rfl (0 : Int32) (by decide) dX12_tire_53 ?_
    refine zS_iald 55 rfl dX12_tire_54 (zP12_s h0) ?_
    refine zS_bipush 57 rfl (60 : Int32) (by decide) dX12_tire_55 ?_
    refine zS_iadd 58 rfl dX12_tire_57 ?_
    refine zS_icmp_ge 95 61 rfl dX12_tire_58 (by decide) ?_ ?_
    · refine zS_sub [0, 3] (show _ = [(0, .ref _), (3, .int _)] from rfl) ?_
      exact sX12_tire_95 _ _ h0 _
    · refine zS_iload_n 62 rfl 3 rfl dX12_tire_61 ?_
      refine zS_bipush 64 rfl (-5 : Int32) (by decide) dX12_tire_62 ?_
      refine zS_icmp_ne 95 67 rfl dX12_tire_64 (by decide) ?_ ?_
      · refine zS_aload_n 68 rfl 0 rfl dX12_tire_67 ?_
        refine zS_cVv (as := []) (st := []) (g' := gX12_flows) 71 rfl (okX12_flows _ _ h0) dX12_tire_68 zC12 h0 zw1281 cbX12_flows rfl rfl (by decide) (Nat.le_of_ble_eq_true rfl) (fun r10 w11 => ?_)
        refine zS_aload_n 72 rfl 0 rfl dX12_tire_71 ?_
        refine zS_getfp 75 rfl 6 dX12_tire_72 zC12 zw1118 (by decide) rfl h0 ?_
        refine zS_iload_n 76 rfl 1 rfl dX12_tire_75 ?_
        refine zS_iald 77 rfl dX12_tire_76 (zP12_comes h0) ?_
        refine zS_iload_n 78 rfl 2 rfl dX12_tire_77 ?_
        refine zS_icmp_ge 86 81 rfl dX12_tire_78 (by decide) ?_ ?_
        · refine zS_bipush 88 rfl (-5 : Int32) (by decide) dX12_tire_86 ?_
          refine zS_sub [0, 1, 2, 4] (show _ = [(0, .ref _), (1, .int _), (2, .int _), (4, .int _)] from rfl) ?_
          exact sX12_tire_88 k39 _ _ _ _ _ hk39 h0 _
        · refine zS_iload 83 rfl 4 rfl dX12_tire_81 ?_
          refine zS_goto 88 dX12_tire_83 (by decide) ?_
          refine zS_sub [0, 1, 2, 4] (show _ = [(0, .ref _), (1, .int _), (2, .int _), (4, .int _)] from rfl) ?_
          exact sX12_tire_88 k39 _ _ _ _ _ hk39 h0 _
      · refine zS_sub [0, 3] (show _ = [(0, .ref _), (3, .int _)] from rfl) ?_
        exact sX12_tire_95 _ _ h0 _

theorem sX12_tire_39 (v0 : Nat) (v1 : Int32) (v2 : Int32) (v3 : Int32) (v4 : Int32) (h0 : zShp v0 = (12, 25)) (w : zWd) : zS gX12_tire zEi 39 [(0, .ref v0), (1, .int v1), (2, .int v2), (3, .int v3), (4, .int v4)] [] w (mX12_tire_39 v0 v1 v2 v3 v4 w) :=
  zS_loop (L := fun q : Int32 × Int32 × zWd => [(0, .ref v0), (1, .int v1), (2, .int v2), (3, .int q.1), (4, .int q.2.1)]) (V := fun q => q.2.2) (T := fun _ => []) (F := fun k q => mX12_tire_39b v0 v1 v2 k q.1 q.2.1 q.2.2) (fun k hk q => sX12_tire_39b v0 v1 v2 k q.1 q.2.1 (fun a3 a4 w => hk (a3, a4, w)) h0 q.2.2) zFU (v3, v4, w)
set_option maxHeartbeats 4000000 in
set_option maxRecDepth 100000 in
theorem sX12_tire (v0 : Nat) (v1 : Int32) (v2 : Int32) (h0 : zShp v0 = (12, 25)) (w : zWd) : zS gX12_tire zEi 0 [(0, .ref v0), (1, .int v1), (2, .int v2)] [] w (mX12_tire v0 v1 v2 w) := by
  unfold mX12_tire
  refine zS_aload_n 1 rfl 0 rfl dX12_tire_0 ?_
  refine zS_iload_n 2 rfl 1 rfl dX12_tire_1 ?_
  refine zS_cVi (as := [.int _]) (st := []) (g' := gX12_isTap) 5 rfl (okX12_isTap _ _ _ h0) dX12_tire_2 zC12 h0 zw1269 cbX12_isTap rfl rfl (by decide) (Nat.le_of_ble_eq_true rfl) (fun r1 w2 => ?_)
  refine zS_if_ne 10 8 rfl dX12_tire_5 (by decide) ?_ ?_
  · refine zS_iconst 9 rfl (-1 : Int32) (by decide) dX12_tire_8 ?_
    exact zS_reti dX12_tire_9 rfl
  · refine zS_iload_n 11 rfl 2 rfl dX12_tire_10 ?_
    refine zS_iconst 12 rfl (1 : Int32) (by decide) dX12_tire_11 ?_
    refine zS_sipush 15 rfl (9999 : Int32) (by decide) dX12_tire_12 ?_
    refine zS_cSi (as := [.int _, .int _, .int _]) (st := []) (g' := gX12_in) 18 rfl (okX12_in _ _ _ _) dX12_tire_15 zw1196 cbX12_in rfl rfl (by decide) (Nat.le_of_ble_eq_true rfl) (fun r3 w4 => ?_)
    refine zS_if_ne 24 21 rfl dX12_tire_18 (by decide) ?_ ?_
    · refine zS_bipush 23 rfl (-2 : Int32) (by decide) dX12_tire_21 ?_
      exact zS_reti dX12_tire_23 rfl
    · refine zS_aload_n 25 rfl 0 rfl dX12_tire_24 ?_
      refine zS_cVv (as := []) (st := []) (g' := gX12_keeps) 28 rfl (okX12_keeps _ _ h0) dX12_tire_25 zC12 h0 zw1459 cbX12_keeps rfl rfl (by decide) (Nat.le_of_ble_eq_true rfl) (fun r5 w6 => ?_)
      refine zS_bipush 30 rfl (-5 : Int32) (by decide) dX12_tire_28 ?_
      refine zS_istore_n 31 rfl dX12_tire_30 (by show 3 < 5; decide) (show _ = [(3, .int _), (0, .ref _), (1, .int _), (2, .int _)] from rfl) ?_
      refine zS_aload_n 32 rfl 1 rfl dX12_tire_31 ?_
      refine zS_getfp 35 rfl 1 dX12_tire_32 zC12 zw1113 (by decide) rfl h0 ?_
      refine zS_iconst 36 rfl (0 : Int32) (by decide) dX12_tire_35 ?_
      refine zS_iald 37 rfl dX12_tire_36 (zP12_s h0) ?_
      refine zS_bni (fun x7 => ?_)
      refine zS_istore 39 rfl dX12_tire_37 (by show 4 < 5; decide) (show _ = [(4, .int _), (3, .int _), (0, .ref _), (1, .int _), (2, .int _)] from rfl) ?_
      refine zS_sub [2, 3, 4, 1, 0] (show _ = [(0, .ref _), (1, .int _), (2, .int _), (3, .int _), (4, .int _)] from rfl) ?_
      exact sX12_tire_39 _ _ _ _ _ h0 _

theorem okX12_tire (v0 : Nat) (v1 : Int32) (v2 : Int32) (w : zWd) (h0 : zShp v0 = (12, 25)) : zOk gX12_tire zEi [.ref v0, .int v1, .int v2] w (mX12_tire v0 v1 v2 w) := zOk_of (by decide) rfl (Nat.le_of_ble_eq_true rfl) (sX12_tire v0 v1 v2 h0 w)
abbrev gX12_shakes : zMth := (yX12_shakes, cX12_shakes, 3, (some .int), 1, zE0)
theorem cbX12_shakes : zCbV yX12_shakes cX12_shakes 3 (some .int) 0 := ⟨zw1473, zw73, zw89, zw1474, by decide, by decide, by decide +kernel⟩
set_option maxHeartbeats 4000000 in
set_option maxRecDepth 100000 in
theorem sX12_shakes_4b (v0 : Nat) (k4 : Int32 × Int32 × zWd → Option (Int32 × zWd)) (v1 : Int32) (v2 : Int32) (hk4 : ∀ (v1 : Int32) (v2 : Int32) (w : zWd), zS gX12_shakes zEi 4 [(0, .ref v0), (1, .int v1), (2, .int v2)] [] w (k4 (v1, v2, w))) (h0 : zShp v0 = (12, 25)) (w : zWd) : zS gX12_shakes zEi 4 [(0, .ref v0), (1, .int v1), (2, .int v2)] [] w (mX12_shakes_4b v0 k4 v1 v2 w) := by
  unfold mX12_shakes_4b
  refine zS_iload_n 5 rfl 2 rfl dX12_shakes_4 ?_
  refine zS_bipush 7 rfl (30 : Int32) (by decide) dX12_shakes_5 ?_
  refine zS_icmp_ge 29 10 rfl dX12_shakes_7 (by decide) ?_ ?_
  · refine zS_iload_n 30 rfl 1 rfl dX12_shakes_29 ?_
    exact zS_reti dX12_shakes_30 rfl
  · refine zS_iload_n 11 rfl 1 rfl dX12_shakes_10 ?_
    refine zS_aload_n 12 rfl 0 rfl dX12_shakes_11 ?_
    refine zS_getfp 15 rfl 1 dX12_shakes_12 zC12 zw1113 (by decide) rfl h0 ?_
    refine zS_sipush 18 rfl (2590 : Int32) (by decide) dX12_shakes_15 ?_
    refine zS_iload_n 19 rfl 2 rfl dX12_shakes_18 ?_
    refine zS_iadd 20 rfl dX12_shakes_19 ?_
    refine zS_iald 21 rfl dX12_shakes_20 (zP12_s h0) ?_
    refine zS_iadd 22 rfl dX12_shakes_21 ?_
    refine zS_bni (fun x1 => ?_)
    refine zS_istore_n 23 rfl dX12_shakes_22 (by show 1 < 3; decide) (show _ = [(1, .int _), (0, .ref _), (2, .int _)] from rfl) ?_
    refine zS_iinc 26 rfl 2 (_ + (1 : Int32)) dX12_shakes_23 rfl (by show 2 < 3; decide) rfl (show _ = [(2, .int _), (1, .int _), (0, .ref _)] from rfl) ?_
    refine zS_goto 4 dX12_shakes_26 (by decide) ?_
    refine zS_sub [2, 1, 0] (show _ = [(0, .ref _), (1, .int _), (2, .int _)] from rfl) ?_
    exact hk4 _ _ _

theorem sX12_shakes_4 (v0 : Nat) (v1 : Int32) (v2 : Int32) (h0 : zShp v0 = (12, 25)) (w : zWd) : zS gX12_shakes zEi 4 [(0, .ref v0), (1, .int v1), (2, .int v2)] [] w (mX12_shakes_4 v0 v1 v2 w) :=
  zS_loop (L := fun q : Int32 × Int32 × zWd => [(0, .ref v0), (1, .int q.1), (2, .int q.2.1)]) (V := fun q => q.2.2) (T := fun _ => []) (F := fun k q => mX12_shakes_4b v0 k q.1 q.2.1 q.2.2) (fun k hk q => sX12_shakes_4b v0 k q.1 q.2.1 (fun a1 a2 w => hk (a1, a2, w)) h0 q.2.2) zFU (v1, v2, w)
set_option maxHeartbeats 4000000 in
set_option maxRecDepth 100000 in
theorem sX12_shakes (v0 : Nat) (h0 : zShp v0 = (12, 25)) (w : zWd) : zS gX12_shakes zEi 0 [(0, .ref v0)] [] w (mX12_shakes v0 w) := by
  unfold mX12_shakes
  refine zS_iconst 1 rfl (0 : Int32) (by decide) dX12_shakes_0 ?_
  refine zS_istore_n 2 rfl dX12_shakes_1 (by show 1 < 3; decide) (show _ = [(1, .int _), (0, .ref _)] from rfl) ?_
  refine zS_iconst 3 rfl (0 : Int32) (by decide) dX12_shakes_2 ?_
  refine zS_istore_n 4 rfl dX12_shakes_3 (by show 2 < 3; decide) (show _ = [(2, .int _), (1, .int _), (0, .ref _)] from rfl) ?_
  refine zS_sub [2, 1, 0] (show _ = [(0, .ref _), (1, .int _), (2, .int _)] from rfl) ?_
  exact sX12_shakes_4 _ _ _ h0 _

theorem okX12_shakes (v0 : Nat) (w : zWd) (h0 : zShp v0 = (12, 25)) : zOk gX12_shakes zEi [.ref v0] w (mX12_shakes v0 w) := zOk_of (by decide) rfl (Nat.le_of_ble_eq_true rfl) (sX12_shakes v0 h0 w)
abbrev gX12_shake : zMth := (yX12_shake, cX12_shake, 3, (some .int), 3, zE0)
theorem cbX12_shake : zCbV yX12_shake cX12_shake 3 (some .int) 2 := ⟨zw1468, zw1469, zw89, zw1470, by decide, by decide, by decide +kernel⟩
set_option maxHeartbeats 4000000 in
set_option maxRecDepth 100000 in
theorem sX12_shake_50 (v0 : Nat) (v1 : Int32) (v2 : Int32) (h0 : zShp v0 = (12, 25)) (w : zWd) : zS gX12_shake zEi 50 [(0, .ref v0), (1, .int v1), (2, .int v2)] [] w (mX12_shake_50 v0 v1 v2 w) := by
  unfold mX12_shake_50
  refine zS_aload_n 51 rfl 0 rfl dX12_shake_50 ?_
  refine zS_getfp 54 rfl 1 dX12_shake_51 zC12 zw1113 (by decide) rfl h0 ?_
  refine zS_sipush 57 rfl (2590 : Int32) (by decide) dX12_shake_54 ?_
  refine zS_iload_n 58 rfl 1 rfl dX12_shake_57 ?_
  refine zS_iadd 59 rfl dX12_shake_58 ?_
  refine zS_iconst 60 rfl (1 : Int32) (by decide) dX12_shake_59 ?_
  refine zS_iast 61 rfl dX12_shake_60 (zP12_s h0) ?_
  refine zS_bnw (fun w7 => ?_)
  refine zS_aload_n 62 rfl 0 rfl dX12_shake_61 ?_
  refine zS_getfp 65 rfl 1 dX12_shake_62 zC12 zw1113 (by decide) rfl h0 ?_
  refine zS_sipush 68 rfl (2620 : Int32) (by decide) dX12_shake_65 ?_
  refine zS_iload_n 69 rfl 1 rfl dX12_shake_68 ?_
  refine zS_iadd 70 rfl dX12_shake_69 ?_
  refine zS_iload_n 71 rfl 2 rfl dX12_shake_70 ?_
  refine zS_iast 72 rfl dX12_shake_71 (zP12_s h0) ?_
  refine zS_bnw (fun w8 => ?_)
  refine zS_aload_n 73 rfl 0 rfl dX12_shake_72 ?_
  refine zS_cVi (as := []) (st := []) (g' := gX12_shakes) 76 rfl (okX12_shakes _ _ h0) dX12_shake_73 zC12 h0 zw1471 cbX12_shakes rfl rfl (by decide) (Nat.le_of_ble_eq_true rfl) (fun r9 w10 => ?_)
  exact zS_reti dX12_shake_76 rfl

set_option maxHeartbeats 4000000 in
set_option maxRecDepth 100000 in
theorem sX12_shake (v0 : Nat) (v1 : Int32) (v2 : Int32) (h0 : zShp v0 = (12, 25)) (w : zWd) : zS gX12_shake zEi 0 [(0, .ref v0), (1, .int v1), (2, .int v2)] [] w (mX12_shake v0 v1 v2 w) := by
  unfold mX12_shake
  refine zS_iload_n 1 rfl 1 rfl dX12_shake_0 ?_
  refine zS_cSi (as := [.int _]) (st := []) (g' := gX12_isCell) 4 rfl (okX12_isCell _ _) dX12_shake_1 zw1193 cbX12_isCell rfl rfl (by decide) (Nat.le_of_ble_eq_true rfl) (fun r1 w2 => ?_)
  refine zS_if_ne 9 7 rfl dX12_shake_4 (by decide) ?_ ?_
  · refine zS_iconst 8 rfl (-1 : Int32) (by decide) dX12_shake_7 ?_
    exact zS_reti dX12_shake_8 rfl
  · refine zS_iload_n 10 rfl 2 rfl dX12_shake_9 ?_
    refine zS_sipush 13 rfl (-999 : Int32) (by decide) dX12_shake_10 ?_
    refine zS_sipush 16 rfl (999 : Int32) (by decide) dX12_shake_13 ?_
    refine zS_cSi (as := [.int _, .int _, .int _]) (st := []) (g' := gX12_in) 19 rfl (okX12_in _ _ _ _) dX12_shake_16 zw1196 cbX12_in rfl rfl (by decide) (Nat.le_of_ble_eq_true rfl) (fun r3 w4 => ?_)
    refine zS_if_ne 25 22 rfl dX12_shake_19 (by decide) ?_ ?_
    · refine zS_bipush 24 rfl (-2 : Int32) (by decide) dX12_shake_22 ?_
      exact zS_reti dX12_shake_24 rfl
    · refine zS_aload_n 26 rfl 0 rfl dX12_shake_25 ?_
      refine zS_getfp 29 rfl 1 dX12_shake_26 zC12 zw1113 (by decide) rfl h0 ?_
      refine zS_sipush 32 rfl (2590 : Int32) (by decide) dX12_shake_29 ?_
      refine zS_iload_n 33 rfl 1 rfl dX12_shake_32 ?_
      refine zS_iadd 34 rfl dX12_shake_33 ?_
      refine zS_iald 35 rfl dX12_shake_34 (zP12_s h0) ?_
      refine zS_if_ne 50 38 rfl dX12_shake_35 (by decide) ?_ ?_
      · refine zS_aload_n 39 rfl 0 rfl dX12_shake_38 ?_
        refine zS_cVi (as := []) (st := []) (g' := gX12_shakes) 42 rfl (okX12_shakes _ _ h0) dX12_shake_39 zC12 h0 zw1471 cbX12_shakes rfl rfl (by decide) (Nat.le_of_ble_eq_true rfl) (fun r5 w6 => ?_)
        refine zS_bipush 44 rfl (6 : Int32) (by decide) dX12_shake_42 ?_
        refine zS_icmp_ne 50 47 rfl dX12_shake_44 (by decide) ?_ ?_
        · refine zS_bipush 49 rfl (-4 : Int32) (by decide) dX12_shake_47 ?_
          exact zS_reti dX12_shake_49 rfl
        · exact sX12_shake_50 _ _ _ h0 _
      · exact sX12_shake_50 _ _ _ h0 _

theorem okX12_shake (v0 : Nat) (v1 : Int32) (v2 : Int32) (w : zWd) (h0 : zShp v0 = (12, 25)) : zOk gX12_shake zEi [.ref v0, .int v1, .int v2] w (mX12_shake v0 v1 v2 w) := zOk_of (by decide) rfl (Nat.le_of_ble_eq_true rfl) (sX12_shake v0 v1 v2 h0 w)
abbrev gX12_push : zMth := (yX12_push, cX12_push, 3, (some .int), 3, zE0)
theorem cbX12_push : zCbV yX12_push cX12_push 3 (some .int) 2 := ⟨zw1476, zw1477, zw89, zw1478, by decide, by decide, by decide +kernel⟩
set_option maxHeartbeats 4000000 in
set_option maxRecDepth 100000 in
theorem sX12_push (v0 : Nat) (v1 : Int32) (v2 : Int32) (h0 : zShp v0 = (12, 25)) (w : zWd) : zS gX12_push zEi 0 [(0, .ref v0), (1, .int v1), (2, .int v2)] [] w (mX12_push v0 v1 v2 w) := by
  unfold mX12_push
  refine zS_iload_n 1 rfl 1 rfl dX12_push_0 ?_
  refine zS_cSi (as := [.int _]) (st := []) (g' := gX12_isCell) 4 rfl (okX12_isCell _ _) dX12_push_1 zw1193 cbX12_isCell rfl rfl (by decide) (Nat.le_of_ble_eq_true rfl) (fun r1 w2 => ?_)
  refine zS_if_ne 9 7 rfl dX12_push_4 (by decide) ?_ ?_
  · refine zS_iconst 8 rfl (-1 : Int32) (by decide) dX12_push_7 ?_
    exact zS_reti dX12_push_8 rfl
  · refine zS_iload_n 10 rfl 2 rfl dX12_push_9 ?_
    refine zS_bipush 12 rfl (-99 : Int32) (by decide) dX12_push_10 ?_
    refine zS_bipush 14 rfl (99 : Int32) (by decide) dX12_push_12 ?_
    refine zS_cSi (as := [.int _, .int _, .int _]) (st := []) (g' := gX12_in) 17 rfl (okX12_in _ _ _ _) dX12_push_14 zw1196 cbX12_in rfl rfl (by decide) (Nat.le_of_ble_eq_true rfl) (fun r3 w4 => ?_)
    refine zS_if_ne 23 20 rfl dX12_push_17 (by decide) ?_ ?_
    · refine zS_bipush 22 rfl (-2 : Int32) (by decide) dX12_push_20 ?_
      exact zS_reti dX12_push_22 rfl
    · refine zS_aload_n 24 rfl 0 rfl dX12_push_23 ?_
      refine zS_getfp 27 rfl 1 dX12_push_24 zC12 zw1113 (by decide) rfl h0 ?_
      refine zS_bipush 29 rfl (7 : Int32) (by decide) dX12_push_27 ?_
      refine zS_iald 30 rfl dX12_push_29 (zP12_s h0) ?_
      refine zS_bipush 32 rfl (6 : Int32) (by decide) dX12_push_30 ?_
      refine zS_icmp_ne 38 35 rfl dX12_push_32 (by decide) ?_ ?_
      · refine zS_bipush 37 rfl (-4 : Int32) (by decide) dX12_push_35 ?_
        exact zS_reti dX12_push_37 rfl
      · refine zS_aload_n 39 rfl 0 rfl dX12_push_38 ?_
        refine zS_getfp 42 rfl 1 dX12_push_39 zC12 zw1113 (by decide) rfl h0 ?_
        refine zS_sipush 45 rfl (2650 : Int32) (by decide) dX12_push_42 ?_
        refine zS_aload_n 46 rfl 0 rfl dX12_push_45 ?_
        refine zS_getfp 49 rfl 1 dX12_push_46 zC12 zw1113 (by decide) rfl h0 ?_
        refine zS_bipush 51 rfl (7 : Int32) (by decide) dX12_push_49 ?_
        refine zS_iald 52 rfl dX12_push_51 (zP12_s h0) ?_
        refine zS_iadd 53 rfl dX12_push_52 ?_
        refine zS_iload_n 54 rfl 1 rfl dX12_push_53 ?_
        refine zS_iast 55 rfl dX12_push_54 (zP12_s h0) ?_
        refine zS_bnw (fun w5 => ?_)
        refine zS_aload_n 56 rfl 0 rfl dX12_push_55 ?_
        refine zS_getfp 59 rfl 1 dX12_push_56 zC12 zw1113 (by decide) rfl h0 ?_
        refine zS_sipush 62 rfl (2660 : Int32) (by decide) dX12_push_59 ?_
        refine zS_aload_n 63 rfl 0 rfl dX12_push_62 ?_
        refine zS_getfp 66 rfl 1 dX12_push_63 zC12 zw1113 (by decide) rfl h0 ?_
        refine zS_bipush 68 rfl (7 : Int32) (by decide) dX12_push_66 ?_
        refine zS_iald 69 rfl dX12_push_68 (zP12_s h0) ?_
        refine zS_iadd 70 rfl dX12_push_69 ?_
        refine zS_iload_n 71 rfl 2 rfl dX12_push_70 ?_
        refine zS_iast 72 rfl dX12_push_71 (zP12_s h0) ?_
        refine zS_bnw (fun w6 => ?_)
        refine zS_aload_n 73 rfl 0 rfl dX12_push_72 ?_
        refine zS_getfp 76 rfl 1 dX12_push_73 zC12 zw1113 (by decide) rfl h0 ?_
        refine zS_bipush 78 rfl (7 : Int32) (by decide) dX12_push_76 ?_
        refine zS_dup2 79 rfl rfl rfl dX12_push_78 ?_
        refine zS_iald 80 rfl dX12_push_79 (zP12_s h0) ?_
        refine zS_iconst 81 rfl (1 : Int32) (by decide) dX12_push_80 ?_
        refine zS_iadd 82 rfl dX12_push_81 ?_
        refine zS_iast 83 rfl dX12_push_82 (zP12_s h0) ?_
        refine zS_bnw (fun w7 => ?_)
        refine zS_aload_n 84 rfl 0 rfl dX12_push_83 ?_
        refine zS_getfp 87 rfl 1 dX12_push_84 zC12 zw1113 (by decide) rfl h0 ?_
        refine zS_bipush 89 rfl (7 : Int32) (by decide) dX12_push_87 ?_
        refine zS_iald 90 rfl dX12_push_89 (zP12_s h0) ?_
        exact zS_reti dX12_push_90 rfl

theorem okX12_push (v0 : Nat) (v1 : Int32) (v2 : Int32) (w : zWd) (h0 : zShp v0 = (12, 25)) : zOk gX12_push zEi [.ref v0, .int v1, .int v2] w (mX12_push v0 v1 v2 w) := zOk_of (by decide) rfl (Nat.le_of_ble_eq_true rfl) (sX12_push v0 v1 v2 h0 w)
abbrev gX12_shook : zMth := (yX12_shook, cX12_shook, 8, (some .boolean), 3, zE0)
theorem cbX12_shook : zCbV yX12_shook cX12_shook 8 (some .boolean) 1 := ⟨zw1485, zw74, zw89, zw1486, by decide, by decide, by decide +kernel⟩
set_option maxHeartbeats 4000000 in
set_option maxRecDepth 100000 in
theorem sX12_shook_154 (k4 : Int32 × Int32 × zWd → Option (Int32 × zWd)) (v0 : Nat) (v1 : Int32) (v3 : Int32) (s0 : Int32) (hk4 : ∀ (v2 : Int32) (v3 : Int32) (w : zWd), zS gX12_shook zEi 4 [(0, .ref v0), (1, .int v1), (2, .int v2), (3, .int v3)] [] w (k4 (v2, v3, w))) (h0 : zShp v0 = (12, 25)) (w : zWd) : zS gX12_shook zEi 154 [(0, .ref v0), (1, .int v1), (3, .int v3)] [.int s0] w (mX12_shook_154 k4 v0 v1 v3 s0 w) := by
  unfold mX12_shook_154
  refine zS_istore_n 155 rfl dX12_shook_154 (by show 2 < 8; decide) (show _ = [(2, .int _), (0, .ref _), (1, .int _), (3, .int _)] from rfl) ?_
  refine zS_iinc 158 rfl 3 (_ + (1 : Int32)) dX12_shook_155 rfl (by show 3 < 8; decide) rfl (show _ = [(3, .int _), (2, .int _), (0, .ref _), (1, .int _)] from rfl) ?_
  refine zS_goto 4 dX12_shook_158 (by decide) ?_
  refine zS_sub [2, 3, 1, 0] (show _ = [(0, .ref _), (1, .int _), (2, .int _), (3, .int _)] from rfl) ?_
  exact hk4 _ _ _

set_option maxHeartbeats 4000000 in
set_option maxRecDepth 100000 in
theorem sX12_shook_153 (k4 : Int32 × Int32 × zWd → Option (Int32 × zWd)) (v0 : Nat) (v1 : Int32) (v3 : Int32) (hk4 : ∀ (v2 : Int32) (v3 : Int32) (w : zWd), zS gX12_shook zEi 4 [(0, .ref v0), (1, .int v1), (2, .int v2), (3, .int v3)] [] w (k4 (v2, v3, w))) (h0 : zShp v0 = (12, 25)) (w : zWd) : zS gX12_shook zEi 153 [(0, .ref v0), (1, .int v1), (3, .int v3)] [] w (mX12_shook_153 k4 v0 v1 v3 w) := by
  unfold mX12_shook_153
  refine zS_iconst 154 rfl (0 : Int32) (by decide) dX12_shook_153 ?_
  exact sX12_shook_154 k4 _ _ _ _ hk4 h0 _

set_option maxHeartbeats 4000000 in
set_option maxRecDepth 100000 in
theorem sX12_shook_149 (k4 : Int32 × Int32 × zWd → Option (Int32 × zWd)) (v0 : Nat) (v1 : Int32) (v3 : Int32) (hk4 : ∀ (v2 : Int32) (v3 : Int32) (w : zWd), zS gX12_shook zEi 4 [(0, .ref v0), (1, .int v1), (2, .int v2), (3, .int v3)] [] w (k4 (v2, v3, w))) (h0 : zShp v0 = (12, 25)) (w : zWd) : zS gX12_shook zEi 149 [(0, .ref v0), (1, .int v1), (3, .int v3)] [] w (mX12_shook_149 k4 v0 v1 v3 w) := by
  unfold mX12_shook_149
  refine zS_iconst 150 rfl (1 : Int32) (by decide) dX12_shook_149 ?_
  refine zS_goto 154 dX12_shook_150 (by decide) ?_
  exact sX12_shook_154 k4 _ _ _ _ hk4 h0 _

set_option maxHeartbeats 4000000 in
set_option maxRecDepth 100000 in
theorem sX12_shook_108 (k4 : Int32 × Int32 × zWd → Option (Int32 × zWd)) (k16 : Int32 × Int32 × zWd → Option (Int32 × zWd)) (v0 : Nat) (v1 : Int32) (v2 : Int32) (v3 : Int32) (v5 : Int32) (s0 : Int32) (s1 : Int32) (hk4 : ∀ (v2 : Int32) (v3 : Int32) (w : zWd), zS gX12_shook zEi 4 [(0, .ref v0), (1, .int v1), (2, .int v2), (3, .int v3)] [] w (k4 (v2, v3, w))) (hk16 : ∀ (v4 : Int32) (v5 : Int32) (w : zWd), zS gX12_shook zEi 16 [(0, .ref v0), (1, .int v1), (2, .int v2), (3, .int v3), (4, .int v4), (5, .int v5)] [] w (k16 (v4, v5, w))) (h0 : zShp v0 = (12, 25)) (w : zWd) : zS gX12_shook zEi 108 [(0, .ref v0), (1, .int v1), (2, .int v2), (3, .int v3), (5, .int v5)] [.int s0, .int s1] w (mX12_shook_108 k4 k16 v0 v1 v2 v3 v5 s0 s1 w) := by
  unfold mX12_shook_108
  refine zS_iadd 109 rfl dX12_shook_108 ?_
  refine zS_bni (fun x3 => ?_)
  refine zS_istore 111 rfl dX12_shook_109 (by show 4 < 8; decide) (show _ = [(4, .int _), (0, .ref _), (1, .int _), (2, .int _), (3, .int _), (5, .int _)] from rfl) ?_
  refine zS_iinc 114 rfl 5 (_ + (1 : Int32)) dX12_shook_111 rfl (by show 5 < 8; decide) rfl (show _ = [(5, .int _), (4, .int _), (0, .ref _), (1, .int _), (2, .int _), (3, .int _)] from rfl) ?_
  refine zS_goto 16 dX12_shook_114 (by decide) ?_
  refine zS_sub [2, 3, 4, 5, 1, 0] (show _ = [(0, .ref _), (1, .int _), (2, .int _), (3, .int _), (4, .int _), (5, .int _)] from rfl) ?_
  exact hk16 _ _ _

set_option maxHeartbeats 4000000 in
set_option maxRecDepth 100000 in
theorem sX12_shook_88 (k4 : Int32 × Int32 × zWd → Option (Int32 × zWd)) (k16 : Int32 × Int32 × zWd → Option (Int32 × zWd)) (v0 : Nat) (v1 : Int32) (v2 : Int32) (v3 : Int32) (v4 : Int32) (v5 : Int32) (s0 : Int32) (hk4 : ∀ (v2 : Int32) (v3 : Int32) (w : zWd), zS gX12_shook zEi 4 [(0, .ref v0), (1, .int v1), (2, .int v2), (3, .int v3)] [] w (k4 (v2, v3, w))) (hk16 : ∀ (v4 : Int32) (v5 : Int32) (w : zWd), zS gX12_shook zEi 16 [(0, .ref v0), (1, .int v1), (2, .int v2), (3, .int v3), (4, .int v4), (5, .int v5)] [] w (k16 (v4, v5, w))) (h0 : zShp v0 = (12, 25)) (w : zWd) : zS gX12_shook zEi 88 [(0, .ref v0), (1, .int v1), (2, .int v2), (3, .int v3), (4, .int v4), (5, .int v5)] [.int s0] w (mX12_shook_88 k4 k16 v0 v1 v2 v3 v4 v5 s0 w) := by
  unfold mX12_shook_88
  refine zS_istore 90 rfl dX12_shook_88 (by show 7 < 8; decide) (show _ = [(7, .int _), (0, .ref _), (1, .int _), (2, .int _), (3, .int _), (4, .int _), (5, .int _)] from rfl) ?_
  refine zS_iload 92 rfl 5 rfl dX12_shook_90 ?_
  refine zS_iload_n 93 rfl 2 rfl dX12_shook_92 ?_
  refine zS_iload 95 rfl 6 rfl dX12_shook_93 ?_
  refine zS_ishr 96 rfl dX12_shook_95 ?_
  refine zS_iconst 97 rfl (1 : Int32) (by decide) dX12_shook_96 ?_
  refine zS_iand 98 rfl dX12_shook_97 ?_
  refine zS_iconst 99 rfl (1 : Int32) (by decide) dX12_shook_98 ?_
  refine zS_icmp_ne 107 102 rfl dX12_shook_99 (by decide) ?_ ?_
  · refine zS_iload 104 rfl 0 rfl dX12_shook_102 ?_
    refine zS_goto 108 dX12_shook_104 (by decide) ?_
    refine zS_sub [1, 2, 3, 4, 6] (show _ = [(0, .ref _), (1, .int _), (2, .int _), (3, .int _), (5, .int _)] from rfl) ?_
    exact sX12_shook_108 k4 k16 _ _ _ _ _ _ _ hk4 hk16 h0 _
  · refine zS_iconst 108 rfl (0 : Int32) (by decide) dX12_shook_107 ?_
    refine zS_sub [1, 2, 3, 4, 6] (show _ = [(0, .ref _), (1, .int _), (2, .int _), (3, .int _), (5, .int _)] from rfl) ?_
    exact sX12_shook_108 k4 k16 _ _ _ _ _ _ _ hk4 hk16 h0 _

set_option maxHeartbeats 4000000 in
set_option maxRecDepth 100000 in
theorem sX12_shook_16b (k4 : Int32 × Int32 × zWd → Option (Int32 × zWd)) (v0 : Nat) (v1 : Int32) (v2 : Int32) (v3 : Int32) (k16 : Int32 × Int32 × zWd → Option (Int32 × zWd)) (v4 : Int32) (v5 : Int32) (hk4 : ∀ (v2 : Int32) (v3 : Int32) (w : zWd), zS gX12_shook zEi 4 [(0, .ref v0), (1, .int v1), (2, .int v2), (3, .int v3)] [] w (k4 (v2, v3, w))) (hk16 : ∀ (v4 : Int32) (v5 : Int32) (w : zWd), zS gX12_shook zEi 16 [(0, .ref v0), (1, .int v1), (2, .int v2), (3, .int v3), (4, .int v4), (5, .int v5)] [] w (k16 (v4, v5, w))) (h0 : zShp v0 = (12, 25)) (w : zWd) : zS gX12_shook zEi 16 [(0, .ref v0), (1, .int v1), (2, .int v2), (3, .int v3), (4, .int v4), (5, .int v5)] [] w (mX12_shook_16b k4 v0 v1 v2 v3 k16 v4 v5 w) := by
  unfold mX12_shook_16b
  refine zS_iload 18 rfl 5 rfl dX12_shook_16 ?_
  refine zS_aload_n 19 rfl 0 rfl dX12_shook_18 ?_
  refine zS_getfp 22 rfl 1 dX12_shook_19 zC12 zw1113 (by decide) rfl h0 ?_
  refine zS_bipush 24 rfl (7 : Int32) (by decide) dX12_shook_22 ?_
  refine zS_iald 25 rfl dX12_shook_24 (zP12_s h0) ?_
  refine zS_icmp_ge 117 28 rfl dX12_shook_25 (by decide) ?_ ?_
  · refine zS_iload_n 118 rfl 2 rfl dX12_shook_117 ?_
    refine zS_if_eq 153 121 rfl dX12_shook_118 (by decide) ?_ ?_
    · refine zS_sub [0, 1, 3] (show _ = [(0, .ref _), (1, .int _), (3, .int _)] from rfl) ?_
      exact sX12_shook_153 k4 _ _ _ hk4 h0 _
    · refine zS_aload_n 122 rfl 0 rfl dX12_shook_121 ?_
      refine zS_getfp 125 rfl 1 dX12_shook_122 zC12 zw1113 (by decide) rfl h0 ?_
      refine zS_sipush 128 rfl (2590 : Int32) (by decide) dX12_shook_125 ?_
      refine zS_iload_n 129 rfl 3 rfl dX12_shook_128 ?_
      refine zS_iadd 130 rfl dX12_shook_129 ?_
      refine zS_iald 131 rfl dX12_shook_130 (zP12_s h0) ?_
      refine zS_if_eq 149 134 rfl dX12_shook_131 (by decide) ?_ ?_
      · refine zS_sub [0, 1, 3] (show _ = [(0, .ref _), (1, .int _), (3, .int _)] from rfl) ?_
        exact sX12_shook_149 k4 _ _ _ hk4 h0 _
      · refine zS_iload 136 rfl 4 rfl dX12_shook_134 ?_
        refine zS_aload_n 137 rfl 0 rfl dX12_shook_136 ?_
        refine zS_getfp 140 rfl 1 dX12_shook_137 zC12 zw1113 (by decide) rfl h0 ?_
        refine zS_sipush 143 rfl (2620 : Int32) (by decide) dX12_shook_140 ?_
        refine zS_iload_n 144 rfl 3 rfl dX12_shook_143 ?_
        refine zS_iadd 145 rfl dX12_shook_144 ?_
        refine zS_iald 146 rfl dX12_shook_145 (zP12_s h0) ?_
        refine zS_icmp_ne 153 149 rfl dX12_shook_146 (by decide) ?_ ?_
        · refine zS_sub [0, 1, 3] (show _ = [(0, .ref _), (1, .int _), (3, .int _)] from rfl) ?_
          exact sX12_shook_149 k4 _ _ _ hk4 h0 _
        · refine zS_sub [0, 1, 3] (show _ = [(0, .ref _), (1, .int _), (3, .int _)] from rfl) ?_
          exact sX12_shook_153 k4 _ _ _ hk4 h0 _
  · refine zS_aload_n 29 rfl 0 rfl dX12_shook_28 ?_
    refine zS_getfp 32 rfl 1 dX12_shook_29 zC12 zw1113 (by decide) rfl h0 ?_
    refine zS_sipush 35 rfl (2650 : Int32) (by decide) dX12_shook_32 ?_
    refine zS_iload 37 rfl 5 rfl dX12_shook_35 ?_
    refine zS_iadd 38 rfl dX12_shook_37 ?_
    refine zS_iald 39 rfl dX12_shook_38 (zP12_s h0) ?_
    refine zS_iload_n 40 rfl 3 rfl dX12_shook_39 ?_
    refine zS_cSi (as := [.int _, .int _]) (st := []) (g' := gX12_apart) 43 rfl (okX12_apart _ _ _) dX12_shook_40 zw1259 cbX12_apart rfl rfl (by decide) (Nat.le_of_ble_eq_true rfl) (fun r1 w2 => ?_)
    refine zS_istore 45 rfl dX12_shook_43 (by show 6 < 8; decide) (show _ = [(6, .int _), (0, .ref _), (1, .int _), (2, .int _), (3, .int _), (4, .int _), (5, .int _)] from rfl) ?_
    refine zS_iload 47 rfl 0 rfl dX12_shook_45 ?_
    refine zS_iconst 48 rfl (2 : Int32) (by decide) dX12_shook_47 ?_
    refine zS_icmp_ge 65 51 rfl dX12_shook_48 (by decide) ?_ ?_
    · refine zS_iload 67 rfl 0 rfl dX12_shook_65 ?_
      refine zS_iconst 68 rfl (2 : Int32) (by decide) dX12_shook_67 ?_
      refine zS_icmp_ne 87 71 rfl dX12_shook_68 (by decide) ?_ ?_
      · refine zS_aload_n 72 rfl 1 rfl dX12_shook_71 ?_
        refine zS_getfp 75 rfl 1 dX12_shook_72 zC12 zw1113 (by decide) rfl h0 ?_
        refine zS_sipush 78 rfl (2660 : Int32) (by decide) dX12_shook_75 ?_
        refine zS_iload 80 rfl 6 rfl dX12_shook_78 ?_
        refine zS_iadd 81 rfl dX12_shook_80 ?_
        refine zS_iald 82 rfl dX12_shook_81 (zP12_s h0) ?_
        refine zS_iconst 83 rfl (2 : Int32) (by decide) dX12_shook_82 ?_
        refine zS_idivC 84 rfl dX12_shook_83 (by decide) ?_
        refine zS_goto 88 dX12_shook_84 (by decide) ?_
        refine zS_sub [1, 2, 3, 4, 5, 6] (show _ = [(0, .ref _), (1, .int _), (2, .int _), (3, .int _), (4, .int _), (5, .int _)] from rfl) ?_
        exact sX12_shook_88 k4 k16 _ _ _ _ _ _ _ hk4 hk16 h0 _
      · refine zS_iconst 88 rfl (0 : Int32) (by decide) dX12_shook_87 ?_
        refine zS_sub [1, 2, 3, 4, 5, 6] (show _ = [(0, .ref _), (1, .int _), (2, .int _), (3, .int _), (4, .int _), (5, .int _)] from rfl) ?_
        exact sX12_shook_88 k4 k16 _ _ _ _ _ _ _ hk4 hk16 h0 _
    · refine zS_aload_n 52 rfl 1 rfl dX12_shook_51 ?_
      refine zS_getfp 55 rfl 1 dX12_shook_52 zC12 zw1113 (by decide) rfl h0 ?_
      refine zS_sipush 58 rfl (2660 : Int32) (by decide) dX12_shook_55 ?_
      refine zS_iload 60 rfl 6 rfl dX12_shook_58 ?_
      refine zS_iadd 61 rfl dX12_shook_60 ?_
      refine zS_iald 62 rfl dX12_shook_61 (zP12_s h0) ?_
      refine zS_goto 88 dX12_shook_62 (by decide) ?_
      refine zS_sub [1, 2, 3, 4, 5, 6] (show _ = [(0, .ref _), (1, .int _), (2, .int _), (3, .int _), (4, .int _), (5, .int _)] from rfl) ?_
      exact sX12_shook_88 k4 k16 _ _ _ _ _ _ _ hk4 hk16 h0 _

theorem sX12_shook_16 (k4 : Int32 × Int32 × zWd → Option (Int32 × zWd)) (v0 : Nat) (v1 : Int32) (v2 : Int32) (v3 : Int32) (v4 : Int32) (v5 : Int32) (hk4 : ∀ (v2 : Int32) (v3 : Int32) (w : zWd), zS gX12_shook zEi 4 [(0, .ref v0), (1, .int v1), (2, .int v2), (3, .int v3)] [] w (k4 (v2, v3, w))) (h0 : zShp v0 = (12, 25)) (w : zWd) : zS gX12_shook zEi 16 [(0, .ref v0), (1, .int v1), (2, .int v2), (3, .int v3), (4, .int v4), (5, .int v5)] [] w (mX12_shook_16 k4 v0 v1 v2 v3 v4 v5 w) :=
  zS_loop (L := fun q : Int32 × Int32 × zWd => [(0, .ref v0), (1, .int v1), (2, .int v2), (3, .int v3), (4, .int q.1), (5, .int q.2.1)]) (V := fun q => q.2.2) (T := fun _ => []) (F := fun k q => mX12_shook_16b k4 v0 v1 v2 v3 k q.1 q.2.1 q.2.2) (fun k hk q => sX12_shook_16b k4 v0 v1 v2 v3 k q.1 q.2.1 hk4 (fun a4 a5 w => hk (a4, a5, w)) h0 q.2.2) zFU (v4, v5, w)
set_option maxHeartbeats 4000000 in
set_option maxRecDepth 100000 in
theorem sX12_shook_4b (v0 : Nat) (v1 : Int32) (k4 : Int32 × Int32 × zWd → Option (Int32 × zWd)) (v2 : Int32) (v3 : Int32) (hk4 : ∀ (v2 : Int32) (v3 : Int32) (w : zWd), zS gX12_shook zEi 4 [(0, .ref v0), (1, .int v1), (2, .int v2), (3, .int v3)] [] w (k4 (v2, v3, w))) (h0 : zShp v0 = (12, 25)) (w : zWd) : zS gX12_shook zEi 4 [(0, .ref v0), (1, .int v1), (2, .int v2), (3, .int v3)] [] w (mX12_shook_4b v0 v1 k4 v2 v3 w) := by
  unfold mX12_shook_4b
  refine zS_iload_n 5 rfl 3 rfl dX12_shook_4 ?_
  refine zS_bipush 7 rfl (30 : Int32) (by decide) dX12_shook_5 ?_
  refine zS_icmp_ge 161 10 rfl dX12_shook_7 (by decide) ?_ ?_
  · refine zS_iload_n 162 rfl 2 rfl dX12_shook_161 ?_
    exact zS_retb dX12_shook_162 rfl
  · refine zS_iconst 11 rfl (0 : Int32) (by decide) dX12_shook_10 ?_
    refine zS_istore 13 rfl dX12_shook_11 (by show 4 < 8; decide) (show _ = [(4, .int _), (0, .ref _), (1, .int _), (2, .int _), (3, .int _)] from rfl) ?_
    refine zS_iconst 14 rfl (0 : Int32) (by decide) dX12_shook_13 ?_
    refine zS_istore 16 rfl dX12_shook_14 (by show 5 < 8; decide) (show _ = [(5, .int _), (4, .int _), (0, .ref _), (1, .int _), (2, .int _), (3, .int _)] from rfl) ?_
    refine zS_sub [2, 3, 4, 5, 1, 0] (show _ = [(0, .ref _), (1, .int _), (2, .int _), (3, .int _), (4, .int _), (5, .int _)] from rfl) ?_
    exact sX12_shook_16 k4 _ _ _ _ _ _ hk4 h0 _

theorem sX12_shook_4 (v0 : Nat) (v1 : Int32) (v2 : Int32) (v3 : Int32) (h0 : zShp v0 = (12, 25)) (w : zWd) : zS gX12_shook zEi 4 [(0, .ref v0), (1, .int v1), (2, .int v2), (3, .int v3)] [] w (mX12_shook_4 v0 v1 v2 v3 w) :=
  zS_loop (L := fun q : Int32 × Int32 × zWd => [(0, .ref v0), (1, .int v1), (2, .int q.1), (3, .int q.2.1)]) (V := fun q => q.2.2) (T := fun _ => []) (F := fun k q => mX12_shook_4b v0 v1 k q.1 q.2.1 q.2.2) (fun k hk q => sX12_shook_4b v0 v1 k q.1 q.2.1 (fun a2 a3 w => hk (a2, a3, w)) h0 q.2.2) zFU (v2, v3, w)
set_option maxHeartbeats 4000000 in
set_option maxRecDepth 100000 in
theorem sX12_shook (v0 : Nat) (v1 : Int32) (h0 : zShp v0 = (12, 25)) (w : zWd) : zS gX12_shook zEi 0 [(0, .ref v0), (1, .int v1)] [] w (mX12_shook v0 v1 w) := by
  unfold mX12_shook
  refine zS_iconst 1 rfl (1 : Int32) (by decide) dX12_shook_0 ?_
  refine zS_istore_n 2 rfl dX12_shook_1 (by show 2 < 8; decide) (show _ = [(2, .int _), (0, .ref _), (1, .int _)] from rfl) ?_
  refine zS_iconst 3 rfl (0 : Int32) (by decide) dX12_shook_2 ?_
  refine zS_istore_n 4 rfl dX12_shook_3 (by show 3 < 8; decide) (show _ = [(3, .int _), (2, .int _), (0, .ref _), (1, .int _)] from rfl) ?_
  refine zS_sub [2, 3, 1, 0] (show _ = [(0, .ref _), (1, .int _), (2, .int _), (3, .int _)] from rfl) ?_
  exact sX12_shook_4 _ _ _ _ h0 _

theorem okX12_shook (v0 : Nat) (v1 : Int32) (w : zWd) (h0 : zShp v0 = (12, 25)) : zOk gX12_shook zEi [.ref v0, .int v1] w (mX12_shook v0 v1 w) := zOk_of (by decide) rfl (Nat.le_of_ble_eq_true rfl) (sX12_shook v0 v1 h0 w)
abbrev gX12_shift : zMth := (yX12_shift, cX12_shift, 6, (some .int), 4, zE0)
theorem cbX12_shift : zCbV yX12_shift cX12_shift 6 (some .int) 1 := ⟨zw1480, zw1481, zw89, zw1482, by decide, by decide, by decide +kernel⟩
set_option maxHeartbeats 4000000 in
set_option maxRecDepth 100000 in
theorem sX12_shift_129 (s0 : Int32) (w : zWd) : zS gX12_shift zEi 129 [] [.int s0] w (mX12_shift_129 s0 w) := by
  unfold mX12_shift_129
  exact zS_reti dX12_shift_129 rfl

set_option maxHeartbeats 4000000 in
set_option maxRecDepth 100000 in
theorem sX12_shift_124 (v2 : Int32) (w : zWd) : zS gX12_shift zEi 124 [(2, .int v2)] [] w (mX12_shift_124 v2 w) := by
  unfold mX12_shift_124
  refine zS_iload_n 125 rfl 0 rfl dX12_shift_124 ?_
  refine zS_goto 129 dX12_shift_125 (by decide) ?_
  refine zS_sub [] (show _ = [] from rfl) ?_
  exact sX12_shift_129 _ _

set_option maxHeartbeats 4000000 in
set_option maxRecDepth 100000 in
theorem sX12_shift_108 (k19 : Int32 × Int32 × Int32 × zWd → Option (Int32 × zWd)) (v0 : Nat) (v1 : Int32) (v2 : Int32) (v3 : Int32) (v4 : Int32) (hk19 : ∀ (v2 : Int32) (v3 : Int32) (v4 : Int32) (w : zWd), zS gX12_shift zEi 19 [(0, .ref v0), (1, .int v1), (2, .int v2), (3, .int v3), (4, .int v4)] [] w (k19 (v2, v3, v4, w))) (h0 : zShp v0 = (12, 25)) (w : zWd) : zS gX12_shift zEi 108 [(0, .ref v0), (1, .int v1), (2, .int v2), (3, .int v3), (4, .int v4)] [] w (mX12_shift_108 k19 v0 v1 v2 v3 v4 w) := by
  unfold mX12_shift_108
  refine zS_iinc 111 rfl 4 (_ + (1 : Int32)) dX12_shift_108 rfl (by show 4 < 6; decide) rfl (show _ = [(4, .int _), (0, .ref _), (1, .int _), (2, .int _), (3, .int _)] from rfl) ?_
  refine zS_goto 19 dX12_shift_111 (by decide) ?_
  refine zS_sub [1, 2, 3, 4, 0] (show _ = [(0, .ref _), (1, .int _), (2, .int _), (3, .int _), (4, .int _)] from rfl) ?_
  exact hk19 _ _ _ _

set_option maxHeartbeats 4000000 in
set_option maxRecDepth 100000 in
theorem sX12_shift_107 (k19 : Int32 × Int32 × Int32 × zWd → Option (Int32 × zWd)) (v0 : Nat) (v1 : Int32) (v3 : Int32) (v4 : Int32) (s0 : Int32) (hk19 : ∀ (v2 : Int32) (v3 : Int32) (v4 : Int32) (w : zWd), zS gX12_shift zEi 19 [(0, .ref v0), (1, .int v1), (2, .int v2), (3, .int v3), (4, .int v4)] [] w (k19 (v2, v3, v4, w))) (h0 : zShp v0 = (12, 25)) (w : zWd) : zS gX12_shift zEi 107 [(0, .ref v0), (1, .int v1), (3, .int v3), (4, .int v4)] [.int s0] w (mX12_shift_107 k19 v0 v1 v3 v4 s0 w) := by
  unfold mX12_shift_107
  refine zS_istore_n 108 rfl dX12_shift_107 (by show 2 < 6; decide) (show _ = [(2, .int _), (0, .ref _), (1, .int _), (3, .int _), (4, .int _)] from rfl) ?_
  refine zS_sub [1, 2, 0, 3, 4] (show _ = [(0, .ref _), (1, .int _), (2, .int _), (3, .int _), (4, .int _)] from rfl) ?_
  exact sX12_shift_108 k19 _ _ _ _ _ hk19 h0 _

set_option maxHeartbeats 4000000 in
set_option maxRecDepth 100000 in
theorem sX12_shift_95 (k19 : Int32 × Int32 × Int32 × zWd → Option (Int32 × zWd)) (v0 : Nat) (v1 : Int32) (v2 : Int32) (v4 : Int32) (v5 : Int32) (s0 : Int32) (hk19 : ∀ (v2 : Int32) (v3 : Int32) (v4 : Int32) (w : zWd), zS gX12_shift zEi 19 [(0, .ref v0), (1, .int v1), (2, .int v2), (3, .int v3), (4, .int v4)] [] w (k19 (v2, v3, v4, w))) (h0 : zShp v0 = (12, 25)) (w : zWd) : zS gX12_shift zEi 95 [(0, .ref v0), (1, .int v1), (2, .int v2), (4, .int v4), (5, .int v5)] [.int s0] w (mX12_shift_95 k19 v0 v1 v2 v4 v5 s0 w) := by
  unfold mX12_shift_95
  refine zS_istore_n 96 rfl dX12_shift_95 (by show 3 < 6; decide) (show _ = [(3, .int _), (0, .ref _), (1, .int _), (2, .int _), (4, .int _), (5, .int _)] from rfl) ?_
  refine zS_iload 98 rfl 5 rfl dX12_shift_96 ?_
  refine zS_if_eq 106 101 rfl dX12_shift_98 (by decide) ?_ ?_
  · refine zS_iload_n 107 rfl 3 rfl dX12_shift_106 ?_
    refine zS_sub [1, 2, 0, 4] (show _ = [(0, .ref _), (1, .int _), (3, .int _), (4, .int _)] from rfl) ?_
    exact sX12_shift_107 k19 _ _ _ _ _ hk19 h0 _
  · refine zS_iload 103 rfl 4 rfl dX12_shift_101 ?_
    refine zS_goto 107 dX12_shift_103 (by decide) ?_
    refine zS_sub [1, 2, 0, 4] (show _ = [(0, .ref _), (1, .int _), (3, .int _), (4, .int _)] from rfl) ?_
    exact sX12_shift_107 k19 _ _ _ _ _ hk19 h0 _

set_option maxHeartbeats 4000000 in
set_option maxRecDepth 100000 in
theorem sX12_shift_65 (k19 : Int32 × Int32 × Int32 × zWd → Option (Int32 × zWd)) (v0 : Nat) (v1 : Int32) (v2 : Int32) (v3 : Int32) (v4 : Int32) (s0 : Int32) (hk19 : ∀ (v2 : Int32) (v3 : Int32) (v4 : Int32) (w : zWd), zS gX12_shift zEi 19 [(0, .ref v0), (1, .int v1), (2, .int v2), (3, .int v3), (4, .int v4)] [] w (k19 (v2, v3, v4, w))) (h0 : zShp v0 = (12, 25)) (w : zWd) : zS gX12_shift zEi 65 [(0, .ref v0), (1, .int v1), (2, .int v2), (3, .int v3), (4, .int v4)] [.int s0] w (mX12_shift_65 k19 v0 v1 v2 v3 v4 s0 w) := by
  unfold mX12_shift_65
  refine zS_istore 67 rfl dX12_shift_65 (by show 5 < 6; decide) (show _ = [(5, .int _), (0, .ref _), (1, .int _), (2, .int _), (3, .int _), (4, .int _)] from rfl) ?_
  refine zS_iload 69 rfl 0 rfl dX12_shift_67 ?_
  refine zS_if_eq 76 72 rfl dX12_shift_69 (by decide) ?_ ?_
  · refine zS_iload 78 rfl 5 rfl dX12_shift_76 ?_
    refine zS_cSi (as := [.int _]) (st := []) (g' := gX12_count1) 81 rfl (okX12_count1 _ _) dX12_shift_78 zw1452 cbX12_count1 rfl rfl (by decide) (Nat.le_of_ble_eq_true rfl) (fun r5 w6 => ?_)
    refine zS_iload_n 82 rfl 3 rfl dX12_shift_81 ?_
    refine zS_cSi (as := [.int _]) (st := [.int _]) (g' := gX12_count1) 85 rfl (okX12_count1 _ _) dX12_shift_82 zw1452 cbX12_count1 rfl rfl (by decide) (Nat.le_of_ble_eq_true rfl) (fun r7 w8 => ?_)
    refine zS_icmp_ne 94 88 rfl dX12_shift_85 (by decide) ?_ ?_
    · refine zS_iload_n 89 rfl 4 rfl dX12_shift_88 ?_
      refine zS_iconst 90 rfl (1 : Int32) (by decide) dX12_shift_89 ?_
      refine zS_iadd 91 rfl dX12_shift_90 ?_
      refine zS_goto 95 dX12_shift_91 (by decide) ?_
      refine zS_sub [1, 2, 3, 5, 0] (show _ = [(0, .ref _), (1, .int _), (2, .int _), (4, .int _), (5, .int _)] from rfl) ?_
      exact sX12_shift_95 k19 _ _ _ _ _ _ hk19 h0 _
    · refine zS_iload_n 95 rfl 4 rfl dX12_shift_94 ?_
      refine zS_sub [1, 2, 3, 5, 0] (show _ = [(0, .ref _), (1, .int _), (2, .int _), (4, .int _), (5, .int _)] from rfl) ?_
      exact sX12_shift_95 k19 _ _ _ _ _ _ hk19 h0 _
  · refine zS_iconst 73 rfl (1 : Int32) (by decide) dX12_shift_72 ?_
    refine zS_goto 95 dX12_shift_73 (by decide) ?_
    refine zS_sub [1, 2, 3, 5, 0] (show _ = [(0, .ref _), (1, .int _), (2, .int _), (4, .int _), (5, .int _)] from rfl) ?_
    exact sX12_shift_95 k19 _ _ _ _ _ _ hk19 h0 _

set_option maxHeartbeats 4000000 in
set_option maxRecDepth 100000 in
theorem sX12_shift_60 (k19 : Int32 × Int32 × Int32 × zWd → Option (Int32 × zWd)) (v0 : Nat) (v1 : Int32) (v2 : Int32) (v3 : Int32) (v4 : Int32) (hk19 : ∀ (v2 : Int32) (v3 : Int32) (v4 : Int32) (w : zWd), zS gX12_shift zEi 19 [(0, .ref v0), (1, .int v1), (2, .int v2), (3, .int v3), (4, .int v4)] [] w (k19 (v2, v3, v4, w))) (h0 : zShp v0 = (12, 25)) (w : zWd) : zS gX12_shift zEi 60 [(0, .ref v0), (1, .int v1), (2, .int v2), (3, .int v3), (4, .int v4)] [] w (mX12_shift_60 k19 v0 v1 v2 v3 v4 w) := by
  unfold mX12_shift_60
  refine zS_iconst 61 rfl (1 : Int32) (by decide) dX12_shift_60 ?_
  refine zS_goto 65 dX12_shift_61 (by decide) ?_
  exact sX12_shift_65 k19 _ _ _ _ _ _ hk19 h0 _

set_option maxHeartbeats 4000000 in
set_option maxRecDepth 100000 in
theorem sX12_shift_19b (v0 : Nat) (v1 : Int32) (k19 : Int32 × Int32 × Int32 × zWd → Option (Int32 × zWd)) (v2 : Int32) (v3 : Int32) (v4 : Int32) (hk19 : ∀ (v2 : Int32) (v3 : Int32) (v4 : Int32) (w : zWd), zS gX12_shift zEi 19 [(0, .ref v0), (1, .int v1), (2, .int v2), (3, .int v3), (4, .int v4)] [] w (k19 (v2, v3, v4, w))) (h0 : zShp v0 = (12, 25)) (w : zWd) : zS gX12_shift zEi 19 [(0, .ref v0), (1, .int v1), (2, .int v2), (3, .int v3), (4, .int v4)] [] w (mX12_shift_19b v0 v1 k19 v2 v3 v4 w) := by
  unfold mX12_shift_19b
  refine zS_iload 21 rfl 4 rfl dX12_shift_19 ?_
  refine zS_iconst 22 rfl (1 : Int32) (by decide) dX12_shift_21 ?_
  refine zS_aload_n 23 rfl 0 rfl dX12_shift_22 ?_
  refine zS_getfp 26 rfl 1 dX12_shift_23 zC12 zw1113 (by decide) rfl h0 ?_
  refine zS_bipush 28 rfl (7 : Int32) (by decide) dX12_shift_26 ?_
  refine zS_iald 29 rfl dX12_shift_28 (zP12_s h0) ?_
  refine zS_ishl 30 rfl dX12_shift_29 ?_
  refine zS_icmp_ge 114 33 rfl dX12_shift_30 (by decide) ?_ ?_
  · refine zS_iload_n 115 rfl 2 rfl dX12_shift_114 ?_
    refine zS_bipush 117 rfl (-5 : Int32) (by decide) dX12_shift_115 ?_
    refine zS_icmp_eq 124 120 rfl dX12_shift_117 (by decide) ?_ ?_
    · refine zS_sub [2] (show _ = [(2, .int _)] from rfl) ?_
      exact sX12_shift_124 _ _
    · refine zS_iload_n 121 rfl 1 rfl dX12_shift_120 ?_
      refine zS_if_ne 128 124 rfl dX12_shift_121 (by decide) ?_ ?_
      · refine zS_sub [2] (show _ = [(2, .int _)] from rfl) ?_
        exact sX12_shift_124 _ _
      · refine zS_iload_n 129 rfl 3 rfl dX12_shift_128 ?_
        refine zS_sub [] (show _ = [] from rfl) ?_
        exact sX12_shift_129 _ _
  · refine zS_aload_n 34 rfl 0 rfl dX12_shift_33 ?_
    refine zS_iload 36 rfl 4 rfl dX12_shift_34 ?_
    refine zS_cVi (as := [.int _]) (st := []) (g' := gX12_shook) 39 rfl (okX12_shook _ _ _ h0) dX12_shift_36 zC12 h0 zw1483 cbX12_shook rfl rfl (by decide) (Nat.le_of_ble_eq_true rfl) (fun r3 w4 => ?_)
    refine zS_if_eq 108 42 rfl dX12_shift_39 (by decide) ?_ ?_
    · exact sX12_shift_108 k19 _ _ _ _ _ hk19 h0 _
    · refine zS_iload_n 43 rfl 2 rfl dX12_shift_42 ?_
      refine zS_bipush 45 rfl (-5 : Int32) (by decide) dX12_shift_43 ?_
      refine zS_icmp_eq 60 48 rfl dX12_shift_45 (by decide) ?_ ?_
      · exact sX12_shift_60 k19 _ _ _ _ _ hk19 h0 _
      · refine zS_iload 50 rfl 4 rfl dX12_shift_48 ?_
        refine zS_cSi (as := [.int _]) (st := []) (g' := gX12_count1) 53 rfl (okX12_count1 _ _) dX12_shift_50 zw1452 cbX12_count1 rfl rfl (by decide) (Nat.le_of_ble_eq_true rfl) (fun r9 w10 => ?_)
        refine zS_iload_n 54 rfl 2 rfl dX12_shift_53 ?_
        refine zS_cSi (as := [.int _]) (st := [.int _]) (g' := gX12_count1) 57 rfl (okX12_count1 _ _) dX12_shift_54 zw1452 cbX12_count1 rfl rfl (by decide) (Nat.le_of_ble_eq_true rfl) (fun r11 w12 => ?_)
        refine zS_icmp_ge 64 60 rfl dX12_shift_57 (by decide) ?_ ?_
        · refine zS_iconst 65 rfl (0 : Int32) (by decide) dX12_shift_64 ?_
          exact sX12_shift_65 k19 _ _ _ _ _ _ hk19 h0 _
        · exact sX12_shift_60 k19 _ _ _ _ _ hk19 h0 _

theorem sX12_shift_19 (v0 : Nat) (v1 : Int32) (v2 : Int32) (v3 : Int32) (v4 : Int32) (h0 : zShp v0 = (12, 25)) (w : zWd) : zS gX12_shift zEi 19 [(0, .ref v0), (1, .int v1), (2, .int v2), (3, .int v3), (4, .int v4)] [] w (mX12_shift_19 v0 v1 v2 v3 v4 w) :=
  zS_loop (L := fun q : Int32 × Int32 × Int32 × zWd => [(0, .ref v0), (1, .int v1), (2, .int q.1), (3, .int q.2.1), (4, .int q.2.2.1)]) (V := fun q => q.2.2.2) (T := fun _ => []) (F := fun k q => mX12_shift_19b v0 v1 k q.1 q.2.1 q.2.2.1 q.2.2.2) (fun k hk q => sX12_shift_19b v0 v1 k q.1 q.2.1 q.2.2.1 (fun a2 a3 a4 w => hk (a2, a3, a4, w)) h0 q.2.2.2) zFU (v2, v3, v4, w)
set_option maxHeartbeats 4000000 in
set_option maxRecDepth 100000 in
theorem sX12_shift (v0 : Nat) (v1 : Int32) (h0 : zShp v0 = (12, 25)) (w : zWd) : zS gX12_shift zEi 0 [(0, .ref v0), (1, .int v1)] [] w (mX12_shift v0 v1 w) := by
  unfold mX12_shift
  refine zS_iload_n 1 rfl 1 rfl dX12_shift_0 ?_
  refine zS_iconst 2 rfl (0 : Int32) (by decide) dX12_shift_1 ?_
  refine zS_iconst 3 rfl (1 : Int32) (by decide) dX12_shift_2 ?_
  refine zS_cSi (as := [.int _, .int _, .int _]) (st := []) (g' := gX12_in) 6 rfl (okX12_in _ _ _ _) dX12_shift_3 zw1196 cbX12_in rfl rfl (by decide) (Nat.le_of_ble_eq_true rfl) (fun r1 w2 => ?_)
  refine zS_if_ne 11 9 rfl dX12_shift_6 (by decide) ?_ ?_
  · refine zS_iconst 10 rfl (-1 : Int32) (by decide) dX12_shift_9 ?_
    exact zS_reti dX12_shift_10 rfl
  · refine zS_bipush 13 rfl (-5 : Int32) (by decide) dX12_shift_11 ?_
    refine zS_istore_n 14 rfl dX12_shift_13 (by show 2 < 6; decide) (show _ = [(2, .int _), (0, .ref _), (1, .int _)] from rfl) ?_
    refine zS_iconst 15 rfl (0 : Int32) (by decide) dX12_shift_14 ?_
    refine zS_istore_n 16 rfl dX12_shift_15 (by show 3 < 6; decide) (show _ = [(3, .int _), (2, .int _), (0, .ref _), (1, .int _)] from rfl) ?_
    refine zS_iconst 17 rfl (0 : Int32) (by decide) dX12_shift_16 ?_
    refine zS_istore 19 rfl dX12_shift_17 (by show 4 < 6; decide) (show _ = [(4, .int _), (3, .int _), (2, .int _), (0, .ref _), (1, .int _)] from rfl) ?_
    refine zS_sub [3, 4, 2, 1, 0] (show _ = [(0, .ref _), (1, .int _), (2, .int _), (3, .int _), (4, .int _)] from rfl) ?_
    exact sX12_shift_19 _ _ _ _ _ h0 _

theorem okX12_shift (v0 : Nat) (v1 : Int32) (w : zWd) (h0 : zShp v0 = (12, 25)) : zOk gX12_shift zEi [.ref v0, .int v1] w (mX12_shift v0 v1 w) := zOk_of (by decide) rfl (Nat.le_of_ble_eq_true rfl) (sX12_shift v0 v1 h0 w)
abbrev gX12_givenWith : zMth := (yX12_givenWith, cX12_givenWith, 8, (some .int), 4, zE0)
theorem cbX12_givenWith : zCbV yX12_givenWith cX12_givenWith 8 (some .int) 2 := ⟨zw1493, zw75, zw89, zw1494, by decide, by decide, by decide +kernel⟩
set_option maxHeartbeats 4000000 in
set_option maxRecDepth 100000 in
theorem sX12_givenWith_96b (k83 : Int32 × Int32 × zWd → Option (Int32 × zWd)) (v0 : Nat) (v3 : Int32) (v4 : Int32) (v6 : Int32) (k96 : Int32 × Int32 × zWd → Option (Int32 × zWd)) (v5 : Int32) (v7 : Int32) (hk83 : ∀ (v5 : Int32) (v6 : Int32) (w : zWd), zS gX12_givenWith zEi 83 [(0, .ref v0), (3, .int v3), (4, .int v4), (5, .int v5), (6, .int v6)] [] w (k83 (v5, v6, w))) (hk96 : ∀ (v5 : Int32) (v7 : Int32) (w : zWd), zS gX12_givenWith zEi 96 [(0, .ref v0), (3, .int v3), (4, .int v4), (5, .int v5), (6, .int v6), (7, .int v7)] [] w (k96 (v5, v7, w))) (h0 : zShp v0 = (12, 25)) (w : zWd) : zS gX12_givenWith zEi 96 [(0, .ref v0), (3, .int v3), (4, .int v4), (5, .int v5), (6, .int v6), (7, .int v7)] [] w (mX12_givenWith_96b k83 v0 v3 v4 v6 k96 v5 v7 w) := by
  unfold mX12_givenWith_96b
  refine zS_iload 98 rfl 5 rfl dX12_givenWith_96 ?_
  refine zS_iload_n 99 rfl 1 rfl dX12_givenWith_98 ?_
  refine zS_icmp_ge 120 102 rfl dX12_givenWith_99 (by decide) ?_ ?_
  · refine zS_iinc 123 rfl 4 (_ + (1 : Int32)) dX12_givenWith_120 rfl (by show 6 < 8; decide) rfl (show _ = [(6, .int _), (0, .ref _), (3, .int _), (4, .int _), (5, .int _), (7, .int _)] from rfl) ?_
    refine zS_goto 83 dX12_givenWith_123 (by decide) ?_
    refine zS_sub [1, 2, 3, 4, 0] (show _ = [(0, .ref _), (3, .int _), (4, .int _), (5, .int _), (6, .int _)] from rfl) ?_
    exact hk83 _ _ _
  · refine zS_iload 104 rfl 3 rfl dX12_givenWith_102 ?_
    refine zS_aload_n 105 rfl 0 rfl dX12_givenWith_104 ?_
    refine zS_getfp 108 rfl 4 dX12_givenWith_105 zC12 zw1116 (by decide) rfl h0 ?_
    refine zS_iload 110 rfl 5 rfl dX12_givenWith_108 ?_
    refine zS_iald 111 rfl dX12_givenWith_110 (zP12_gave h0) ?_
    refine zS_iadd 112 rfl dX12_givenWith_111 ?_
    refine zS_bni (fun x16 => ?_)
    refine zS_istore 114 rfl dX12_givenWith_112 (by show 5 < 8; decide) (show _ = [(5, .int _), (0, .ref _), (3, .int _), (4, .int _), (6, .int _), (7, .int _)] from rfl) ?_
    refine zS_iinc 117 rfl 5 (_ + (1 : Int32)) dX12_givenWith_114 rfl (by show 7 < 8; decide) rfl (show _ = [(7, .int _), (5, .int _), (0, .ref _), (3, .int _), (4, .int _), (6, .int _)] from rfl) ?_
    refine zS_goto 96 dX12_givenWith_117 (by decide) ?_
    refine zS_sub [2, 3, 4, 1, 5, 0] (show _ = [(0, .ref _), (3, .int _), (4, .int _), (5, .int _), (6, .int _), (7, .int _)] from rfl) ?_
    exact hk96 _ _ _

theorem sX12_givenWith_96 (k83 : Int32 × Int32 × zWd → Option (Int32 × zWd)) (v0 : Nat) (v3 : Int32) (v4 : Int32) (v6 : Int32) (v5 : Int32) (v7 : Int32) (hk83 : ∀ (v5 : Int32) (v6 : Int32) (w : zWd), zS gX12_givenWith zEi 83 [(0, .ref v0), (3, .int v3), (4, .int v4), (5, .int v5), (6, .int v6)] [] w (k83 (v5, v6, w))) (h0 : zShp v0 = (12, 25)) (w : zWd) : zS gX12_givenWith zEi 96 [(0, .ref v0), (3, .int v3), (4, .int v4), (5, .int v5), (6, .int v6), (7, .int v7)] [] w (mX12_givenWith_96 k83 v0 v3 v4 v6 v5 v7 w) :=
  zS_loop (L := fun q : Int32 × Int32 × zWd => [(0, .ref v0), (3, .int v3), (4, .int v4), (5, .int q.1), (6, .int v6), (7, .int q.2.1)]) (V := fun q => q.2.2) (T := fun _ => []) (F := fun k q => mX12_givenWith_96b k83 v0 v3 v4 v6 k q.1 q.2.1 q.2.2) (fun k hk q => sX12_givenWith_96b k83 v0 v3 v4 v6 k q.1 q.2.1 hk83 (fun a5 a7 w => hk (a5, a7, w)) h0 q.2.2) zFU (v5, v7, w)
set_option maxHeartbeats 4000000 in
set_option maxRecDepth 100000 in
theorem sX12_givenWith_83b (v0 : Nat) (v3 : Int32) (v4 : Int32) (k83 : Int32 × Int32 × zWd → Option (Int32 × zWd)) (v5 : Int32) (v6 : Int32) (hk83 : ∀ (v5 : Int32) (v6 : Int32) (w : zWd), zS gX12_givenWith zEi 83 [(0, .ref v0), (3, .int v3), (4, .int v4), (5, .int v5), (6, .int v6)] [] w (k83 (v5, v6, w))) (h0 : zShp v0 = (12, 25)) (w : zWd) : zS gX12_givenWith zEi 83 [(0, .ref v0), (3, .int v3), (4, .int v4), (5, .int v5), (6, .int v6)] [] w (mX12_givenWith_83b v0 v3 v4 k83 v5 v6 w) := by
  unfold mX12_givenWith_83b
  refine zS_iload 85 rfl 4 rfl dX12_givenWith_83 ?_
  refine zS_iconst 86 rfl (5 : Int32) (by decide) dX12_givenWith_85 ?_
  refine zS_icmp_ge 126 89 rfl dX12_givenWith_86 (by decide) ?_ ?_
  · refine zS_aload_n 127 rfl 0 rfl dX12_givenWith_126 ?_
    refine zS_getfp 130 rfl 1 dX12_givenWith_127 zC12 zw1113 (by decide) rfl h0 ?_
    refine zS_iconst 131 rfl (1 : Int32) (by decide) dX12_givenWith_130 ?_
    refine zS_dup2 132 rfl rfl rfl dX12_givenWith_131 ?_
    refine zS_iald 133 rfl dX12_givenWith_132 (zP12_s h0) ?_
    refine zS_iconst 134 rfl (1 : Int32) (by decide) dX12_givenWith_133 ?_
    refine zS_isub 135 rfl dX12_givenWith_134 ?_
    refine zS_iast 136 rfl dX12_givenWith_135 (zP12_s h0) ?_
    refine zS_bnw (fun w10 => ?_)
    refine zS_aload_n 137 rfl 0 rfl dX12_givenWith_136 ?_
    refine zS_cVv (as := []) (st := []) (g' := gX12_givesBack) 140 rfl (okX12_givesBack _ _ h0) dX12_givenWith_137 zC12 h0 zw1463 cbX12_givesBack rfl rfl (by decide) (Nat.le_of_ble_eq_true rfl) (fun r11 w12 => ?_)
    refine zS_aload_n 141 rfl 0 rfl dX12_givenWith_140 ?_
    refine zS_getfp 144 rfl 1 dX12_givenWith_141 zC12 zw1113 (by decide) rfl h0 ?_
    refine zS_sipush 147 rfl (212 : Int32) (by decide) dX12_givenWith_144 ?_
    refine zS_iload_n 148 rfl 1 rfl dX12_givenWith_147 ?_
    refine zS_iadd 149 rfl dX12_givenWith_148 ?_
    refine zS_iload 151 rfl 2 rfl dX12_givenWith_149 ?_
    refine zS_iast 152 rfl dX12_givenWith_151 (zP12_s h0) ?_
    refine zS_bnw (fun w13 => ?_)
    refine zS_iload 154 rfl 3 rfl dX12_givenWith_152 ?_
    exact zS_reti dX12_givenWith_154 rfl
  · refine zS_aload_n 90 rfl 0 rfl dX12_givenWith_89 ?_
    refine zS_cVv (as := []) (st := []) (g' := gX12_flows) 93 rfl (okX12_flows _ _ h0) dX12_givenWith_90 zC12 h0 zw1281 cbX12_flows rfl rfl (by decide) (Nat.le_of_ble_eq_true rfl) (fun r14 w15 => ?_)
    refine zS_iconst 94 rfl (0 : Int32) (by decide) dX12_givenWith_93 ?_
    refine zS_istore 96 rfl dX12_givenWith_94 (by show 7 < 8; decide) (show _ = [(7, .int _), (0, .ref _), (3, .int _), (4, .int _), (5, .int _), (6, .int _)] from rfl) ?_
    refine zS_sub [1, 2, 3, 4, 5, 0] (show _ = [(0, .ref _), (3, .int _), (4, .int _), (5, .int _), (6, .int _), (7, .int _)] from rfl) ?_
    exact sX12_givenWith_96 k83 _ _ _ _ _ _ hk83 h0 _

theorem sX12_givenWith_83 (v0 : Nat) (v3 : Int32) (v4 : Int32) (v5 : Int32) (v6 : Int32) (h0 : zShp v0 = (12, 25)) (w : zWd) : zS gX12_givenWith zEi 83 [(0, .ref v0), (3, .int v3), (4, .int v4), (5, .int v5), (6, .int v6)] [] w (mX12_givenWith_83 v0 v3 v4 v5 v6 w) :=
  zS_loop (L := fun q : Int32 × Int32 × zWd => [(0, .ref v0), (3, .int v3), (4, .int v4), (5, .int q.1), (6, .int q.2.1)]) (V := fun q => q.2.2) (T := fun _ => []) (F := fun k q => mX12_givenWith_83b v0 v3 v4 k q.1 q.2.1 q.2.2) (fun k hk q => sX12_givenWith_83b v0 v3 v4 k q.1 q.2.1 (fun a5 a6 w => hk (a5, a6, w)) h0 q.2.2) zFU (v5, v6, w)
set_option maxHeartbeats 4000000 in
set_option maxRecDepth 100000 in
theorem sX12_givenWith (v0 : Nat) (v1 : Int32) (v2 : Int32) (h0 : zShp v0 = (12, 25)) (w : zWd) : zS gX12_givenWith zEi 0 [(0, .ref v0), (1, .int v1), (2, .int v2)] [] w (mX12_givenWith v0 v1 v2 w) := by
  unfold mX12_givenWith
  refine zS_aload_n 1 rfl 0 rfl dX12_givenWith_0 ?_
  refine zS_getfp 4 rfl 1 dX12_givenWith_1 zC12 zw1113 (by decide) rfl h0 ?_
  refine zS_iconst 5 rfl (1 : Int32) (by decide) dX12_givenWith_4 ?_
  refine zS_iald 6 rfl dX12_givenWith_5 (zP12_s h0) ?_
  refine zS_bni (fun x1 => ?_)
  refine zS_istore_n 7 rfl dX12_givenWith_6 (by show 3 < 8; decide) (show _ = [(3, .int _), (0, .ref _), (1, .int _), (2, .int _)] from rfl) ?_
  refine zS_aload_n 8 rfl 1 rfl dX12_givenWith_7 ?_
  refine zS_getfp 11 rfl 1 dX12_givenWith_8 zC12 zw1113 (by decide) rfl h0 ?_
  refine zS_sipush 14 rfl (140 : Int32) (by decide) dX12_givenWith_11 ?_
  refine zS_iload_n 15 rfl 0 rfl dX12_givenWith_14 ?_
  refine zS_iadd 16 rfl dX12_givenWith_15 ?_
  refine zS_iconst 17 rfl (1 : Int32) (by decide) dX12_givenWith_16 ?_
  refine zS_iast 18 rfl dX12_givenWith_17 (zP12_s h0) ?_
  refine zS_bnw (fun w2 => ?_)
  refine zS_aload_n 19 rfl 1 rfl dX12_givenWith_18 ?_
  refine zS_getfp 22 rfl 1 dX12_givenWith_19 zC12 zw1113 (by decide) rfl h0 ?_
  refine zS_sipush 25 rfl (152 : Int32) (by decide) dX12_givenWith_22 ?_
  refine zS_iload_n 26 rfl 0 rfl dX12_givenWith_25 ?_
  refine zS_iadd 27 rfl dX12_givenWith_26 ?_
  refine zS_iload_n 28 rfl 2 rfl dX12_givenWith_27 ?_
  refine zS_iast 29 rfl dX12_givenWith_28 (zP12_s h0) ?_
  refine zS_bnw (fun w3 => ?_)
  refine zS_aload_n 30 rfl 1 rfl dX12_givenWith_29 ?_
  refine zS_getfp 33 rfl 1 dX12_givenWith_30 zC12 zw1113 (by decide) rfl h0 ?_
  refine zS_sipush 36 rfl (164 : Int32) (by decide) dX12_givenWith_33 ?_
  refine zS_iload_n 37 rfl 0 rfl dX12_givenWith_36 ?_
  refine zS_iadd 38 rfl dX12_givenWith_37 ?_
  refine zS_iload_n 39 rfl 3 rfl dX12_givenWith_38 ?_
  refine zS_iast 40 rfl dX12_givenWith_39 (zP12_s h0) ?_
  refine zS_bnw (fun w4 => ?_)
  refine zS_aload_n 41 rfl 1 rfl dX12_givenWith_40 ?_
  refine zS_getfp 44 rfl 1 dX12_givenWith_41 zC12 zw1113 (by decide) rfl h0 ?_
  refine zS_sipush 47 rfl (188 : Int32) (by decide) dX12_givenWith_44 ?_
  refine zS_iload_n 48 rfl 0 rfl dX12_givenWith_47 ?_
  refine zS_iadd 49 rfl dX12_givenWith_48 ?_
  refine zS_iconst 50 rfl (0 : Int32) (by decide) dX12_givenWith_49 ?_
  refine zS_iast 51 rfl dX12_givenWith_50 (zP12_s h0) ?_
  refine zS_bnw (fun w5 => ?_)
  refine zS_aload_n 52 rfl 1 rfl dX12_givenWith_51 ?_
  refine zS_getfp 55 rfl 1 dX12_givenWith_52 zC12 zw1113 (by decide) rfl h0 ?_
  refine zS_sipush 58 rfl (212 : Int32) (by decide) dX12_givenWith_55 ?_
  refine zS_iload_n 59 rfl 0 rfl dX12_givenWith_58 ?_
  refine zS_iadd 60 rfl dX12_givenWith_59 ?_
  refine zS_iald 61 rfl dX12_givenWith_60 (zP12_s h0) ?_
  refine zS_bni (fun x6 => ?_)
  refine zS_istore 63 rfl dX12_givenWith_61 (by show 4 < 8; decide) (show _ = [(4, .int _), (3, .int _), (0, .ref _), (1, .int _), (2, .int _)] from rfl) ?_
  refine zS_aload_n 64 rfl 2 rfl dX12_givenWith_63 ?_
  refine zS_cVv (as := []) (st := []) (g' := gX12_keeps) 67 rfl (okX12_keeps _ _ h0) dX12_givenWith_64 zC12 h0 zw1459 cbX12_keeps rfl rfl (by decide) (Nat.le_of_ble_eq_true rfl) (fun r7 w8 => ?_)
  refine zS_aload_n 68 rfl 2 rfl dX12_givenWith_67 ?_
  refine zS_getfp 71 rfl 1 dX12_givenWith_68 zC12 zw1113 (by decide) rfl h0 ?_
  refine zS_iconst 72 rfl (1 : Int32) (by decide) dX12_givenWith_71 ?_
  refine zS_dup2 73 rfl rfl rfl dX12_givenWith_72 ?_
  refine zS_iald 74 rfl dX12_givenWith_73 (zP12_s h0) ?_
  refine zS_iconst 75 rfl (1 : Int32) (by decide) dX12_givenWith_74 ?_
  refine zS_iadd 76 rfl dX12_givenWith_75 ?_
  refine zS_iast 77 rfl dX12_givenWith_76 (zP12_s h0) ?_
  refine zS_bnw (fun w9 => ?_)
  refine zS_iconst 78 rfl (0 : Int32) (by decide) dX12_givenWith_77 ?_
  refine zS_istore 80 rfl dX12_givenWith_78 (by show 5 < 8; decide) (show _ = [(5, .int _), (4, .int _), (3, .int _), (0, .ref _), (1, .int _), (2, .int _)] from rfl) ?_
  refine zS_iconst 81 rfl (0 : Int32) (by decide) dX12_givenWith_80 ?_
  refine zS_istore 83 rfl dX12_givenWith_81 (by show 6 < 8; decide) (show _ = [(6, .int _), (5, .int _), (4, .int _), (3, .int _), (0, .ref _), (1, .int _), (2, .int _)] from rfl) ?_
  refine zS_sub [4, 3, 2, 1, 0] (show _ = [(0, .ref _), (3, .int _), (4, .int _), (5, .int _), (6, .int _)] from rfl) ?_
  exact sX12_givenWith_83 _ _ _ _ _ h0 _

theorem okX12_givenWith (v0 : Nat) (v1 : Int32) (v2 : Int32) (w : zWd) (h0 : zShp v0 = (12, 25)) : zOk gX12_givenWith zEi [.ref v0, .int v1, .int v2] w (mX12_givenWith v0 v1 v2 w) := zOk_of (by decide) rfl (Nat.le_of_ble_eq_true rfl) (sX12_givenWith v0 v1 v2 h0 w)
abbrev gX12_place : zMth := (yX12_place, cX12_place, 6, (some .int), 49, zE0)
theorem cbX12_place : zCbV yX12_place cX12_place 6 (some .int) 1 := ⟨zw1488, zw1489, zw89, zw1490, by decide, by decide, by decide +kernel⟩
set_option maxHeartbeats 4000000 in
set_option maxRecDepth 100000 in
theorem sX12_place_39 (w : zWd) : zS gX12_place zEi 39 [] [] w (mX12_place_39 w) := by
  unfold mX12_place_39
  refine zS_bipush 41 rfl (-3 : Int32) (by decide) dX12_place_39 ?_
  exact zS_reti dX12_place_41 rfl

set_option maxHeartbeats 4000000 in
set_option maxRecDepth 100000 in
theorem sX12_place_112 (k50 : Int32 × Int32 × Int32 × zWd → Option (Int32 × zWd)) (v0 : Nat) (v1 : Int32) (v2 : Int32) (v3 : Int32) (v4 : Int32) (hk50 : ∀ (v2 : Int32) (v3 : Int32) (v4 : Int32) (w : zWd), zS gX12_place zEi 50 [(0, .ref v0), (1, .int v1), (2, .int v2), (3, .int v3), (4, .int v4)] [] w (k50 (v2, v3, v4, w))) (h0 : zShp v0 = (12, 25)) (w : zWd) : zS gX12_place zEi 112 [(0, .ref v0), (1, .int v1), (2, .int v2), (3, .int v3), (4, .int v4)] [] w (mX12_place_112 k50 v0 v1 v2 v3 v4 w) := by
  unfold mX12_place_112
  refine zS_iinc 115 rfl 4 (_ + (1 : Int32)) dX12_place_112 rfl (by show 4 < 6; decide) rfl (show _ = [(4, .int _), (0, .ref _), (1, .int _), (2, .int _), (3, .int _)] from rfl) ?_
  refine zS_goto 50 dX12_place_115 (by decide) ?_
  refine zS_sub [1, 2, 3, 4, 0] (show _ = [(0, .ref _), (1, .int _), (2, .int _), (3, .int _), (4, .int _)] from rfl) ?_
  exact hk50 _ _ _ _

set_option maxHeartbeats 4000000 in
set_option maxRecDepth 100000 in
theorem sX12_place_111 (k50 : Int32 × Int32 × Int32 × zWd → Option (Int32 × zWd)) (v0 : Nat) (v1 : Int32) (v2 : Int32) (v4 : Int32) (s0 : Int32) (hk50 : ∀ (v2 : Int32) (v3 : Int32) (v4 : Int32) (w : zWd), zS gX12_place zEi 50 [(0, .ref v0), (1, .int v1), (2, .int v2), (3, .int v3), (4, .int v4)] [] w (k50 (v2, v3, v4, w))) (h0 : zShp v0 = (12, 25)) (w : zWd) : zS gX12_place zEi 111 [(0, .ref v0), (1, .int v1), (2, .int v2), (4, .int v4)] [.int s0] w (mX12_place_111 k50 v0 v1 v2 v4 s0 w) := by
  unfold mX12_place_111
  refine zS_istore_n 112 rfl dX12_place_111 (by show 3 < 6; decide) (show _ = [(3, .int _), (0, .ref _), (1, .int _), (2, .int _), (4, .int _)] from rfl) ?_
  refine zS_sub [1, 2, 3, 0, 4] (show _ = [(0, .ref _), (1, .int _), (2, .int _), (3, .int _), (4, .int _)] from rfl) ?_
  exact sX12_place_112 k50 _ _ _ _ _ hk50 h0 _

set_option maxHeartbeats 4000000 in
set_option maxRecDepth 100000 in
theorem sX12_place_98 (k50 : Int32 × Int32 × Int32 × zWd → Option (Int32 × zWd)) (v0 : Nat) (v1 : Int32) (v3 : Int32) (v4 : Int32) (v5 : Int32) (s0 : Int32) (hk50 : ∀ (v2 : Int32) (v3 : Int32) (v4 : Int32) (w : zWd), zS gX12_place zEi 50 [(0, .ref v0), (1, .int v1), (2, .int v2), (3, .int v3), (4, .int v4)] [] w (k50 (v2, v3, v4, w))) (h0 : zShp v0 = (12, 25)) (w : zWd) : zS gX12_place zEi 98 [(0, .ref v0), (1, .int v1), (3, .int v3), (4, .int v4), (5, .int v5)] [.int s0] w (mX12_place_98 k50 v0 v1 v3 v4 v5 s0 w) := by
  unfold mX12_place_98
  refine zS_istore_n 99 rfl dX12_place_98 (by show 2 < 6; decide) (show _ = [(2, .int _), (0, .ref _), (1, .int _), (3, .int _), (4, .int _), (5, .int _)] from rfl) ?_
  refine zS_iload 101 rfl 5 rfl dX12_place_99 ?_
  refine zS_iload_n 102 rfl 3 rfl dX12_place_101 ?_
  refine zS_icmp_le 110 105 rfl dX12_place_102 (by decide) ?_ ?_
  · refine zS_iload_n 111 rfl 3 rfl dX12_place_110 ?_
    refine zS_sub [1, 2, 0, 4] (show _ = [(0, .ref _), (1, .int _), (2, .int _), (4, .int _)] from rfl) ?_
    exact sX12_place_111 k50 _ _ _ _ _ hk50 h0 _
  · refine zS_iload 107 rfl 5 rfl dX12_place_105 ?_
    refine zS_goto 111 dX12_place_107 (by decide) ?_
    refine zS_sub [1, 2, 0, 4] (show _ = [(0, .ref _), (1, .int _), (2, .int _), (4, .int _)] from rfl) ?_
    exact sX12_place_111 k50 _ _ _ _ _ hk50 h0 _

set_option maxHeartbeats 4000000 in
set_option maxRecDepth 100000 in
theorem sX12_place_50b (v0 : Nat) (v1 : Int32) (k50 : Int32 × Int32 × Int32 × zWd → Option (Int32 × zWd)) (v2 : Int32) (v3 : Int32) (v4 : Int32) (hk50 : ∀ (v2 : Int32) (v3 : Int32) (v4 : Int32) (w : zWd), zS gX12_place zEi 50 [(0, .ref v0), (1, .int v1), (2, .int v2), (3, .int v3), (4, .int v4)] [] w (k50 (v2, v3, v4, w))) (h0 : zShp v0 = (12, 25)) (w : zWd) : zS gX12_place zEi 50 [(0, .ref v0), (1, .int v1), (2, .int v2), (3, .int v3), (4, .int v4)] [] w (mX12_place_50b v0 v1 k50 v2 v3 v4 w) := by
  unfold mX12_place_50b
  refine zS_iload 52 rfl 4 rfl dX12_place_50 ?_
  refine zS_bipush 54 rfl (30 : Int32) (by decide) dX12_place_52 ?_
  refine zS_icmp_ge 118 57 rfl dX12_place_54 (by decide) ?_ ?_
  · refine zS_iload_n 119 rfl 2 rfl dX12_place_118 ?_
    exact zS_reti dX12_place_119 rfl
  · refine zS_aload_n 58 rfl 0 rfl dX12_place_57 ?_
    refine zS_iload 60 rfl 4 rfl dX12_place_58 ?_
    refine zS_cVi (as := [.int _]) (st := []) (g' := gX12_hasTap) 63 rfl (okX12_hasTap _ _ _ h0) dX12_place_60 zC12 h0 zw1207 cbX12_hasTap rfl rfl (by decide) (Nat.le_of_ble_eq_true rfl) (fun r3 w4 => ?_)
    refine zS_if_ne 112 66 rfl dX12_place_63 (by decide) ?_ ?_
    · refine zS_aload_n 67 rfl 0 rfl dX12_place_66 ?_
      refine zS_iload 69 rfl 4 rfl dX12_place_67 ?_
      refine zS_iconst 70 rfl (1 : Int32) (by decide) dX12_place_69 ?_
      refine zS_iconst 71 rfl (1 : Int32) (by decide) dX12_place_70 ?_
      refine zS_cVi (as := [.int _, .int _, .int _]) (st := []) (g' := gX12_mayBe) 74 rfl (okX12_mayBe _ _ _ _ _ h0) dX12_place_71 zC12 h0 zw1211 cbX12_mayBe rfl rfl (by decide) (Nat.le_of_ble_eq_true rfl) (fun r5 w6 => ?_)
      refine zS_if_eq 112 77 rfl dX12_place_74 (by decide) ?_ ?_
      · exact sX12_place_112 k50 _ _ _ _ _ hk50 h0 _
      · refine zS_aload_n 78 rfl 0 rfl dX12_place_77 ?_
        refine zS_iload 80 rfl 4 rfl dX12_place_78 ?_
        refine zS_iload_n 81 rfl 1 rfl dX12_place_80 ?_
        refine zS_cVi (as := [.int _, .int _]) (st := []) (g' := gX12_givenWith) 84 rfl (okX12_givenWith _ _ _ _ h0) dX12_place_81 zC12 h0 zw1491 cbX12_givenWith rfl rfl (by decide) (Nat.le_of_ble_eq_true rfl) (fun r7 w8 => ?_)
        refine zS_istore 86 rfl dX12_place_84 (by show 5 < 6; decide) (show _ = [(5, .int _), (0, .ref _), (1, .int _), (2, .int _), (3, .int _), (4, .int _)] from rfl) ?_
        refine zS_iload 88 rfl 0 rfl dX12_place_86 ?_
        refine zS_iload_n 89 rfl 4 rfl dX12_place_88 ?_
        refine zS_icmp_le 97 92 rfl dX12_place_89 (by decide) ?_ ?_
        · refine zS_iload_n 98 rfl 3 rfl dX12_place_97 ?_
          refine zS_sub [1, 2, 4, 5, 0] (show _ = [(0, .ref _), (1, .int _), (3, .int _), (4, .int _), (5, .int _)] from rfl) ?_
          exact sX12_place_98 k50 _ _ _ _ _ _ hk50 h0 _
        · refine zS_iload 94 rfl 5 rfl dX12_place_92 ?_
          refine zS_goto 98 dX12_place_94 (by decide) ?_
          refine zS_sub [1, 2, 4, 5, 0] (show _ = [(0, .ref _), (1, .int _), (3, .int _), (4, .int _), (5, .int _)] from rfl) ?_
          exact sX12_place_98 k50 _ _ _ _ _ _ hk50 h0 _
    · exact sX12_place_112 k50 _ _ _ _ _ hk50 h0 _

theorem sX12_place_50 (v0 : Nat) (v1 : Int32) (v2 : Int32) (v3 : Int32) (v4 : Int32) (h0 : zShp v0 = (12, 25)) (w : zWd) : zS gX12_place zEi 50 [(0, .ref v0), (1, .int v1), (2, .int v2), (3, .int v3), (4, .int v4)] [] w (mX12_place_50 v0 v1 v2 v3 v4 w) :=
  zS_loop (L := fun q : Int32 × Int32 × Int32 × zWd => [(0, .ref v0), (1, .int v1), (2, .int q.1), (3, .int q.2.1), (4, .int q.2.2.1)]) (V := fun q => q.2.2.2) (T := fun _ => []) (F := fun k q => mX12_place_50b v0 v1 k q.1 q.2.1 q.2.2.1 q.2.2.2) (fun k hk q => sX12_place_50b v0 v1 k q.1 q.2.1 q.2.2.1 (fun a2 a3 a4 w => hk (a2, a3, a4, w)) h0 q.2.2.2) zFU (v2, v3, v4, w)
set_option maxHeartbeats 4000000 in
set_option maxRecDepth 100000 in
theorem sX12_place (v0 : Nat) (v1 : Int32) (h0 : zShp v0 = (12, 25)) (w : zWd) : zS gX12_place zEi 0 [(0, .ref v0), (1, .int v1)] [] w (mX12_place v0 v1 w) := by
  unfold mX12_place
  refine zS_iload_n 1 rfl 1 rfl dX12_place_0 ?_
  refine zS_iconst 2 rfl (1 : Int32) (by decide) dX12_place_1 ?_
  refine zS_sipush 5 rfl (500 : Int32) (by decide) dX12_place_2 ?_
  refine zS_cSi (as := [.int _, .int _, .int _]) (st := []) (g' := gX12_in) 8 rfl (okX12_in _ _ _ _) dX12_place_5 zw1196 cbX12_in rfl rfl (by decide) (Nat.le_of_ble_eq_true rfl) (fun r1 w2 => ?_)
  refine zS_if_ne 14 11 rfl dX12_place_8 (by decide) ?_ ?_
  · refine zS_bipush 13 rfl (-2 : Int32) (by decide) dX12_place_11 ?_
    exact zS_reti dX12_place_13 rfl
  · refine zS_aload_n 15 rfl 0 rfl dX12_place_14 ?_
    refine zS_getfp 18 rfl 1 dX12_place_15 zC12 zw1113 (by decide) rfl h0 ?_
    refine zS_iconst 19 rfl (1 : Int32) (by decide) dX12_place_18 ?_
    refine zS_iald 20 rfl dX12_place_19 (zP12_s h0) ?_
    refine zS_bipush 22 rfl (12 : Int32) (by decide) dX12_place_20 ?_
    refine zS_icmp_eq 39 25 rfl dX12_place_22 (by decide) ?_ ?_
    · refine zS_sub [] (show _ = [] from rfl) ?_
      exact sX12_place_39 _
    · refine zS_aload_n 26 rfl 0 rfl dX12_place_25 ?_
      refine zS_getfp 29 rfl 1 dX12_place_26 zC12 zw1113 (by decide) rfl h0 ?_
      refine zS_iconst 30 rfl (0 : Int32) (by decide) dX12_place_29 ?_
      refine zS_iald 31 rfl dX12_place_30 (zP12_s h0) ?_
      refine zS_iconst 32 rfl (5 : Int32) (by decide) dX12_place_31 ?_
      refine zS_iadd 33 rfl dX12_place_32 ?_
      refine zS_sipush 36 rfl (400 : Int32) (by decide) dX12_place_33 ?_
      refine zS_icmp_le 42 39 rfl dX12_place_36 (by decide) ?_ ?_
      · refine zS_bipush 44 rfl (-5 : Int32) (by decide) dX12_place_42 ?_
        refine zS_istore_n 45 rfl dX12_place_44 (by show 2 < 6; decide) (show _ = [(2, .int _), (0, .ref _), (1, .int _)] from rfl) ?_
        refine zS_iconst 46 rfl (-1 : Int32) (by decide) dX12_place_45 ?_
        refine zS_istore_n 47 rfl dX12_place_46 (by show 3 < 6; decide) (show _ = [(3, .int _), (2, .int _), (0, .ref _), (1, .int _)] from rfl) ?_
        refine zS_iconst 48 rfl (0 : Int32) (by decide) dX12_place_47 ?_
        refine zS_istore 50 rfl dX12_place_48 (by show 4 < 6; decide) (show _ = [(4, .int _), (3, .int _), (2, .int _), (0, .ref _), (1, .int _)] from rfl) ?_
        refine zS_sub [3, 4, 2, 1, 0] (show _ = [(0, .ref _), (1, .int _), (2, .int _), (3, .int _), (4, .int _)] from rfl) ?_
        exact sX12_place_50 _ _ _ _ _ h0 _
      · refine zS_sub [] (show _ = [] from rfl) ?_
        exact sX12_place_39 _

theorem okX12_place (v0 : Nat) (v1 : Int32) (w : zWd) (h0 : zShp v0 = (12, 25)) : zOk gX12_place zEi [.ref v0, .int v1] w (mX12_place v0 v1 w) := zOk_of (by decide) rfl (Nat.le_of_ble_eq_true rfl) (sX12_place v0 v1 h0 w)
abbrev gX12_tried : zMth := (yX12_tried, cX12_tried, 4, (some .int), 50, zE0)
theorem cbX12_tried : zCbV yX12_tried cX12_tried 4 (some .int) 2 := ⟨zw1496, zw1497, zw89, zw1498, by decide, by decide, by decide +kernel⟩
set_option maxHeartbeats 4000000 in
set_option maxRecDepth 100000 in
theorem sX12_tried_22 (w : zWd) : zS gX12_tried zEi 22 [] [] w (mX12_tried_22 w) := by
  unfold mX12_tried_22
  refine zS_iconst 23 rfl (-1 : Int32) (by decide) dX12_tried_22 ?_
  exact zS_reti dX12_tried_23 rfl

set_option maxHeartbeats 4000000 in
set_option maxRecDepth 100000 in
theorem sX12_tried_112 (v0 : Nat) (v3 : Int32) (h0 : zShp v0 = (12, 25)) (w : zWd) : zS gX12_tried zEi 112 [(0, .ref v0), (3, .int v3)] [] w (mX12_tried_112 v0 v3 w) := by
  unfold mX12_tried_112
  refine zS_aload_n 113 rfl 0 rfl dX12_tried_112 ?_
  refine zS_getfp 116 rfl 1 dX12_tried_113 zC12 zw1113 (by decide) rfl h0 ?_
  refine zS_iconst 117 rfl (2 : Int32) (by decide) dX12_tried_116 ?_
  refine zS_dup2 118 rfl rfl rfl dX12_tried_117 ?_
  refine zS_iald 119 rfl dX12_tried_118 (zP12_s h0) ?_
  refine zS_iconst 120 rfl (1 : Int32) (by decide) dX12_tried_119 ?_
  refine zS_isub 121 rfl dX12_tried_120 ?_
  refine zS_iast 122 rfl dX12_tried_121 (zP12_s h0) ?_
  refine zS_bnw (fun w12 => ?_)
  refine zS_iload_n 123 rfl 1 rfl dX12_tried_122 ?_
  exact zS_reti dX12_tried_123 rfl

set_option maxHeartbeats 4000000 in
set_option maxRecDepth 100000 in
theorem sX12_tried_24 (v0 : Nat) (v1 : Int32) (v2 : Int32) (h0 : zShp v0 = (12, 25)) (w : zWd) : zS gX12_tried zEi 24 [(0, .ref v0), (1, .int v1), (2, .int v2)] [] w (mX12_tried_24 v0 v1 v2 w) := by
  unfold mX12_tried_24
  refine zS_aload_n 25 rfl 0 rfl dX12_tried_24 ?_
  refine zS_aload_n 26 rfl 0 rfl dX12_tried_25 ?_
  refine zS_getfp 29 rfl 1 dX12_tried_26 zC12 zw1113 (by decide) rfl h0 ?_
  refine zS_iconst 30 rfl (2 : Int32) (by decide) dX12_tried_29 ?_
  refine zS_iald 31 rfl dX12_tried_30 (zP12_s h0) ?_
  refine zS_aload_n 32 rfl 0 rfl dX12_tried_31 ?_
  refine zS_getfp 35 rfl 1 dX12_tried_32 zC12 zw1113 (by decide) rfl h0 ?_
  refine zS_iconst 36 rfl (0 : Int32) (by decide) dX12_tried_35 ?_
  refine zS_iald 37 rfl dX12_tried_36 (zP12_s h0) ?_
  refine zS_cVi (as := [.int _, .int _]) (st := []) (g' := gX12_readsOrder) 40 rfl (okX12_readsOrder _ _ _ _ h0) dX12_tried_37 zC12 h0 zw1321 cbX12_readsOrder rfl rfl (by decide) (Nat.le_of_ble_eq_true rfl) (fun r5 w6 => ?_)
  refine zS_if_ne 51 43 rfl dX12_tried_40 (by decide) ?_ ?_
  · refine zS_bipush 45 rfl (-10 : Int32) (by decide) dX12_tried_43 ?_
    refine zS_aload_n 46 rfl 0 rfl dX12_tried_45 ?_
    refine zS_getfi 49 rfl 11 dX12_tried_46 zC12 zw1123 (by decide) rfl h0 ?_
    refine zS_isub 50 rfl dX12_tried_49 ?_
    exact zS_reti dX12_tried_50 rfl
  · refine zS_aload_n 52 rfl 0 rfl dX12_tried_51 ?_
    refine zS_getfp 55 rfl 1 dX12_tried_52 zC12 zw1113 (by decide) rfl h0 ?_
    refine zS_iconst 56 rfl (2 : Int32) (by decide) dX12_tried_55 ?_
    refine zS_dup2 57 rfl rfl rfl dX12_tried_56 ?_
    refine zS_iald 58 rfl dX12_tried_57 (zP12_s h0) ?_
    refine zS_iconst 59 rfl (1 : Int32) (by decide) dX12_tried_58 ?_
    refine zS_iadd 60 rfl dX12_tried_59 ?_
    refine zS_iast 61 rfl dX12_tried_60 (zP12_s h0) ?_
    refine zS_bnw (fun w7 => ?_)
    refine zS_iconst 62 rfl (-1 : Int32) (by decide) dX12_tried_61 ?_
    refine zS_istore_n 63 rfl dX12_tried_62 (by show 3 < 4; decide) (show _ = [(3, .int _), (0, .ref _), (1, .int _), (2, .int _)] from rfl) ?_
    refine zS_iload_n 64 rfl 2 rfl dX12_tried_63 ?_
    refine zS_iconst 65 rfl (1 : Int32) (by decide) dX12_tried_64 ?_
    refine zS_icmp_ne 86 68 rfl dX12_tried_65 (by decide) ?_ ?_
    · refine zS_aload_n 69 rfl 1 rfl dX12_tried_68 ?_
      refine zS_iload_n 70 rfl 3 rfl dX12_tried_69 ?_
      refine zS_aload_n 71 rfl 1 rfl dX12_tried_70 ?_
      refine zS_getfp 74 rfl 1 dX12_tried_71 zC12 zw1113 (by decide) rfl h0 ?_
      refine zS_iconst 75 rfl (0 : Int32) (by decide) dX12_tried_74 ?_
      refine zS_iald 76 rfl dX12_tried_75 (zP12_s h0) ?_
      refine zS_cVi (as := [.int _, .int _]) (st := []) (g' := gX12_mixOf) 79 rfl (okX12_mixOf _ _ _ _ h0) dX12_tried_76 zC12 h0 zw1408 cbX12_mixOf rfl rfl (by decide) (Nat.le_of_ble_eq_true rfl) (fun r8 w9 => ?_)
      refine zS_cSi (as := [.int _]) (st := []) (g' := gX12_count1) 82 rfl (okX12_count1 _ _) dX12_tried_79 zw1452 cbX12_count1 rfl rfl (by decide) (Nat.le_of_ble_eq_true rfl) (fun r10 w11 => ?_)
      refine zS_istore_n 83 rfl dX12_tried_82 (by show 3 < 4; decide) (show _ = [(3, .int _), (0, .ref _), (1, .int _), (2, .int _)] from rfl) ?_
      refine zS_goto 112 dX12_tried_83 (by decide) ?_
      refine zS_sub [1, 0] (show _ = [(0, .ref _), (3, .int _)] from rfl) ?_
      exact sX12_tried_112 _ _ h0 _
    · refine zS_aload_n 87 rfl 1 rfl dX12_tried_86 ?_
      refine zS_getfp 90 rfl 1 dX12_tried_87 zC12 zw1113 (by decide) rfl h0 ?_
      refine zS_iconst 91 rfl (3 : Int32) (by decide) dX12_tried_90 ?_
      refine zS_iald 92 rfl dX12_tried_91 (zP12_s h0) ?_
      refine zS_if_le 112 95 rfl dX12_tried_92 (by decide) ?_ ?_
      · refine zS_sub [1, 0] (show _ = [(0, .ref _), (3, .int _)] from rfl) ?_
        exact sX12_tried_112 _ _ h0 _
      · refine zS_aload_n 96 rfl 1 rfl dX12_tried_95 ?_
        refine zS_aload_n 97 rfl 1 rfl dX12_tried_96 ?_
        refine zS_getfp 100 rfl 1 dX12_tried_97 zC12 zw1113 (by decide) rfl h0 ?_
        refine zS_iconst 101 rfl (0 : Int32) (by decide) dX12_tried_100 ?_
        refine zS_iald 102 rfl dX12_tried_101 (zP12_s h0) ?_
        refine zS_cVv (as := [.int _]) (st := []) (g' := gX12_rows) 105 rfl (okX12_rows _ _ _ h0) dX12_tried_102 zC12 h0 zw1373 cbX12_rows rfl rfl (by decide) (Nat.le_of_ble_eq_true rfl) (fun r13 w14 => ?_)
        refine zS_aload_n 106 rfl 1 rfl dX12_tried_105 ?_
        refine zS_getfp 109 rfl 15 dX12_tried_106 zC12 zw1127 (by decide) rfl h0 ?_
        refine zS_iconst 110 rfl (0 : Int32) (by decide) dX12_tried_109 ?_
        refine zS_iald 111 rfl dX12_tried_110 (zP12_line h0) ?_
        refine zS_bni (fun x15 => ?_)
        refine zS_istore_n 112 rfl dX12_tried_111 (by show 3 < 4; decide) (show _ = [(3, .int _), (0, .ref _), (1, .int _), (2, .int _)] from rfl) ?_
        refine zS_sub [1, 0] (show _ = [(0, .ref _), (3, .int _)] from rfl) ?_
        exact sX12_tried_112 _ _ h0 _

set_option maxHeartbeats 4000000 in
set_option maxRecDepth 100000 in
theorem sX12_tried (v0 : Nat) (v1 : Int32) (v2 : Int32) (h0 : zShp v0 = (12, 25)) (w : zWd) : zS gX12_tried zEi 0 [(0, .ref v0), (1, .int v1), (2, .int v2)] [] w (mX12_tried v0 v1 v2 w) := by
  unfold mX12_tried
  refine zS_iload_n 1 rfl 1 rfl dX12_tried_0 ?_
  refine zS_iconst 2 rfl (0 : Int32) (by decide) dX12_tried_1 ?_
  refine zS_iconst 3 rfl (1 : Int32) (by decide) dX12_tried_2 ?_
  refine zS_cSi (as := [.int _, .int _, .int _]) (st := []) (g' := gX12_in) 6 rfl (okX12_in _ _ _ _) dX12_tried_3 zw1196 cbX12_in rfl rfl (by decide) (Nat.le_of_ble_eq_true rfl) (fun r1 w2 => ?_)
  refine zS_if_eq 22 9 rfl dX12_tried_6 (by decide) ?_ ?_
  · refine zS_sub [] (show _ = [] from rfl) ?_
    exact sX12_tried_22 _
  · refine zS_iload_n 10 rfl 1 rfl dX12_tried_9 ?_
    refine zS_iconst 11 rfl (1 : Int32) (by decide) dX12_tried_10 ?_
    refine zS_icmp_ne 24 14 rfl dX12_tried_11 (by decide) ?_ ?_
    · refine zS_aload_n 15 rfl 0 rfl dX12_tried_14 ?_
      refine zS_iload_n 16 rfl 2 rfl dX12_tried_15 ?_
      refine zS_cVi (as := [.int _]) (st := []) (g' := gX12_isGone) 19 rfl (okX12_isGone _ _ _ h0) dX12_tried_16 zC12 h0 zw1293 cbX12_isGone rfl rfl (by decide) (Nat.le_of_ble_eq_true rfl) (fun r3 w4 => ?_)
      refine zS_if_ne 24 22 rfl dX12_tried_19 (by decide) ?_ ?_
      · refine zS_sub [] (show _ = [] from rfl) ?_
        exact sX12_tried_22 _
      · exact sX12_tried_24 _ _ _ h0 _
    · exact sX12_tried_24 _ _ _ h0 _

theorem okX12_tried (v0 : Nat) (v1 : Int32) (v2 : Int32) (w : zWd) (h0 : zShp v0 = (12, 25)) : zOk gX12_tried zEi [.ref v0, .int v1, .int v2] w (mX12_tried v0 v1 v2 w) := zOk_of (by decide) rfl (Nat.le_of_ble_eq_true rfl) (sX12_tried v0 v1 v2 h0 w)
abbrev gX12_image : zMth := (yX12_image, cX12_image, 2, (some .int), 1, zE0)
theorem cbX12_image : zCbV yX12_image cX12_image 2 (some .int) 0 := ⟨zw1500, zw1501, zw89, zw1502, by decide, by decide, by decide +kernel⟩
set_option maxHeartbeats 4000000 in
set_option maxRecDepth 100000 in
theorem sX12_image_2b (v0 : Nat) (k2 : Int32 × zWd → Option (Int32 × zWd)) (v1 : Int32) (hk2 : ∀ (v1 : Int32) (w : zWd), zS gX12_image zEi 2 [(0, .ref v0), (1, .int v1)] [] w (k2 (v1, w))) (h0 : zShp v0 = (12, 25)) (w : zWd) : zS gX12_image zEi 2 [(0, .ref v0), (1, .int v1)] [] w (mX12_image_2b v0 k2 v1 w) := by
  unfold mX12_image_2b
  refine zS_iload_n 3 rfl 1 rfl dX12_image_2 ?_
  refine zS_sipush 6 rfl (21948 : Int32) (by decide) dX12_image_3 ?_
  refine zS_icmp_ge 27 9 rfl dX12_image_6 (by decide) ?_ ?_
  · refine zS_aload_n 28 rfl 0 rfl dX12_image_27 ?_
    refine zS_iconst 29 rfl (1 : Int32) (by decide) dX12_image_28 ?_
    refine zS_putfb 32 rfl 3 dX12_image_29 zC12 zw1115 (by decide) rfl rfl rfl h0 ?_
    refine zS_bnw (fun w1 => ?_)
    refine zS_aload_n 33 rfl 0 rfl dX12_image_32 ?_
    refine zS_getfp 36 rfl 1 dX12_image_33 zC12 zw1113 (by decide) rfl h0 ?_
    refine zS_iconst 37 rfl (0 : Int32) (by decide) dX12_image_36 ?_
    refine zS_iald 38 rfl dX12_image_37 (zP12_s h0) ?_
    exact zS_reti dX12_image_38 rfl
  · refine zS_aload_n 10 rfl 0 rfl dX12_image_9 ?_
    refine zS_getfp 13 rfl 2 dX12_image_10 zC12 zw1114 (by decide) rfl h0 ?_
    refine zS_iload_n 14 rfl 1 rfl dX12_image_13 ?_
    refine zS_aload_n 15 rfl 0 rfl dX12_image_14 ?_
    refine zS_getfp 18 rfl 1 dX12_image_15 zC12 zw1113 (by decide) rfl h0 ?_
    refine zS_iload_n 19 rfl 1 rfl dX12_image_18 ?_
    refine zS_iald 20 rfl dX12_image_19 (zP12_s h0) ?_
    refine zS_iast 21 rfl dX12_image_20 (zP12_image h0) ?_
    refine zS_bnw (fun w2 => ?_)
    refine zS_iinc 24 rfl 1 (_ + (1 : Int32)) dX12_image_21 rfl (by show 1 < 2; decide) rfl (show _ = [(1, .int _), (0, .ref _)] from rfl) ?_
    refine zS_goto 2 dX12_image_24 (by decide) ?_
    refine zS_sub [1, 0] (show _ = [(0, .ref _), (1, .int _)] from rfl) ?_
    exact hk2 _ _

theorem sX12_image_2 (v0 : Nat) (v1 : Int32) (h0 : zShp v0 = (12, 25)) (w : zWd) : zS gX12_image zEi 2 [(0, .ref v0), (1, .int v1)] [] w (mX12_image_2 v0 v1 w) :=
  zS_loop (L := fun q : Int32 × zWd => [(0, .ref v0), (1, .int q.1)]) (V := fun q => q.2) (T := fun _ => []) (F := fun k q => mX12_image_2b v0 k q.1 q.2) (fun k hk q => sX12_image_2b v0 k q.1 (fun a1 w => hk (a1, w)) h0 q.2) zFU (v1, w)
set_option maxHeartbeats 4000000 in
set_option maxRecDepth 100000 in
theorem sX12_image (v0 : Nat) (h0 : zShp v0 = (12, 25)) (w : zWd) : zS gX12_image zEi 0 [(0, .ref v0)] [] w (mX12_image v0 w) := by
  unfold mX12_image
  refine zS_iconst 1 rfl (0 : Int32) (by decide) dX12_image_0 ?_
  refine zS_istore_n 2 rfl dX12_image_1 (by show 1 < 2; decide) (show _ = [(1, .int _), (0, .ref _)] from rfl) ?_
  refine zS_sub [1, 0] (show _ = [(0, .ref _), (1, .int _)] from rfl) ?_
  exact sX12_image_2 _ _ h0 _

theorem okX12_image (v0 : Nat) (w : zWd) (h0 : zShp v0 = (12, 25)) : zOk gX12_image zEi [.ref v0] w (mX12_image v0 w) := zOk_of (by decide) rfl (Nat.le_of_ble_eq_true rfl) (sX12_image v0 h0 w)
abbrev gX12_undo : zMth := (yX12_undo, cX12_undo, 2, (some .int), 1, zE0)
theorem cbX12_undo : zCbV yX12_undo cX12_undo 2 (some .int) 0 := ⟨zw1504, zw1505, zw89, zw1506, by decide, by decide, by decide +kernel⟩
set_option maxHeartbeats 4000000 in
set_option maxRecDepth 100000 in
theorem sX12_undo_12b (v0 : Nat) (k12 : Int32 × zWd → Option (Int32 × zWd)) (v1 : Int32) (hk12 : ∀ (v1 : Int32) (w : zWd), zS gX12_undo zEi 12 [(0, .ref v0), (1, .int v1)] [] w (k12 (v1, w))) (h0 : zShp v0 = (12, 25)) (w : zWd) : zS gX12_undo zEi 12 [(0, .ref v0), (1, .int v1)] [] w (mX12_undo_12b v0 k12 v1 w) := by
  unfold mX12_undo_12b
  refine zS_iload_n 13 rfl 1 rfl dX12_undo_12 ?_
  refine zS_sipush 16 rfl (21948 : Int32) (by decide) dX12_undo_13 ?_
  refine zS_icmp_ge 37 19 rfl dX12_undo_16 (by decide) ?_ ?_
  · refine zS_aload_n 38 rfl 0 rfl dX12_undo_37 ?_
    refine zS_getfp 41 rfl 1 dX12_undo_38 zC12 zw1113 (by decide) rfl h0 ?_
    refine zS_iconst 42 rfl (0 : Int32) (by decide) dX12_undo_41 ?_
    refine zS_iald 43 rfl dX12_undo_42 (zP12_s h0) ?_
    exact zS_reti dX12_undo_43 rfl
  · refine zS_aload_n 20 rfl 0 rfl dX12_undo_19 ?_
    refine zS_getfp 23 rfl 1 dX12_undo_20 zC12 zw1113 (by decide) rfl h0 ?_
    refine zS_iload_n 24 rfl 1 rfl dX12_undo_23 ?_
    refine zS_aload_n 25 rfl 0 rfl dX12_undo_24 ?_
    refine zS_getfp 28 rfl 2 dX12_undo_25 zC12 zw1114 (by decide) rfl h0 ?_
    refine zS_iload_n 29 rfl 1 rfl dX12_undo_28 ?_
    refine zS_iald 30 rfl dX12_undo_29 (zP12_image h0) ?_
    refine zS_iast 31 rfl dX12_undo_30 (zP12_s h0) ?_
    refine zS_bnw (fun w1 => ?_)
    refine zS_iinc 34 rfl 1 (_ + (1 : Int32)) dX12_undo_31 rfl (by show 1 < 2; decide) rfl (show _ = [(1, .int _), (0, .ref _)] from rfl) ?_
    refine zS_goto 12 dX12_undo_34 (by decide) ?_
    refine zS_sub [1, 0] (show _ = [(0, .ref _), (1, .int _)] from rfl) ?_
    exact hk12 _ _

theorem sX12_undo_12 (v0 : Nat) (v1 : Int32) (h0 : zShp v0 = (12, 25)) (w : zWd) : zS gX12_undo zEi 12 [(0, .ref v0), (1, .int v1)] [] w (mX12_undo_12 v0 v1 w) :=
  zS_loop (L := fun q : Int32 × zWd => [(0, .ref v0), (1, .int q.1)]) (V := fun q => q.2) (T := fun _ => []) (F := fun k q => mX12_undo_12b v0 k q.1 q.2) (fun k hk q => sX12_undo_12b v0 k q.1 (fun a1 w => hk (a1, w)) h0 q.2) zFU (v1, w)
set_option maxHeartbeats 4000000 in
set_option maxRecDepth 100000 in
theorem sX12_undo (v0 : Nat) (h0 : zShp v0 = (12, 25)) (w : zWd) : zS gX12_undo zEi 0 [(0, .ref v0)] [] w (mX12_undo v0 w) := by
  unfold mX12_undo
  refine zS_aload_n 1 rfl 0 rfl dX12_undo_0 ?_
  refine zS_getfi 4 rfl 3 dX12_undo_1 zC12 zw1115 (by decide) rfl h0 ?_
  refine zS_if_ne 10 7 rfl dX12_undo_4 (by decide) ?_ ?_
  · refine zS_bipush 9 rfl (-3 : Int32) (by decide) dX12_undo_7 ?_
    exact zS_reti dX12_undo_9 rfl
  · refine zS_iconst 11 rfl (0 : Int32) (by decide) dX12_undo_10 ?_
    refine zS_istore_n 12 rfl dX12_undo_11 (by show 1 < 2; decide) (show _ = [(1, .int _), (0, .ref _)] from rfl) ?_
    refine zS_sub [1, 0] (show _ = [(0, .ref _), (1, .int _)] from rfl) ?_
    exact sX12_undo_12 _ _ h0 _

theorem okX12_undo (v0 : Nat) (w : zWd) (h0 : zShp v0 = (12, 25)) : zOk gX12_undo zEi [.ref v0] w (mX12_undo v0 w) := zOk_of (by decide) rfl (Nat.le_of_ble_eq_true rfl) (sX12_undo v0 h0 w)
abbrev gX12_count : zMth := (yX12_count, cX12_count, 4, (some .int), 1, zE0)
theorem cbX12_count : zCbV yX12_count cX12_count 4 (some .int) 1 := ⟨zw1508, zw1509, zw89, zw1510, by decide, by decide, by decide +kernel⟩
set_option maxHeartbeats 4000000 in
set_option maxRecDepth 100000 in
theorem sX12_count_114b (v0 : Nat) (k114 : Int32 × Int32 × zWd → Option (Int32 × zWd)) (v2 : Int32) (v3 : Int32) (hk114 : ∀ (v2 : Int32) (v3 : Int32) (w : zWd), zS gX12_count zEi 114 [(0, .ref v0), (2, .int v2), (3, .int v3)] [] w (k114 (v2, v3, w))) (h0 : zShp v0 = (12, 25)) (w : zWd) : zS gX12_count zEi 114 [(0, .ref v0), (2, .int v2), (3, .int v3)] [] w (mX12_count_114b v0 k114 v2 v3 w) := by
  unfold mX12_count_114b
  refine zS_iload_n 115 rfl 2 rfl dX12_count_114 ?_
  refine zS_bipush 117 rfl (30 : Int32) (by decide) dX12_count_115 ?_
  refine zS_icmp_ge 138 120 rfl dX12_count_117 (by decide) ?_ ?_
  · refine zS_iload_n 139 rfl 1 rfl dX12_count_138 ?_
    exact zS_reti dX12_count_139 rfl
  · refine zS_iload_n 121 rfl 1 rfl dX12_count_120 ?_
    refine zS_aload_n 122 rfl 0 rfl dX12_count_121 ?_
    refine zS_getfp 125 rfl 1 dX12_count_122 zC12 zw1113 (by decide) rfl h0 ?_
    refine zS_bipush 127 rfl (50 : Int32) (by decide) dX12_count_125 ?_
    refine zS_iload_n 128 rfl 2 rfl dX12_count_127 ?_
    refine zS_iadd 129 rfl dX12_count_128 ?_
    refine zS_iald 130 rfl dX12_count_129 (zP12_s h0) ?_
    refine zS_iadd 131 rfl dX12_count_130 ?_
    refine zS_bni (fun x1 => ?_)
    refine zS_istore_n 132 rfl dX12_count_131 (by show 2 < 4; decide) (show _ = [(2, .int _), (0, .ref _), (3, .int _)] from rfl) ?_
    refine zS_iinc 135 rfl 2 (_ + (1 : Int32)) dX12_count_132 rfl (by show 3 < 4; decide) rfl (show _ = [(3, .int _), (2, .int _), (0, .ref _)] from rfl) ?_
    refine zS_goto 114 dX12_count_135 (by decide) ?_
    refine zS_sub [2, 1, 0] (show _ = [(0, .ref _), (2, .int _), (3, .int _)] from rfl) ?_
    exact hk114 _ _ _

theorem sX12_count_114 (v0 : Nat) (v2 : Int32) (v3 : Int32) (h0 : zShp v0 = (12, 25)) (w : zWd) : zS gX12_count zEi 114 [(0, .ref v0), (2, .int v2), (3, .int v3)] [] w (mX12_count_114 v0 v2 v3 w) :=
  zS_loop (L := fun q : Int32 × Int32 × zWd => [(0, .ref v0), (2, .int q.1), (3, .int q.2.1)]) (V := fun q => q.2.2) (T := fun _ => []) (F := fun k q => mX12_count_114b v0 k q.1 q.2.1 q.2.2) (fun k hk q => sX12_count_114b v0 k q.1 q.2.1 (fun a2 a3 w => hk (a2, a3, w)) h0 q.2.2) zFU (v2, v3, w)
set_option maxHeartbeats 4000000 in
set_option maxRecDepth 100000 in
theorem sX12_count (v0 : Nat) (v1 : Int32) (h0 : zShp v0 = (12, 25)) (w : zWd) : zS gX12_count zEi 0 [(0, .ref v0), (1, .int v1)] [] w (mX12_count v0 v1 w) := by
  unfold mX12_count
  refine zS_iload_n 1 rfl 1 rfl dX12_count_0 ?_
  refine zS_tsw (lo := 0) ?_
  refine zSw_in (c0 := (0 : Int32)) 0 52 dX12_count_1 (by decide) (by decide) rfl (by decide) ?_ ?_
  · refine zS_aload_n 53 rfl 0 rfl dX12_count_52 ?_
    refine zS_getfp 56 rfl 1 dX12_count_53 zC12 zw1113 (by decide) rfl h0 ?_
    refine zS_iconst 57 rfl (1 : Int32) (by decide) dX12_count_56 ?_
    refine zS_iald 58 rfl dX12_count_57 (zP12_s h0) ?_
    exact zS_reti dX12_count_58 rfl
  refine zSw_in (c0 := (1 : Int32)) 1 59 dX12_count_1 (by decide) (by decide) rfl (by decide) ?_ ?_
  · refine zS_aload_n 60 rfl 0 rfl dX12_count_59 ?_
    refine zS_getfp 63 rfl 1 dX12_count_60 zC12 zw1113 (by decide) rfl h0 ?_
    refine zS_iconst 64 rfl (2 : Int32) (by decide) dX12_count_63 ?_
    refine zS_iald 65 rfl dX12_count_64 (zP12_s h0) ?_
    exact zS_reti dX12_count_65 rfl
  refine zSw_in (c0 := (2 : Int32)) 2 66 dX12_count_1 (by decide) (by decide) rfl (by decide) ?_ ?_
  · refine zS_aload_n 67 rfl 0 rfl dX12_count_66 ?_
    refine zS_getfp 70 rfl 1 dX12_count_67 zC12 zw1113 (by decide) rfl h0 ?_
    refine zS_iconst 71 rfl (3 : Int32) (by decide) dX12_count_70 ?_
    refine zS_iald 72 rfl dX12_count_71 (zP12_s h0) ?_
    exact zS_reti dX12_count_72 rfl
  refine zSw_in (c0 := (3 : Int32)) 3 73 dX12_count_1 (by decide) (by decide) rfl (by decide) ?_ ?_
  · refine zS_aload_n 74 rfl 0 rfl dX12_count_73 ?_
    refine zS_getfp 77 rfl 1 dX12_count_74 zC12 zw1113 (by decide) rfl h0 ?_
    refine zS_iconst 78 rfl (4 : Int32) (by decide) dX12_count_77 ?_
    refine zS_iald 79 rfl dX12_count_78 (zP12_s h0) ?_
    exact zS_reti dX12_count_79 rfl
  refine zSw_in (c0 := (4 : Int32)) 4 80 dX12_count_1 (by decide) (by decide) rfl (by decide) ?_ ?_
  · refine zS_aload_n 81 rfl 0 rfl dX12_count_80 ?_
    refine zS_getfp 84 rfl 1 dX12_count_81 zC12 zw1113 (by decide) rfl h0 ?_
    refine zS_iconst 85 rfl (5 : Int32) (by decide) dX12_count_84 ?_
    refine zS_iald 86 rfl dX12_count_85 (zP12_s h0) ?_
    exact zS_reti dX12_count_86 rfl
  refine zSw_in (c0 := (5 : Int32)) 5 87 dX12_count_1 (by decide) (by decide) rfl (by decide) ?_ ?_
  · refine zS_aload_n 88 rfl 0 rfl dX12_count_87 ?_
    refine zS_getfp 91 rfl 1 dX12_count_88 zC12 zw1113 (by decide) rfl h0 ?_
    refine zS_iconst 92 rfl (0 : Int32) (by decide) dX12_count_91 ?_
    refine zS_iald 93 rfl dX12_count_92 (zP12_s h0) ?_
    exact zS_reti dX12_count_93 rfl
  refine zSw_in (c0 := (6 : Int32)) 6 94 dX12_count_1 (by decide) (by decide) rfl (by decide) ?_ ?_
  · refine zS_aload_n 95 rfl 0 rfl dX12_count_94 ?_
    refine zS_getfp 98 rfl 1 dX12_count_95 zC12 zw1113 (by decide) rfl h0 ?_
    refine zS_bipush 100 rfl (6 : Int32) (by decide) dX12_count_98 ?_
    refine zS_iald 101 rfl dX12_count_100 (zP12_s h0) ?_
    exact zS_reti dX12_count_101 rfl
  refine zSw_in (c0 := (7 : Int32)) 7 102 dX12_count_1 (by decide) (by decide) rfl (by decide) ?_ ?_
  · refine zS_aload_n 103 rfl 0 rfl dX12_count_102 ?_
    refine zS_getfp 106 rfl 1 dX12_count_103 zC12 zw1113 (by decide) rfl h0 ?_
    refine zS_bipush 108 rfl (7 : Int32) (by decide) dX12_count_106 ?_
    refine zS_iald 109 rfl dX12_count_108 (zP12_s h0) ?_
    exact zS_reti dX12_count_109 rfl
  refine zSw_in (c0 := (8 : Int32)) 8 110 dX12_count_1 (by decide) (by decide) rfl (by decide) ?_ ?_
  · refine zS_iconst 111 rfl (0 : Int32) (by decide) dX12_count_110 ?_
    refine zS_istore_n 112 rfl dX12_count_111 (by show 2 < 4; decide) (show _ = [(2, .int _), (0, .ref _), (1, .int _)] from rfl) ?_
    refine zS_iconst 113 rfl (0 : Int32) (by decide) dX12_count_112 ?_
    refine zS_istore_n 114 rfl dX12_count_113 (by show 3 < 4; decide) (show _ = [(3, .int _), (2, .int _), (0, .ref _), (1, .int _)] from rfl) ?_
    refine zS_sub [2, 1, 0] (show _ = [(0, .ref _), (2, .int _), (3, .int _)] from rfl) ?_
    exact sX12_count_114 _ _ _ h0 _
  refine zSw_out 140 dX12_count_1 (by decide) (by decide) ?_
  · refine zS_iconst 141 rfl (-1 : Int32) (by decide) dX12_count_140 ?_
    exact zS_reti dX12_count_141 rfl

theorem okX12_count (v0 : Nat) (v1 : Int32) (w : zWd) (h0 : zShp v0 = (12, 25)) : zOk gX12_count zEi [.ref v0, .int v1] w (mX12_count v0 v1 w) := zOk_of (by decide) rfl (Nat.le_of_ble_eq_true rfl) (sX12_count v0 v1 h0 w)
