theorem okGS : ∀ dd : Nat, (∀ (v0 : Nat) (w : zWd), zShp v0 = (12, 25) → zOk (gX12_some dd) zEi [.ref v0] w (mGS dd 0 v0 w)) ∧ (∀ (v0 : Nat) (w : zWd), zShp v0 = (12, 25) → zOk (gX12_every dd) zEi [.ref v0] w (mGS dd 1 v0 w)) ∧ (∀ (v0 : Nat) (w : zWd), zShp v0 = (12, 25) → zOk (gX12_factor dd) zEi [.ref v0] w (mGS dd 2 v0 w)) := by
  intro dd
  induction dd with
  | zero => exact ⟨fun _ _ _ _ _ h => by simp [mGS] at h, fun _ _ _ _ _ h => by simp [mGS] at h, fun _ _ _ _ _ h => by simp [mGS] at h⟩
  | succ dd ih =>
    obtain ⟨i0, i1, i2⟩ := ih
    exact ⟨fun v0 w h0 => zOk_of (by show plainName RX12 = true; decide) rfl (Nat.le_of_ble_eq_true rfl) (sX12_someb (mGS dd 0) (mGS dd 1) (mGS dd 2) dd i0 i1 i2 v0 h0 w), fun v0 w h0 => zOk_of (by show plainName RX12 = true; decide) rfl (Nat.le_of_ble_eq_true rfl) (sX12_everyb (mGS dd 0) (mGS dd 1) (mGS dd 2) dd i0 i1 i2 v0 h0 w), fun v0 w h0 => zOk_of (by show plainName RX12 = true; decide) rfl (Nat.le_of_ble_eq_true rfl) (sX12_factorb (mGS dd 0) (mGS dd 1) (mGS dd 2) dd i0 i1 i2 v0 h0 w)⟩
theorem okX12_some (v0 : Nat) (w : zWd) (h0 : zShp v0 = (12, 25)) : zOk (gX12_some 40) zEi [.ref v0] w (mX12_some v0 w) := (okGS 40).1 v0 w h0
theorem okX12_every (v0 : Nat) (w : zWd) (h0 : zShp v0 = (12, 25)) : zOk (gX12_every 40) zEi [.ref v0] w (mX12_every v0 w) := (okGS 40).2.1 v0 w h0
theorem okX12_factor (v0 : Nat) (w : zWd) (h0 : zShp v0 = (12, 25)) : zOk (gX12_factor 40) zEi [.ref v0] w (mX12_factor v0 w) := (okGS 40).2.2 v0 w h0

abbrev gX12_holds : zMth := (yX12_holds, cX12_holds, 3, (some .boolean), 44, zE0)
theorem cbX12_holds : zCbV yX12_holds cX12_holds 3 (some .boolean) 2 := ⟨zw1229, zw43, zw89, zw1230, by decide, by decide, by decide +kernel⟩
set_option maxHeartbeats 4000000 in
set_option maxRecDepth 100000 in
theorem sX12_holds (v0 : Nat) (v1 : Int32) (v2 : Int32) (h0 : zShp v0 = (12, 25)) (w : zWd) : zS gX12_holds zEi 0 [(0, .ref v0), (1, .int v1), (2, .int v2)] [] w (mX12_holds v0 v1 v2 w) := by
  unfold mX12_holds
  refine zS_aload_n 1 rfl 0 rfl dX12_holds_0 ?_
  refine zS_iload_n 2 rfl 1 rfl dX12_holds_1 ?_
  refine zS_bipush 4 rfl (8 : Int32) (by decide) dX12_holds_2 ?_
  refine zS_idivC 5 rfl dX12_holds_4 (by decide) ?_
  refine zS_putfi 8 rfl 10 dX12_holds_5 zC12 zw1122 (by decide) rfl rfl rfl h0 ?_
  refine zS_bnw (fun w1 => ?_)
  refine zS_aload_n 9 rfl 0 rfl dX12_holds_8 ?_
  refine zS_aload_n 10 rfl 0 rfl dX12_holds_9 ?_
  refine zS_getfp 13 rfl 1 dX12_holds_10 zC12 zw1113 (by decide) rfl h0 ?_
  refine zS_sipush 16 rfl (1790 : Int32) (by decide) dX12_holds_13 ?_
  refine zS_iload_n 17 rfl 1 rfl dX12_holds_16 ?_
  refine zS_iadd 18 rfl dX12_holds_17 ?_
  refine zS_iald 19 rfl dX12_holds_18 (zP12_s h0) ?_
  refine zS_putfi 22 rfl 11 dX12_holds_19 zC12 zw1123 (by decide) rfl rfl rfl h0 ?_
  refine zS_bnw (fun w2 => ?_)
  refine zS_aload_n 23 rfl 0 rfl dX12_holds_22 ?_
  refine zS_iconst 24 rfl (0 : Int32) (by decide) dX12_holds_23 ?_
  refine zS_putfi 27 rfl 13 dX12_holds_24 zC12 zw1125 (by decide) rfl rfl rfl h0 ?_
  refine zS_bnw (fun w3 => ?_)
  refine zS_aload_n 28 rfl 0 rfl dX12_holds_27 ?_
  refine zS_iconst 29 rfl (0 : Int32) (by decide) dX12_holds_28 ?_
  refine zS_putfb 32 rfl 12 dX12_holds_29 zC12 zw1124 (by decide) rfl rfl rfl h0 ?_
  refine zS_bnw (fun w4 => ?_)
  refine zS_aload_n 33 rfl 0 rfl dX12_holds_32 ?_
  refine zS_iload_n 34 rfl 2 rfl dX12_holds_33 ?_
  refine zS_putfi 37 rfl 14 dX12_holds_34 zC12 zw1126 (by decide) rfl rfl rfl h0 ?_
  refine zS_bnw (fun w5 => ?_)
  refine zS_aload_n 38 rfl 0 rfl dX12_holds_37 ?_
  refine zS_cVi (as := []) (st := []) (g' := (gX12_some 40)) 41 rfl (okX12_some _ _ h0) dX12_holds_38 zC12 h0 zw1231 cbX12_some rfl rfl (by decide) (Nat.le_of_ble_eq_true rfl) (fun r6 w7 => ?_)
  exact zS_retb dX12_holds_41 rfl

theorem okX12_holds (v0 : Nat) (v1 : Int32) (v2 : Int32) (w : zWd) (h0 : zShp v0 = (12, 25)) : zOk gX12_holds zEi [.ref v0, .int v1, .int v2] w (mX12_holds v0 v1 v2 w) := zOk_of (by decide) rfl (Nat.le_of_ble_eq_true rfl) (sX12_holds v0 v1 v2 h0 w)
abbrev gX12_ruling : zMth := (yX12_ruling, cX12_ruling, 8, (some .int), 45, zE0)
theorem cbX12_ruling : zCbV yX12_ruling cX12_ruling 8 (some .int) 3 := ⟨zw1225, zw42, zw89, zw1226, by decide, by decide, by decide +kernel⟩
set_option maxHeartbeats 4000000 in
set_option maxRecDepth 100000 in
theorem sX12_ruling_159 (k6 : Int32 × Int32 × zWd → Option (Int32 × zWd)) (v0 : Nat) (v1 : Int32) (v2 : Int32) (v3 : Int32) (v4 : Int32) (v5 : Int32) (hk6 : ∀ (v4 : Int32) (v5 : Int32) (w : zWd), zS gX12_ruling zEi 6 [(0, .ref v0), (1, .int v1), (2, .int v2), (3, .int v3), (4, .int v4), (5, .int v5)] [] w (k6 (v4, v5, w))) (h0 : zShp v0 = (12, 25)) (w : zWd) : zS gX12_ruling zEi 159 [(0, .ref v0), (1, .int v1), (2, .int v2), (3, .int v3), (4, .int v4), (5, .int v5)] [] w (mX12_ruling_159 k6 v0 v1 v2 v3 v4 v5 w) := by
  unfold mX12_ruling_159
  refine zS_iinc 162 rfl 5 (_ + (1 : Int32)) dX12_ruling_159 rfl (by show 5 < 8; decide) rfl (show _ = [(5, .int _), (0, .ref _), (1, .int _), (2, .int _), (3, .int _), (4, .int _)] from rfl) ?_
  refine zS_goto 6 dX12_ruling_162 (by decide) ?_
  refine zS_sub [1, 2, 3, 4, 5, 0] (show _ = [(0, .ref _), (1, .int _), (2, .int _), (3, .int _), (4, .int _), (5, .int _)] from rfl) ?_
  exact hk6 _ _ _

set_option maxHeartbeats 4000000 in
set_option maxRecDepth 100000 in
theorem sX12_ruling_151 (k6 : Int32 × Int32 × zWd → Option (Int32 × zWd)) (k20 : Int32 × Int32 × zWd → Option (Int32 × zWd)) (v0 : Nat) (v1 : Int32) (v2 : Int32) (v3 : Int32) (v5 : Int32) (v6 : Int32) (s0 : Int32) (hk6 : ∀ (v4 : Int32) (v5 : Int32) (w : zWd), zS gX12_ruling zEi 6 [(0, .ref v0), (1, .int v1), (2, .int v2), (3, .int v3), (4, .int v4), (5, .int v5)] [] w (k6 (v4, v5, w))) (hk20 : ∀ (v4 : Int32) (v6 : Int32) (w : zWd), zS gX12_ruling zEi 20 [(0, .ref v0), (1, .int v1), (2, .int v2), (3, .int v3), (4, .int v4), (5, .int v5), (6, .int v6)] [] w (k20 (v4, v6, w))) (h0 : zShp v0 = (12, 25)) (w : zWd) : zS gX12_ruling zEi 151 [(0, .ref v0), (1, .int v1), (2, .int v2), (3, .int v3), (5, .int v5), (6, .int v6)] [.int s0] w (mX12_ruling_151 k6 k20 v0 v1 v2 v3 v5 v6 s0 w) := by
  unfold mX12_ruling_151
  refine zS_istore 153 rfl dX12_ruling_151 (by show 4 < 8; decide) (show _ = [(4, .int _), (0, .ref _), (1, .int _), (2, .int _), (3, .int _), (5, .int _), (6, .int _)] from rfl) ?_
  refine zS_iinc 156 rfl 6 (_ + (1 : Int32)) dX12_ruling_153 rfl (by show 6 < 8; decide) rfl (show _ = [(6, .int _), (4, .int _), (0, .ref _), (1, .int _), (2, .int _), (3, .int _), (5, .int _)] from rfl) ?_
  refine zS_goto 20 dX12_ruling_156 (by decide) ?_
  refine zS_sub [2, 3, 4, 5, 1, 6, 0] (show _ = [(0, .ref _), (1, .int _), (2, .int _), (3, .int _), (4, .int _), (5, .int _), (6, .int _)] from rfl) ?_
  exact hk20 _ _ _

set_option maxHeartbeats 4000000 in
set_option maxRecDepth 100000 in
theorem sX12_ruling_149 (k6 : Int32 × Int32 × zWd → Option (Int32 × zWd)) (k20 : Int32 × Int32 × zWd → Option (Int32 × zWd)) (v0 : Nat) (v1 : Int32) (v2 : Int32) (v3 : Int32) (v4 : Int32) (v5 : Int32) (v6 : Int32) (hk6 : ∀ (v4 : Int32) (v5 : Int32) (w : zWd), zS gX12_ruling zEi 6 [(0, .ref v0), (1, .int v1), (2, .int v2), (3, .int v3), (4, .int v4), (5, .int v5)] [] w (k6 (v4, v5, w))) (hk20 : ∀ (v4 : Int32) (v6 : Int32) (w : zWd), zS gX12_ruling zEi 20 [(0, .ref v0), (1, .int v1), (2, .int v2), (3, .int v3), (4, .int v4), (5, .int v5), (6, .int v6)] [] w (k20 (v4, v6, w))) (h0 : zShp v0 = (12, 25)) (w : zWd) : zS gX12_ruling zEi 149 [(0, .ref v0), (1, .int v1), (2, .int v2), (3, .int v3), (4, .int v4), (5, .int v5), (6, .int v6)] [] w (mX12_ruling_149 k6 k20 v0 v1 v2 v3 v4 v5 v6 w) := by
  unfold mX12_ruling_149
  refine zS_iload 151 rfl 4 rfl dX12_ruling_149 ?_
  refine zS_sub [0, 1, 2, 3, 5, 6] (show _ = [(0, .ref _), (1, .int _), (2, .int _), (3, .int _), (5, .int _), (6, .int _)] from rfl) ?_
  exact sX12_ruling_151 k6 k20 _ _ _ _ _ _ _ hk6 hk20 h0 _

set_option maxHeartbeats 4000000 in
set_option maxRecDepth 100000 in
theorem sX12_ruling_138 (k6 : Int32 × Int32 × zWd → Option (Int32 × zWd)) (k20 : Int32 × Int32 × zWd → Option (Int32 × zWd)) (v0 : Nat) (v1 : Int32) (v2 : Int32) (v3 : Int32) (v5 : Int32) (v6 : Int32) (hk6 : ∀ (v4 : Int32) (v5 : Int32) (w : zWd), zS gX12_ruling zEi 6 [(0, .ref v0), (1, .int v1), (2, .int v2), (3, .int v3), (4, .int v4), (5, .int v5)] [] w (k6 (v4, v5, w))) (hk20 : ∀ (v4 : Int32) (v6 : Int32) (w : zWd), zS gX12_ruling zEi 20 [(0, .ref v0), (1, .int v1), (2, .int v2), (3, .int v3), (4, .int v4), (5, .int v5), (6, .int v6)] [] w (k20 (v4, v6, w))) (h0 : zShp v0 = (12, 25)) (w : zWd) : zS gX12_ruling zEi 138 [(0, .ref v0), (1, .int v1), (2, .int v2), (3, .int v3), (5, .int v5), (6, .int v6)] [] w (mX12_ruling_138 k6 k20 v0 v1 v2 v3 v5 v6 w) := by
  unfold mX12_ruling_138
  refine zS_bipush 140 rfl (8 : Int32) (by decide) dX12_ruling_138 ?_
  refine zS_iload 142 rfl 4 rfl dX12_ruling_140 ?_
  refine zS_imul 143 rfl dX12_ruling_142 ?_
  refine zS_iload 145 rfl 5 rfl dX12_ruling_143 ?_
  refine zS_iadd 146 rfl dX12_ruling_145 ?_
  refine zS_goto 151 dX12_ruling_146 (by decide) ?_
  exact sX12_ruling_151 k6 k20 _ _ _ _ _ _ _ hk6 hk20 h0 _

set_option maxHeartbeats 4000000 in
set_option maxRecDepth 100000 in
theorem sX12_ruling_111 (k6 : Int32 × Int32 × zWd → Option (Int32 × zWd)) (k20 : Int32 × Int32 × zWd → Option (Int32 × zWd)) (v0 : Nat) (v1 : Int32) (v2 : Int32) (v3 : Int32) (v4 : Int32) (v5 : Int32) (v6 : Int32) (s0 : Int32) (hk6 : ∀ (v4 : Int32) (v5 : Int32) (w : zWd), zS gX12_ruling zEi 6 [(0, .ref v0), (1, .int v1), (2, .int v2), (3, .int v3), (4, .int v4), (5, .int v5)] [] w (k6 (v4, v5, w))) (hk20 : ∀ (v4 : Int32) (v6 : Int32) (w : zWd), zS gX12_ruling zEi 20 [(0, .ref v0), (1, .int v1), (2, .int v2), (3, .int v3), (4, .int v4), (5, .int v5), (6, .int v6)] [] w (k20 (v4, v6, w))) (h0 : zShp v0 = (12, 25)) (w : zWd) : zS gX12_ruling zEi 111 [(0, .ref v0), (1, .int v1), (2, .int v2), (3, .int v3), (4, .int v4), (5, .int v5), (6, .int v6)] [.int s0] w (mX12_ruling_111 k6 k20 v0 v1 v2 v3 v4 v5 v6 s0 w) := by
  unfold mX12_ruling_111
  refine zS_istore 113 rfl dX12_ruling_111 (by show 7 < 8; decide) (show _ = [(7, .int _), (0, .ref _), (1, .int _), (2, .int _), (3, .int _), (4, .int _), (5, .int _), (6, .int _)] from rfl) ?_
  refine zS_iload 115 rfl 0 rfl dX12_ruling_113 ?_
  refine zS_if_eq 149 118 rfl dX12_ruling_115 (by decide) ?_ ?_
  · refine zS_sub [1, 2, 3, 4, 5, 6, 7] (show _ = [(0, .ref _), (1, .int _), (2, .int _), (3, .int _), (4, .int _), (5, .int _), (6, .int _)] from rfl) ?_
    exact sX12_ruling_149 k6 k20 _ _ _ _ _ _ _ hk6 hk20 h0 _
  · refine zS_iload_n 119 rfl 2 rfl dX12_ruling_118 ?_
    refine zS_if_ne 138 122 rfl dX12_ruling_119 (by decide) ?_ ?_
    · refine zS_aload_n 123 rfl 1 rfl dX12_ruling_122 ?_
      refine zS_bipush 125 rfl (8 : Int32) (by decide) dX12_ruling_123 ?_
      refine zS_iload 127 rfl 6 rfl dX12_ruling_125 ?_
      refine zS_imul 128 rfl dX12_ruling_127 ?_
      refine zS_iload 130 rfl 7 rfl dX12_ruling_128 ?_
      refine zS_iadd 131 rfl dX12_ruling_130 ?_
      refine zS_iload_n 132 rfl 3 rfl dX12_ruling_131 ?_
      refine zS_cVi (as := [.int _, .int _]) (st := []) (g' := gX12_holds) 135 rfl (okX12_holds _ _ _ _ h0) dX12_ruling_132 zC12 h0 zw1227 cbX12_holds rfl rfl (by decide) (Nat.le_of_ble_eq_true rfl) (fun r1 w2 => ?_)
      refine zS_if_eq 149 138 rfl dX12_ruling_135 (by decide) ?_ ?_
      · refine zS_sub [1, 2, 3, 4, 5, 6, 7] (show _ = [(0, .ref _), (1, .int _), (2, .int _), (3, .int _), (4, .int _), (5, .int _), (6, .int _)] from rfl) ?_
        exact sX12_ruling_149 k6 k20 _ _ _ _ _ _ _ hk6 hk20 h0 _
      · refine zS_sub [1, 2, 3, 4, 6, 7] (show _ = [(0, .ref _), (1, .int _), (2, .int _), (3, .int _), (5, .int _), (6, .int _)] from rfl) ?_
        exact sX12_ruling_138 k6 k20 _ _ _ _ _ _ hk6 hk20 h0 _
    · refine zS_sub [1, 2, 3, 4, 6, 7] (show _ = [(0, .ref _), (1, .int _), (2, .int _), (3, .int _), (5, .int _), (6, .int _)] from rfl) ?_
      exact sX12_ruling_138 k6 k20 _ _ _ _ _ _ hk6 hk20 h0 _

set_option maxHeartbeats 4000000 in
set_option maxRecDepth 100000 in
theorem sX12_ruling_106 (k6 : Int32 × Int32 × zWd → Option (Int32 × zWd)) (k20 : Int32 × Int32 × zWd → Option (Int32 × zWd)) (v0 : Nat) (v1 : Int32) (v2 : Int32) (v3 : Int32) (v4 : Int32) (v5 : Int32) (v6 : Int32) (hk6 : ∀ (v4 : Int32) (v5 : Int32) (w : zWd), zS gX12_ruling zEi 6 [(0, .ref v0), (1, .int v1), (2, .int v2), (3, .int v3), (4, .int v4), (5, .int v5)] [] w (k6 (v4, v5, w))) (hk20 : ∀ (v4 : Int32) (v6 : Int32) (w : zWd), zS gX12_ruling zEi 20 [(0, .ref v0), (1, .int v1), (2, .int v2), (3, .int v3), (4, .int v4), (5, .int v5), (6, .int v6)] [] w (k20 (v4, v6, w))) (h0 : zShp v0 = (12, 25)) (w : zWd) : zS gX12_ruling zEi 106 [(0, .ref v0), (1, .int v1), (2, .int v2), (3, .int v3), (4, .int v4), (5, .int v5), (6, .int v6)] [] w (mX12_ruling_106 k6 k20 v0 v1 v2 v3 v4 v5 v6 w) := by
  unfold mX12_ruling_106
  refine zS_iconst 107 rfl (1 : Int32) (by decide) dX12_ruling_106 ?_
  refine zS_goto 111 dX12_ruling_107 (by decide) ?_
  exact sX12_ruling_111 k6 k20 _ _ _ _ _ _ _ _ hk6 hk20 h0 _

set_option maxHeartbeats 4000000 in
set_option maxRecDepth 100000 in
theorem sX12_ruling_110 (k6 : Int32 × Int32 × zWd → Option (Int32 × zWd)) (k20 : Int32 × Int32 × zWd → Option (Int32 × zWd)) (v0 : Nat) (v1 : Int32) (v2 : Int32) (v3 : Int32) (v4 : Int32) (v5 : Int32) (v6 : Int32) (hk6 : ∀ (v4 : Int32) (v5 : Int32) (w : zWd), zS gX12_ruling zEi 6 [(0, .ref v0), (1, .int v1), (2, .int v2), (3, .int v3), (4, .int v4), (5, .int v5)] [] w (k6 (v4, v5, w))) (hk20 : ∀ (v4 : Int32) (v6 : Int32) (w : zWd), zS gX12_ruling zEi 20 [(0, .ref v0), (1, .int v1), (2, .int v2), (3, .int v3), (4, .int v4), (5, .int v5), (6, .int v6)] [] w (k20 (v4, v6, w))) (h0 : zShp v0 = (12, 25)) (w : zWd) : zS gX12_ruling zEi 110 [(0, .ref v0), (1, .int v1), (2, .int v2), (3, .int v3), (4, .int v4), (5, .int v5), (6, .int v6)] [] w (mX12_ruling_110 k6 k20 v0 v1 v2 v3 v4 v5 v6 w) := by
  unfold mX12_ruling_110
  refine zS_iconst 111 rfl (0 : Int32) (by decide) dX12_ruling_110 ?_
  exact sX12_ruling_111 k6 k20 _ _ _ _ _ _ _ _ hk6 hk20 h0 _

set_option maxHeartbeats 4000000 in
set_option maxRecDepth 100000 in
theorem sX12_ruling_20b (k6 : Int32 × Int32 × zWd → Option (Int32 × zWd)) (v0 : Nat) (v1 : Int32) (v2 : Int32) (v3 : Int32) (v5 : Int32) (k20 : Int32 × Int32 × zWd → Option (Int32 × zWd)) (v4 : Int32) (v6 : Int32) (hk6 : ∀ (v4 : Int32) (v5 : Int32) (w : zWd), zS gX12_ruling zEi 6 [(0, .ref v0), (1, .int v1), (2, .int v2), (3, .int v3), (4, .int v4), (5, .int v5)] [] w (k6 (v4, v5, w))) (hk20 : ∀ (v4 : Int32) (v6 : Int32) (w : zWd), zS gX12_ruling zEi 20 [(0, .ref v0), (1, .int v1), (2, .int v2), (3, .int v3), (4, .int v4), (5, .int v5), (6, .int v6)] [] w (k20 (v4, v6, w))) (h0 : zShp v0 = (12, 25)) (w : zWd) : zS gX12_ruling zEi 20 [(0, .ref v0), (1, .int v1), (2, .int v2), (3, .int v3), (4, .int v4), (5, .int v5), (6, .int v6)] [] w (mX12_ruling_20b k6 v0 v1 v2 v3 v5 k20 v4 v6 w) := by
  unfold mX12_ruling_20b
  refine zS_iload 22 rfl 6 rfl dX12_ruling_20 ?_
  refine zS_aload_n 23 rfl 0 rfl dX12_ruling_22 ?_
  refine zS_getfp 26 rfl 1 dX12_ruling_23 zC12 zw1113 (by decide) rfl h0 ?_
  refine zS_sipush 29 rfl (1600 : Int32) (by decide) dX12_ruling_26 ?_
  refine zS_iload 31 rfl 5 rfl dX12_ruling_29 ?_
  refine zS_iadd 32 rfl dX12_ruling_31 ?_
  refine zS_iald 33 rfl dX12_ruling_32 (zP12_s h0) ?_
  refine zS_icmp_ge 159 36 rfl dX12_ruling_33 (by decide) ?_ ?_
  · refine zS_sub [0, 1, 2, 3, 4, 5] (show _ = [(0, .ref _), (1, .int _), (2, .int _), (3, .int _), (4, .int _), (5, .int _)] from rfl) ?_
    exact sX12_ruling_159 k6 _ _ _ _ _ _ hk6 h0 _
  · refine zS_aload_n 37 rfl 0 rfl dX12_ruling_36 ?_
    refine zS_getfp 40 rfl 1 dX12_ruling_37 zC12 zw1113 (by decide) rfl h0 ?_
    refine zS_sipush 43 rfl (240 : Int32) (by decide) dX12_ruling_40 ?_
    refine zS_iload 45 rfl 5 rfl dX12_ruling_43 ?_
    refine zS_iadd 46 rfl dX12_ruling_45 ?_
    refine zS_iald 47 rfl dX12_ruling_46 (zP12_s h0) ?_
    refine zS_iload_n 48 rfl 3 rfl dX12_ruling_47 ?_
    refine zS_icmp_gt 159 51 rfl dX12_ruling_48 (by decide) ?_ ?_
    · refine zS_sub [0, 1, 2, 3, 4, 5] (show _ = [(0, .ref _), (1, .int _), (2, .int _), (3, .int _), (4, .int _), (5, .int _)] from rfl) ?_
      exact sX12_ruling_159 k6 _ _ _ _ _ _ hk6 h0 _
    · refine zS_aload_n 52 rfl 0 rfl dX12_ruling_51 ?_
      refine zS_getfp 55 rfl 1 dX12_ruling_52 zC12 zw1113 (by decide) rfl h0 ?_
      refine zS_sipush 58 rfl (1612 : Int32) (by decide) dX12_ruling_55 ?_
      refine zS_bipush 60 rfl (8 : Int32) (by decide) dX12_ruling_58 ?_
      refine zS_iload 62 rfl 5 rfl dX12_ruling_60 ?_
      refine zS_imul 63 rfl dX12_ruling_62 ?_
      refine zS_iadd 64 rfl dX12_ruling_63 ?_
      refine zS_iload 66 rfl 6 rfl dX12_ruling_64 ?_
      refine zS_iadd 67 rfl dX12_ruling_66 ?_
      refine zS_iald 68 rfl dX12_ruling_67 (zP12_s h0) ?_
      refine zS_iload_n 69 rfl 1 rfl dX12_ruling_68 ?_
      refine zS_icmp_ne 110 72 rfl dX12_ruling_69 (by decide) ?_ ?_
      · refine zS_iload 74 rfl 4 rfl dX12_ruling_72 ?_
        refine zS_iconst 75 rfl (-1 : Int32) (by decide) dX12_ruling_74 ?_
        refine zS_icmp_eq 106 78 rfl dX12_ruling_75 (by decide) ?_ ?_
        · exact sX12_ruling_106 k6 k20 _ _ _ _ _ _ _ hk6 hk20 h0 _
        · refine zS_aload_n 79 rfl 0 rfl dX12_ruling_78 ?_
          refine zS_getfp 82 rfl 1 dX12_ruling_79 zC12 zw1113 (by decide) rfl h0 ?_
          refine zS_sipush 85 rfl (240 : Int32) (by decide) dX12_ruling_82 ?_
          refine zS_iload 87 rfl 5 rfl dX12_ruling_85 ?_
          refine zS_iadd 88 rfl dX12_ruling_87 ?_
          refine zS_iald 89 rfl dX12_ruling_88 (zP12_s h0) ?_
          refine zS_aload_n 90 rfl 0 rfl dX12_ruling_89 ?_
          refine zS_getfp 93 rfl 1 dX12_ruling_90 zC12 zw1113 (by decide) rfl h0 ?_
          refine zS_sipush 96 rfl (240 : Int32) (by decide) dX12_ruling_93 ?_
          refine zS_iload 98 rfl 4 rfl dX12_ruling_96 ?_
          refine zS_bipush 100 rfl (8 : Int32) (by decide) dX12_ruling_98 ?_
          refine zS_idivC 101 rfl dX12_ruling_100 (by decide) ?_
          refine zS_iadd 102 rfl dX12_ruling_101 ?_
          refine zS_iald 103 rfl dX12_ruling_102 (zP12_s h0) ?_
          refine zS_icmp_lt 110 106 rfl dX12_ruling_103 (by decide) ?_ ?_
          · exact sX12_ruling_110 k6 k20 _ _ _ _ _ _ _ hk6 hk20 h0 _
          · exact sX12_ruling_106 k6 k20 _ _ _ _ _ _ _ hk6 hk20 h0 _
      · exact sX12_ruling_110 k6 k20 _ _ _ _ _ _ _ hk6 hk20 h0 _

theorem sX12_ruling_20 (k6 : Int32 × Int32 × zWd → Option (Int32 × zWd)) (v0 : Nat) (v1 : Int32) (v2 : Int32) (v3 : Int32) (v5 : Int32) (v4 : Int32) (v6 : Int32) (hk6 : ∀ (v4 : Int32) (v5 : Int32) (w : zWd), zS gX12_ruling zEi 6 [(0, .ref v0), (1, .int v1), (2, .int v2), (3, .int v3), (4, .int v4), (5, .int v5)] [] w (k6 (v4, v5, w))) (h0 : zShp v0 = (12, 25)) (w : zWd) : zS gX12_ruling zEi 20 [(0, .ref v0), (1, .int v1), (2, .int v2), (3, .int v3), (4, .int v4), (5, .int v5), (6, .int v6)] [] w (mX12_ruling_20 k6 v0 v1 v2 v3 v5 v4 v6 w) :=
  zS_loop (L := fun q : Int32 × Int32 × zWd => [(0, .ref v0), (1, .int v1), (2, .int v2), (3, .int v3), (4, .int q.1), (5, .int v5), (6, .int q.2.1)]) (V := fun q => q.2.2) (T := fun _ => []) (F := fun k q => mX12_ruling_20b k6 v0 v1 v2 v3 v5 k q.1 q.2.1 q.2.2) (fun k hk q => sX12_ruling_20b k6 v0 v1 v2 v3 v5 k q.1 q.2.1 hk6 (fun a4 a6 w => hk (a4, a6, w)) h0 q.2.2) zFU (v4, v6, w)
set_option maxHeartbeats 4000000 in
set_option maxRecDepth 100000 in
theorem sX12_ruling_6b (v0 : Nat) (v1 : Int32) (v2 : Int32) (v3 : Int32) (k6 : Int32 × Int32 × zWd → Option (Int32 × zWd)) (v4 : Int32) (v5 : Int32) (hk6 : ∀ (v4 : Int32) (v5 : Int32) (w : zWd), zS gX12_ruling zEi 6 [(0, .ref v0), (1, .int v1), (2, .int v2), (3, .int v3), (4, .int v4), (5, .int v5)] [] w (k6 (v4, v5, w))) (h0 : zShp v0 = (12, 25)) (w : zWd) : zS gX12_ruling zEi 6 [(0, .ref v0), (1, .int v1), (2, .int v2), (3, .int v3), (4, .int v4), (5, .int v5)] [] w (mX12_ruling_6b v0 v1 v2 v3 k6 v4 v5 w) := by
  unfold mX12_ruling_6b
  refine zS_iload 8 rfl 5 rfl dX12_ruling_6 ?_
  refine zS_aload_n 9 rfl 0 rfl dX12_ruling_8 ?_
  refine zS_getfp 12 rfl 1 dX12_ruling_9 zC12 zw1113 (by decide) rfl h0 ?_
  refine zS_iconst 13 rfl (2 : Int32) (by decide) dX12_ruling_12 ?_
  refine zS_iald 14 rfl dX12_ruling_13 (zP12_s h0) ?_
  refine zS_icmp_ge 165 17 rfl dX12_ruling_14 (by decide) ?_ ?_
  · refine zS_iload 167 rfl 4 rfl dX12_ruling_165 ?_
    exact zS_reti dX12_ruling_167 rfl
  · refine zS_iconst 18 rfl (0 : Int32) (by decide) dX12_ruling_17 ?_
    refine zS_istore 20 rfl dX12_ruling_18 (by show 6 < 8; decide) (show _ = [(6, .int _), (0, .ref _), (1, .int _), (2, .int _), (3, .int _), (4, .int _), (5, .int _)] from rfl) ?_
    refine zS_sub [1, 2, 3, 4, 5, 6, 0] (show _ = [(0, .ref _), (1, .int _), (2, .int _), (3, .int _), (4, .int _), (5, .int _), (6, .int _)] from rfl) ?_
    exact sX12_ruling_20 k6 _ _ _ _ _ _ _ hk6 h0 _

theorem sX12_ruling_6 (v0 : Nat) (v1 : Int32) (v2 : Int32) (v3 : Int32) (v4 : Int32) (v5 : Int32) (h0 : zShp v0 = (12, 25)) (w : zWd) : zS gX12_ruling zEi 6 [(0, .ref v0), (1, .int v1), (2, .int v2), (3, .int v3), (4, .int v4), (5, .int v5)] [] w (mX12_ruling_6 v0 v1 v2 v3 v4 v5 w) :=
  zS_loop (L := fun q : Int32 × Int32 × zWd => [(0, .ref v0), (1, .int v1), (2, .int v2), (3, .int v3), (4, .int q.1), (5, .int q.2.1)]) (V := fun q => q.2.2) (T := fun _ => []) (F := fun k q => mX12_ruling_6b v0 v1 v2 v3 k q.1 q.2.1 q.2.2) (fun k hk q => sX12_ruling_6b v0 v1 v2 v3 k q.1 q.2.1 (fun a4 a5 w => hk (a4, a5, w)) h0 q.2.2) zFU (v4, v5, w)
set_option maxHeartbeats 4000000 in
set_option maxRecDepth 100000 in
theorem sX12_ruling (v0 : Nat) (v1 : Int32) (v2 : Int32) (v3 : Int32) (h0 : zShp v0 = (12, 25)) (w : zWd) : zS gX12_ruling zEi 0 [(0, .ref v0), (1, .int v1), (2, .int v2), (3, .int v3)] [] w (mX12_ruling v0 v1 v2 v3 w) := by
  unfold mX12_ruling
  refine zS_iconst 1 rfl (-1 : Int32) (by decide) dX12_ruling_0 ?_
  refine zS_istore 3 rfl dX12_ruling_1 (by show 4 < 8; decide) (show _ = [(4, .int _), (0, .ref _), (1, .int _), (2, .int _), (3, .int _)] from rfl) ?_
  refine zS_iconst 4 rfl (0 : Int32) (by decide) dX12_ruling_3 ?_
  refine zS_istore 6 rfl dX12_ruling_4 (by show 5 < 8; decide) (show _ = [(5, .int _), (4, .int _), (0, .ref _), (1, .int _), (2, .int _), (3, .int _)] from rfl) ?_
  refine zS_sub [2, 3, 4, 5, 1, 0] (show _ = [(0, .ref _), (1, .int _), (2, .int _), (3, .int _), (4, .int _), (5, .int _)] from rfl) ?_
  exact sX12_ruling_6 _ _ _ _ _ _ h0 _

theorem okX12_ruling (v0 : Nat) (v1 : Int32) (v2 : Int32) (v3 : Int32) (w : zWd) (h0 : zShp v0 = (12, 25)) : zOk gX12_ruling zEi [.ref v0, .int v1, .int v2, .int v3] w (mX12_ruling v0 v1 v2 v3 w) := zOk_of (by decide) rfl (Nat.le_of_ble_eq_true rfl) (sX12_ruling v0 v1 v2 v3 h0 w)
abbrev gX12_ruleFor : zMth := (yX12_ruleFor, cX12_ruleFor, 5, (some .int), 46, zE0)
theorem cbX12_ruleFor : zCbV yX12_ruleFor cX12_ruleFor 5 (some .int) 3 := ⟨zw1221, zw41, zw89, zw1222, by decide, by decide, by decide +kernel⟩
set_option maxHeartbeats 4000000 in
set_option maxRecDepth 100000 in
theorem sX12_ruleFor_61 (s0 : Int32) (w : zWd) : zS gX12_ruleFor zEi 61 [] [.int s0] w (mX12_ruleFor_61 s0 w) := by
  unfold mX12_ruleFor_61
  exact zS_reti dX12_ruleFor_61 rfl

set_option maxHeartbeats 4000000 in
set_option maxRecDepth 100000 in
theorem sX12_ruleFor_46 (w : zWd) : zS gX12_ruleFor zEi 46 [] [] w (mX12_ruleFor_46 w) := by
  unfold mX12_ruleFor_46
  refine zS_bipush 48 rfl (99 : Int32) (by decide) dX12_ruleFor_46 ?_
  refine zS_goto 61 dX12_ruleFor_48 (by decide) ?_
  exact sX12_ruleFor_61 _ _

set_option maxHeartbeats 4000000 in
set_option maxRecDepth 100000 in
theorem sX12_ruleFor (v0 : Nat) (v1 : Int32) (v2 : Int32) (v3 : Int32) (h0 : zShp v0 = (12, 25)) (w : zWd) : zS gX12_ruleFor zEi 0 [(0, .ref v0), (1, .int v1), (2, .int v2), (3, .int v3)] [] w (mX12_ruleFor v0 v1 v2 v3 w) := by
  unfold mX12_ruleFor
  refine zS_aload_n 1 rfl 0 rfl dX12_ruleFor_0 ?_
  refine zS_iload_n 2 rfl 1 rfl dX12_ruleFor_1 ?_
  refine zS_iload_n 3 rfl 2 rfl dX12_ruleFor_2 ?_
  refine zS_iload_n 4 rfl 3 rfl dX12_ruleFor_3 ?_
  refine zS_cVi (as := [.int _, .int _, .int _]) (st := []) (g' := gX12_ruling) 7 rfl (okX12_ruling _ _ _ _ _ h0) dX12_ruleFor_4 zC12 h0 zw1223 cbX12_ruling rfl rfl (by decide) (Nat.le_of_ble_eq_true rfl) (fun r1 w2 => ?_)
  refine zS_istore 9 rfl dX12_ruleFor_7 (by show 4 < 5; decide) (show _ = [(4, .int _), (0, .ref _), (1, .int _), (2, .int _), (3, .int _)] from rfl) ?_
  refine zS_iload 11 rfl 0 rfl dX12_ruleFor_9 ?_
  refine zS_iconst 12 rfl (-1 : Int32) (by decide) dX12_ruleFor_11 ?_
  refine zS_icmp_eq 27 15 rfl dX12_ruleFor_12 (by decide) ?_ ?_
  · refine zS_iload_n 28 rfl 2 rfl dX12_ruleFor_27 ?_
    refine zS_if_ne 36 31 rfl dX12_ruleFor_28 (by decide) ?_ ?_
    · refine zS_bipush 33 rfl (100 : Int32) (by decide) dX12_ruleFor_31 ?_
      refine zS_goto 61 dX12_ruleFor_33 (by decide) ?_
      refine zS_sub [] (show _ = [] from rfl) ?_
      exact sX12_ruleFor_61 _ _
    · refine zS_iload_n 37 rfl 2 rfl dX12_ruleFor_36 ?_
      refine zS_iconst 38 rfl (1 : Int32) (by decide) dX12_ruleFor_37 ?_
      refine zS_icmp_eq 46 41 rfl dX12_ruleFor_38 (by decide) ?_ ?_
      · refine zS_sub [] (show _ = [] from rfl) ?_
        exact sX12_ruleFor_46 _
      · refine zS_iload_n 42 rfl 2 rfl dX12_ruleFor_41 ?_
        refine zS_iconst 43 rfl (3 : Int32) (by decide) dX12_ruleFor_42 ?_
        refine zS_icmp_ne 51 46 rfl dX12_ruleFor_43 (by decide) ?_ ?_
        · refine zS_sub [] (show _ = [] from rfl) ?_
          exact sX12_ruleFor_46 _
        · refine zS_iload_n 52 rfl 2 rfl dX12_ruleFor_51 ?_
          refine zS_iconst 53 rfl (2 : Int32) (by decide) dX12_ruleFor_52 ?_
          refine zS_icmp_ne 60 56 rfl dX12_ruleFor_53 (by decide) ?_ ?_
          · refine zS_iconst 57 rfl (1 : Int32) (by decide) dX12_ruleFor_56 ?_
            refine zS_goto 61 dX12_ruleFor_57 (by decide) ?_
            refine zS_sub [] (show _ = [] from rfl) ?_
            exact sX12_ruleFor_61 _ _
          · refine zS_iconst 61 rfl (0 : Int32) (by decide) dX12_ruleFor_60 ?_
            refine zS_sub [] (show _ = [] from rfl) ?_
            exact sX12_ruleFor_61 _ _
  · refine zS_aload_n 16 rfl 1 rfl dX12_ruleFor_15 ?_
    refine zS_getfp 19 rfl 1 dX12_ruleFor_16 zC12 zw1113 (by decide) rfl h0 ?_
    refine zS_sipush 22 rfl (1700 : Int32) (by decide) dX12_ruleFor_19 ?_
    refine zS_iload 24 rfl 0 rfl dX12_ruleFor_22 ?_
    refine zS_iadd 25 rfl dX12_ruleFor_24 ?_
    refine zS_iald 26 rfl dX12_ruleFor_25 (zP12_s h0) ?_
    exact zS_reti dX12_ruleFor_26 rfl

theorem okX12_ruleFor (v0 : Nat) (v1 : Int32) (v2 : Int32) (v3 : Int32) (w : zWd) (h0 : zShp v0 = (12, 25)) : zOk gX12_ruleFor zEi [.ref v0, .int v1, .int v2, .int v3] w (mX12_ruleFor v0 v1 v2 v3 w) := zOk_of (by decide) rfl (Nat.le_of_ble_eq_true rfl) (sX12_ruleFor v0 v1 v2 v3 h0 w)
abbrev gX12_rule : zMth := (yX12_rule, cX12_rule, 3, (some .int), 47, zE0)
theorem cbX12_rule : zCbV yX12_rule cX12_rule 3 (some .int) 2 := ⟨zw1217, zw40, zw89, zw1218, by decide, by decide, by decide +kernel⟩
set_option maxHeartbeats 4000000 in
set_option maxRecDepth 100000 in
theorem sX12_rule (v0 : Nat) (v1 : Int32) (v2 : Int32) (h0 : zShp v0 = (12, 25)) (w : zWd) : zS gX12_rule zEi 0 [(0, .ref v0), (1, .int v1), (2, .int v2)] [] w (mX12_rule v0 v1 v2 w) := by
  unfold mX12_rule
  refine zS_aload_n 1 rfl 0 rfl dX12_rule_0 ?_
  refine zS_iload_n 2 rfl 1 rfl dX12_rule_1 ?_
  refine zS_iconst 3 rfl (-1 : Int32) (by decide) dX12_rule_2 ?_
  refine zS_iload_n 4 rfl 2 rfl dX12_rule_3 ?_
  refine zS_cVi (as := [.int _, .int _, .int _]) (st := []) (g' := gX12_ruleFor) 7 rfl (okX12_ruleFor _ _ _ _ _ h0) dX12_rule_4 zC12 h0 zw1219 cbX12_ruleFor rfl rfl (by decide) (Nat.le_of_ble_eq_true rfl) (fun r1 w2 => ?_)
  exact zS_reti dX12_rule_7 rfl

theorem okX12_rule (v0 : Nat) (v1 : Int32) (v2 : Int32) (w : zWd) (h0 : zShp v0 = (12, 25)) : zOk gX12_rule zEi [.ref v0, .int v1, .int v2] w (mX12_rule v0 v1 v2 w) := zOk_of (by decide) rfl (Nat.le_of_ble_eq_true rfl) (sX12_rule v0 v1 v2 h0 w)
abbrev gX12_mayBe : zMth := (yX12_mayBe, cX12_mayBe, 7, (some .boolean), 48, zE0)
theorem cbX12_mayBe : zCbV yX12_mayBe cX12_mayBe 7 (some .boolean) 3 := ⟨zw1213, zw39, zw89, zw1214, by decide, by decide, by decide +kernel⟩
set_option maxHeartbeats 4000000 in
set_option maxRecDepth 100000 in
theorem sX12_mayBe_91 (k41 : Int32 × Int32 × zWd → Option (Int32 × zWd)) (v0 : Nat) (v1 : Int32) (v6 : Int32) (s0 : Int32) (hk41 : ∀ (v5 : Int32) (v6 : Int32) (w : zWd), zS gX12_mayBe zEi 41 [(0, .ref v0), (1, .int v1), (5, .int v5), (6, .int v6)] [] w (k41 (v5, v6, w))) (h0 : zShp v0 = (12, 25)) (w : zWd) : zS gX12_mayBe zEi 91 [(0, .ref v0), (1, .int v1), (6, .int v6)] [.int s0] w (mX12_mayBe_91 k41 v0 v1 v6 s0 w) := by
  unfold mX12_mayBe_91
  refine zS_istore 93 rfl dX12_mayBe_91 (by show 5 < 7; decide) (show _ = [(5, .int _), (0, .ref _), (1, .int _), (6, .int _)] from rfl) ?_
  refine zS_iinc 96 rfl 3 (_ + (1 : Int32)) dX12_mayBe_93 rfl (by show 6 < 7; decide) rfl (show _ = [(6, .int _), (5, .int _), (0, .ref _), (1, .int _)] from rfl) ?_
  refine zS_goto 41 dX12_mayBe_96 (by decide) ?_
  refine zS_sub [2, 3, 1, 0] (show _ = [(0, .ref _), (1, .int _), (5, .int _), (6, .int _)] from rfl) ?_
  exact hk41 _ _ _

set_option maxHeartbeats 4000000 in
set_option maxRecDepth 100000 in
theorem sX12_mayBe_90 (k41 : Int32 × Int32 × zWd → Option (Int32 × zWd)) (v0 : Nat) (v1 : Int32) (v6 : Int32) (hk41 : ∀ (v5 : Int32) (v6 : Int32) (w : zWd), zS gX12_mayBe zEi 41 [(0, .ref v0), (1, .int v1), (5, .int v5), (6, .int v6)] [] w (k41 (v5, v6, w))) (h0 : zShp v0 = (12, 25)) (w : zWd) : zS gX12_mayBe zEi 90 [(0, .ref v0), (1, .int v1), (6, .int v6)] [] w (mX12_mayBe_90 k41 v0 v1 v6 w) := by
  unfold mX12_mayBe_90
  refine zS_iconst 91 rfl (0 : Int32) (by decide) dX12_mayBe_90 ?_
  exact sX12_mayBe_91 k41 _ _ _ _ hk41 h0 _

set_option maxHeartbeats 4000000 in
set_option maxRecDepth 100000 in
theorem sX12_mayBe_41b (v0 : Nat) (v1 : Int32) (k41 : Int32 × Int32 × zWd → Option (Int32 × zWd)) (v5 : Int32) (v6 : Int32) (hk41 : ∀ (v5 : Int32) (v6 : Int32) (w : zWd), zS gX12_mayBe zEi 41 [(0, .ref v0), (1, .int v1), (5, .int v5), (6, .int v6)] [] w (k41 (v5, v6, w))) (h0 : zShp v0 = (12, 25)) (w : zWd) : zS gX12_mayBe zEi 41 [(0, .ref v0), (1, .int v1), (5, .int v5), (6, .int v6)] [] w (mX12_mayBe_41b v0 v1 k41 v5 v6 w) := by
  unfold mX12_mayBe_41b
  refine zS_iload 43 rfl 3 rfl dX12_mayBe_41 ?_
  refine zS_aload_n 44 rfl 0 rfl dX12_mayBe_43 ?_
  refine zS_getfp 47 rfl 1 dX12_mayBe_44 zC12 zw1113 (by decide) rfl h0 ?_
  refine zS_iconst 48 rfl (1 : Int32) (by decide) dX12_mayBe_47 ?_
  refine zS_iald 49 rfl dX12_mayBe_48 (zP12_s h0) ?_
  refine zS_icmp_ge 99 52 rfl dX12_mayBe_49 (by decide) ?_ ?_
  · refine zS_iload 101 rfl 2 rfl dX12_mayBe_99 ?_
    exact zS_retb dX12_mayBe_101 rfl
  · refine zS_iload 54 rfl 2 rfl dX12_mayBe_52 ?_
    refine zS_if_eq 90 57 rfl dX12_mayBe_54 (by decide) ?_ ?_
    · refine zS_sub [0, 1, 3] (show _ = [(0, .ref _), (1, .int _), (6, .int _)] from rfl) ?_
      exact sX12_mayBe_90 k41 _ _ _ hk41 h0 _
    · refine zS_aload_n 58 rfl 0 rfl dX12_mayBe_57 ?_
      refine zS_getfp 61 rfl 1 dX12_mayBe_58 zC12 zw1113 (by decide) rfl h0 ?_
      refine zS_sipush 64 rfl (152 : Int32) (by decide) dX12_mayBe_61 ?_
      refine zS_iload 66 rfl 3 rfl dX12_mayBe_64 ?_
      refine zS_iadd 67 rfl dX12_mayBe_66 ?_
      refine zS_iald 68 rfl dX12_mayBe_67 (zP12_s h0) ?_
      refine zS_iload_n 69 rfl 1 rfl dX12_mayBe_68 ?_
      refine zS_cSi (as := [.int _, .int _]) (st := []) (g' := gX12_apart) 72 rfl (okX12_apart _ _ _) dX12_mayBe_69 zw1259 cbX12_apart rfl rfl (by decide) (Nat.le_of_ble_eq_true rfl) (fun r3 w4 => ?_)
      refine zS_aload_n 73 rfl 0 rfl dX12_mayBe_72 ?_
      refine zS_iconst 74 rfl (2 : Int32) (by decide) dX12_mayBe_73 ?_
      refine zS_aload_n 75 rfl 0 rfl dX12_mayBe_74 ?_
      refine zS_getfp 78 rfl 1 dX12_mayBe_75 zC12 zw1113 (by decide) rfl h0 ?_
      refine zS_iconst 79 rfl (0 : Int32) (by decide) dX12_mayBe_78 ?_
      refine zS_iald 80 rfl dX12_mayBe_79 (zP12_s h0) ?_
      refine zS_cVi (as := [.int _, .int _]) (st := [.int _]) (g' := gX12_rule) 83 rfl (okX12_rule _ _ _ _ h0) dX12_mayBe_80 zC12 h0 zw1215 cbX12_rule rfl rfl (by decide) (Nat.le_of_ble_eq_true rfl) (fun r5 w6 => ?_)
      refine zS_icmp_lt 90 86 rfl dX12_mayBe_83 (by decide) ?_ ?_
      · refine zS_sub [0, 1, 3] (show _ = [(0, .ref _), (1, .int _), (6, .int _)] from rfl) ?_
        exact sX12_mayBe_90 k41 _ _ _ hk41 h0 _
      · refine zS_iconst 87 rfl (1 : Int32) (by decide) dX12_mayBe_86 ?_
        refine zS_goto 91 dX12_mayBe_87 (by decide) ?_
        refine zS_sub [0, 1, 3] (show _ = [(0, .ref _), (1, .int _), (6, .int _)] from rfl) ?_
        exact sX12_mayBe_91 k41 _ _ _ _ hk41 h0 _

theorem sX12_mayBe_41 (v0 : Nat) (v1 : Int32) (v5 : Int32) (v6 : Int32) (h0 : zShp v0 = (12, 25)) (w : zWd) : zS gX12_mayBe zEi 41 [(0, .ref v0), (1, .int v1), (5, .int v5), (6, .int v6)] [] w (mX12_mayBe_41 v0 v1 v5 v6 w) :=
  zS_loop (L := fun q : Int32 × Int32 × zWd => [(0, .ref v0), (1, .int v1), (5, .int q.1), (6, .int q.2.1)]) (V := fun q => q.2.2) (T := fun _ => []) (F := fun k q => mX12_mayBe_41b v0 v1 k q.1 q.2.1 q.2.2) (fun k hk q => sX12_mayBe_41b v0 v1 k q.1 q.2.1 (fun a5 a6 w => hk (a5, a6, w)) h0 q.2.2) zFU (v5, v6, w)
set_option maxHeartbeats 4000000 in
set_option maxRecDepth 100000 in
theorem sX12_mayBe_36 (v0 : Nat) (v1 : Int32) (s0 : Int32) (h0 : zShp v0 = (12, 25)) (w : zWd) : zS gX12_mayBe zEi 36 [(0, .ref v0), (1, .int v1)] [.int s0] w (mX12_mayBe_36 v0 v1 s0 w) := by
  unfold mX12_mayBe_36
  refine zS_istore 38 rfl dX12_mayBe_36 (by show 5 < 7; decide) (show _ = [(5, .int _), (0, .ref _), (1, .int _)] from rfl) ?_
  refine zS_iconst 39 rfl (0 : Int32) (by decide) dX12_mayBe_38 ?_
  refine zS_istore 41 rfl dX12_mayBe_39 (by show 6 < 7; decide) (show _ = [(6, .int _), (5, .int _), (0, .ref _), (1, .int _)] from rfl) ?_
  refine zS_sub [2, 3, 1, 0] (show _ = [(0, .ref _), (1, .int _), (5, .int _), (6, .int _)] from rfl) ?_
  exact sX12_mayBe_41 _ _ _ _ h0 _

set_option maxHeartbeats 4000000 in
set_option maxRecDepth 100000 in
theorem sX12_mayBe_28 (v0 : Nat) (v1 : Int32) (s0 : Int32) (s1 : Int32) (h0 : zShp v0 = (12, 25)) (w : zWd) : zS gX12_mayBe zEi 28 [(0, .ref v0), (1, .int v1)] [.int s0, .int s1] w (mX12_mayBe_28 v0 v1 s0 s1 w) := by
  unfold mX12_mayBe_28
  refine zS_icmp_gt 35 31 rfl dX12_mayBe_28 (by decide) ?_ ?_
  · refine zS_iconst 36 rfl (0 : Int32) (by decide) dX12_mayBe_35 ?_
    exact sX12_mayBe_36 _ _ _ h0 _
  · refine zS_iconst 32 rfl (1 : Int32) (by decide) dX12_mayBe_31 ?_
    refine zS_goto 36 dX12_mayBe_32 (by decide) ?_
    exact sX12_mayBe_36 _ _ _ h0 _

set_option maxHeartbeats 4000000 in
set_option maxRecDepth 100000 in
theorem sX12_mayBe (v0 : Nat) (v1 : Int32) (v2 : Int32) (v3 : Int32) (h0 : zShp v0 = (12, 25)) (w : zWd) : zS gX12_mayBe zEi 0 [(0, .ref v0), (1, .int v1), (2, .int v2), (3, .int v3)] [] w (mX12_mayBe v0 v1 v2 v3 w) := by
  unfold mX12_mayBe
  refine zS_aload_n 1 rfl 0 rfl dX12_mayBe_0 ?_
  refine zS_iconst 2 rfl (1 : Int32) (by decide) dX12_mayBe_1 ?_
  refine zS_aload_n 3 rfl 0 rfl dX12_mayBe_2 ?_
  refine zS_getfp 6 rfl 1 dX12_mayBe_3 zC12 zw1113 (by decide) rfl h0 ?_
  refine zS_iconst 7 rfl (0 : Int32) (by decide) dX12_mayBe_6 ?_
  refine zS_iald 8 rfl dX12_mayBe_7 (zP12_s h0) ?_
  refine zS_cVi (as := [.int _, .int _]) (st := []) (g' := gX12_rule) 11 rfl (okX12_rule _ _ _ _ h0) dX12_mayBe_8 zC12 h0 zw1215 cbX12_rule rfl rfl (by decide) (Nat.le_of_ble_eq_true rfl) (fun r1 w2 => ?_)
  refine zS_istore 13 rfl dX12_mayBe_11 (by show 4 < 7; decide) (show _ = [(4, .int _), (0, .ref _), (1, .int _), (2, .int _), (3, .int _)] from rfl) ?_
  refine zS_iload_n 14 rfl 4 rfl dX12_mayBe_13 ?_
  refine zS_iload_n 15 rfl 3 rfl dX12_mayBe_14 ?_
  refine zS_iconst 16 rfl (2 : Int32) (by decide) dX12_mayBe_15 ?_
  refine zS_icmp_ne 26 19 rfl dX12_mayBe_16 (by decide) ?_ ?_
  · refine zS_iconst 20 rfl (2 : Int32) (by decide) dX12_mayBe_19 ?_
    refine zS_iload 22 rfl 0 rfl dX12_mayBe_20 ?_
    refine zS_imul 23 rfl dX12_mayBe_22 ?_
    refine zS_goto 28 dX12_mayBe_23 (by decide) ?_
    refine zS_sub [1, 2] (show _ = [(0, .ref _), (1, .int _)] from rfl) ?_
    exact sX12_mayBe_28 _ _ _ _ h0 _
  · refine zS_iload 28 rfl 0 rfl dX12_mayBe_26 ?_
    refine zS_sub [1, 2] (show _ = [(0, .ref _), (1, .int _)] from rfl) ?_
    exact sX12_mayBe_28 _ _ _ _ h0 _

theorem okX12_mayBe (v0 : Nat) (v1 : Int32) (v2 : Int32) (v3 : Int32) (w : zWd) (h0 : zShp v0 = (12, 25)) : zOk gX12_mayBe zEi [.ref v0, .int v1, .int v2, .int v3] w (mX12_mayBe v0 v1 v2 v3 w) := zOk_of (by decide) rfl (Nat.le_of_ble_eq_true rfl) (sX12_mayBe v0 v1 v2 v3 h0 w)
abbrev gX12_hasTap : zMth := (yX12_hasTap, cX12_hasTap, 4, (some .boolean), 1, zE0)
theorem cbX12_hasTap : zCbV yX12_hasTap cX12_hasTap 4 (some .boolean) 1 := ⟨zw1209, zw38, zw89, zw1210, by decide, by decide, by decide +kernel⟩
set_option maxHeartbeats 4000000 in
set_option maxRecDepth 100000 in
theorem sX12_hasTap_37 (k4 : Int32 × Int32 × zWd → Option (Int32 × zWd)) (v0 : Nat) (v1 : Int32) (v3 : Int32) (s0 : Int32) (hk4 : ∀ (v2 : Int32) (v3 : Int32) (w : zWd), zS gX12_hasTap zEi 4 [(0, .ref v0), (1, .int v1), (2, .int v2), (3, .int v3)] [] w (k4 (v2, v3, w))) (h0 : zShp v0 = (12, 25)) (w : zWd) : zS gX12_hasTap zEi 37 [(0, .ref v0), (1, .int v1), (3, .int v3)] [.int s0] w (mX12_hasTap_37 k4 v0 v1 v3 s0 w) := by
  unfold mX12_hasTap_37
  refine zS_istore_n 38 rfl dX12_hasTap_37 (by show 2 < 4; decide) (show _ = [(2, .int _), (0, .ref _), (1, .int _), (3, .int _)] from rfl) ?_
  refine zS_iinc 41 rfl 3 (_ + (1 : Int32)) dX12_hasTap_38 rfl (by show 3 < 4; decide) rfl (show _ = [(3, .int _), (2, .int _), (0, .ref _), (1, .int _)] from rfl) ?_
  refine zS_goto 4 dX12_hasTap_41 (by decide) ?_
  refine zS_sub [2, 3, 1, 0] (show _ = [(0, .ref _), (1, .int _), (2, .int _), (3, .int _)] from rfl) ?_
  exact hk4 _ _ _

set_option maxHeartbeats 4000000 in
set_option maxRecDepth 100000 in
theorem sX12_hasTap_32 (k4 : Int32 × Int32 × zWd → Option (Int32 × zWd)) (v0 : Nat) (v1 : Int32) (v3 : Int32) (hk4 : ∀ (v2 : Int32) (v3 : Int32) (w : zWd), zS gX12_hasTap zEi 4 [(0, .ref v0), (1, .int v1), (2, .int v2), (3, .int v3)] [] w (k4 (v2, v3, w))) (h0 : zShp v0 = (12, 25)) (w : zWd) : zS gX12_hasTap zEi 32 [(0, .ref v0), (1, .int v1), (3, .int v3)] [] w (mX12_hasTap_32 k4 v0 v1 v3 w) := by
  unfold mX12_hasTap_32
  refine zS_iconst 33 rfl (1 : Int32) (by decide) dX12_hasTap_32 ?_
  refine zS_goto 37 dX12_hasTap_33 (by decide) ?_
  exact sX12_hasTap_37 k4 _ _ _ _ hk4 h0 _

set_option maxHeartbeats 4000000 in
set_option maxRecDepth 100000 in
theorem sX12_hasTap_4b (v0 : Nat) (v1 : Int32) (k4 : Int32 × Int32 × zWd → Option (Int32 × zWd)) (v2 : Int32) (v3 : Int32) (hk4 : ∀ (v2 : Int32) (v3 : Int32) (w : zWd), zS gX12_hasTap zEi 4 [(0, .ref v0), (1, .int v1), (2, .int v2), (3, .int v3)] [] w (k4 (v2, v3, w))) (h0 : zShp v0 = (12, 25)) (w : zWd) : zS gX12_hasTap zEi 4 [(0, .ref v0), (1, .int v1), (2, .int v2), (3, .int v3)] [] w (mX12_hasTap_4b v0 v1 k4 v2 v3 w) := by
  unfold mX12_hasTap_4b
  refine zS_iload_n 5 rfl 3 rfl dX12_hasTap_4 ?_
  refine zS_aload_n 6 rfl 0 rfl dX12_hasTap_5 ?_
  refine zS_getfp 9 rfl 1 dX12_hasTap_6 zC12 zw1113 (by decide) rfl h0 ?_
  refine zS_iconst 10 rfl (1 : Int32) (by decide) dX12_hasTap_9 ?_
  refine zS_iald 11 rfl dX12_hasTap_10 (zP12_s h0) ?_
  refine zS_icmp_ge 44 14 rfl dX12_hasTap_11 (by decide) ?_ ?_
  · refine zS_iload_n 45 rfl 2 rfl dX12_hasTap_44 ?_
    exact zS_retb dX12_hasTap_45 rfl
  · refine zS_iload_n 15 rfl 2 rfl dX12_hasTap_14 ?_
    refine zS_if_ne 32 18 rfl dX12_hasTap_15 (by decide) ?_ ?_
    · refine zS_aload_n 19 rfl 0 rfl dX12_hasTap_18 ?_
      refine zS_getfp 22 rfl 1 dX12_hasTap_19 zC12 zw1113 (by decide) rfl h0 ?_
      refine zS_sipush 25 rfl (152 : Int32) (by decide) dX12_hasTap_22 ?_
      refine zS_iload_n 26 rfl 3 rfl dX12_hasTap_25 ?_
      refine zS_iadd 27 rfl dX12_hasTap_26 ?_
      refine zS_iald 28 rfl dX12_hasTap_27 (zP12_s h0) ?_
      refine zS_iload_n 29 rfl 1 rfl dX12_hasTap_28 ?_
      refine zS_icmp_ne 36 32 rfl dX12_hasTap_29 (by decide) ?_ ?_
      · refine zS_sub [0, 1, 3] (show _ = [(0, .ref _), (1, .int _), (3, .int _)] from rfl) ?_
        exact sX12_hasTap_32 k4 _ _ _ hk4 h0 _
      · refine zS_iconst 37 rfl (0 : Int32) (by decide) dX12_hasTap_36 ?_
        refine zS_sub [0, 1, 3] (show _ = [(0, .ref _), (1, .int _), (3, .int _)] from rfl) ?_
        exact sX12_hasTap_37 k4 _ _ _ _ hk4 h0 _
    · refine zS_sub [0, 1, 3] (show _ = [(0, .ref _), (1, .int _), (3, .int _)] from rfl) ?_
      exact sX12_hasTap_32 k4 _ _ _ hk4 h0 _

theorem sX12_hasTap_4 (v0 : Nat) (v1 : Int32) (v2 : Int32) (v3 : Int32) (h0 : zShp v0 = (12, 25)) (w : zWd) : zS gX12_hasTap zEi 4 [(0, .ref v0), (1, .int v1), (2, .int v2), (3, .int v3)] [] w (mX12_hasTap_4 v0 v1 v2 v3 w) :=
  zS_loop (L := fun q : Int32 × Int32 × zWd => [(0, .ref v0), (1, .int v1), (2, .int q.1), (3, .int q.2.1)]) (V := fun q => q.2.2) (T := fun _ => []) (F := fun k q => mX12_hasTap_4b v0 v1 k q.1 q.2.1 q.2.2) (fun k hk q => sX12_hasTap_4b v0 v1 k q.1 q.2.1 (fun a2 a3 w => hk (a2, a3, w)) h0 q.2.2) zFU (v2, v3, w)
set_option maxHeartbeats 4000000 in
set_option maxRecDepth 100000 in
theorem sX12_hasTap (v0 : Nat) (v1 : Int32) (h0 : zShp v0 = (12, 25)) (w : zWd) : zS gX12_hasTap zEi 0 [(0, .ref v0), (1, .int v1)] [] w (mX12_hasTap v0 v1 w) := by
  unfold mX12_hasTap
  refine zS_iconst 1 rfl (0 : Int32) (by decide) dX12_hasTap_0 ?_
  refine zS_istore_n 2 rfl dX12_hasTap_1 (by show 2 < 4; decide) (show _ = [(2, .int _), (0, .ref _), (1, .int _)] from rfl) ?_
  refine zS_iconst 3 rfl (0 : Int32) (by decide) dX12_hasTap_2 ?_
  refine zS_istore_n 4 rfl dX12_hasTap_3 (by show 3 < 4; decide) (show _ = [(3, .int _), (2, .int _), (0, .ref _), (1, .int _)] from rfl) ?_
  refine zS_sub [2, 3, 1, 0] (show _ = [(0, .ref _), (1, .int _), (2, .int _), (3, .int _)] from rfl) ?_
  exact sX12_hasTap_4 _ _ _ _ h0 _

theorem okX12_hasTap (v0 : Nat) (v1 : Int32) (w : zWd) (h0 : zShp v0 = (12, 25)) : zOk gX12_hasTap zEi [.ref v0, .int v1] w (mX12_hasTap v0 v1 w) := zOk_of (by decide) rfl (Nat.le_of_ble_eq_true rfl) (sX12_hasTap v0 v1 h0 w)
abbrev gX12_tap : zMth := (yX12_tap, cX12_tap, 6, (some .int), 49, zE0)
theorem cbX12_tap : zCbV yX12_tap cX12_tap 6 (some .int) 4 := ⟨zw1204, zw1205, zw89, zw1206, by decide, by decide, by decide +kernel⟩
set_option maxHeartbeats 4000000 in
set_option maxRecDepth 100000 in
theorem sX12_tap_16 (w : zWd) : zS gX12_tap zEi 16 [] [] w (mX12_tap_16 w) := by
  unfold mX12_tap_16
  refine zS_iconst 17 rfl (-1 : Int32) (by decide) dX12_tap_16 ?_
  exact zS_reti dX12_tap_17 rfl

set_option maxHeartbeats 4000000 in
set_option maxRecDepth 100000 in
theorem sX12_tap_73 (v0 : Nat) (v1 : Int32) (v2 : Int32) (v3 : Int32) (v4 : Int32) (h0 : zShp v0 = (12, 25)) (w : zWd) : zS gX12_tap zEi 73 [(0, .ref v0), (1, .int v1), (2, .int v2), (3, .int v3), (4, .int v4)] [] w (mX12_tap_73 v0 v1 v2 v3 v4 w) := by
  unfold mX12_tap_73
  refine zS_aload_n 74 rfl 0 rfl dX12_tap_73 ?_
  refine zS_getfp 77 rfl 1 dX12_tap_74 zC12 zw1113 (by decide) rfl h0 ?_
  refine zS_iconst 78 rfl (1 : Int32) (by decide) dX12_tap_77 ?_
  refine zS_iald 79 rfl dX12_tap_78 (zP12_s h0) ?_
  refine zS_bipush 81 rfl (12 : Int32) (by decide) dX12_tap_79 ?_
  refine zS_icmp_ne 87 84 rfl dX12_tap_81 (by decide) ?_ ?_
  · refine zS_bipush 86 rfl (-4 : Int32) (by decide) dX12_tap_84 ?_
    exact zS_reti dX12_tap_86 rfl
  · refine zS_aload_n 88 rfl 0 rfl dX12_tap_87 ?_
    refine zS_getfp 91 rfl 1 dX12_tap_88 zC12 zw1113 (by decide) rfl h0 ?_
    refine zS_iconst 92 rfl (1 : Int32) (by decide) dX12_tap_91 ?_
    refine zS_iald 93 rfl dX12_tap_92 (zP12_s h0) ?_
    refine zS_bni (fun x7 => ?_)
    refine zS_istore 95 rfl dX12_tap_93 (by show 5 < 6; decide) (show _ = [(5, .int _), (0, .ref _), (1, .int _), (2, .int _), (3, .int _), (4, .int _)] from rfl) ?_
    refine zS_aload_n 96 rfl 1 rfl dX12_tap_95 ?_
    refine zS_getfp 99 rfl 1 dX12_tap_96 zC12 zw1113 (by decide) rfl h0 ?_
    refine zS_sipush 102 rfl (140 : Int32) (by decide) dX12_tap_99 ?_
    refine zS_iload 104 rfl 0 rfl dX12_tap_102 ?_
    refine zS_iadd 105 rfl dX12_tap_104 ?_
    refine zS_iload_n 106 rfl 2 rfl dX12_tap_105 ?_
    refine zS_iast 107 rfl dX12_tap_106 (zP12_s h0) ?_
    refine zS_bnw (fun w8 => ?_)
    refine zS_aload_n 108 rfl 1 rfl dX12_tap_107 ?_
    refine zS_getfp 111 rfl 1 dX12_tap_108 zC12 zw1113 (by decide) rfl h0 ?_
    refine zS_sipush 114 rfl (152 : Int32) (by decide) dX12_tap_111 ?_
    refine zS_iload 116 rfl 0 rfl dX12_tap_114 ?_
    refine zS_iadd 117 rfl dX12_tap_116 ?_
    refine zS_iload_n 118 rfl 3 rfl dX12_tap_117 ?_
    refine zS_iast 119 rfl dX12_tap_118 (zP12_s h0) ?_
    refine zS_bnw (fun w9 => ?_)
    refine zS_aload_n 120 rfl 1 rfl dX12_tap_119 ?_
    refine zS_getfp 123 rfl 1 dX12_tap_120 zC12 zw1113 (by decide) rfl h0 ?_
    refine zS_sipush 126 rfl (164 : Int32) (by decide) dX12_tap_123 ?_
    refine zS_iload 128 rfl 0 rfl dX12_tap_126 ?_
    refine zS_iadd 129 rfl dX12_tap_128 ?_
    refine zS_iload_n 130 rfl 4 rfl dX12_tap_129 ?_
    refine zS_iast 131 rfl dX12_tap_130 (zP12_s h0) ?_
    refine zS_bnw (fun w10 => ?_)
    refine zS_aload_n 132 rfl 1 rfl dX12_tap_131 ?_
    refine zS_getfp 135 rfl 1 dX12_tap_132 zC12 zw1113 (by decide) rfl h0 ?_
    refine zS_sipush 138 rfl (176 : Int32) (by decide) dX12_tap_135 ?_
    refine zS_iload 140 rfl 0 rfl dX12_tap_138 ?_
    refine zS_iadd 141 rfl dX12_tap_140 ?_
    refine zS_iload 143 rfl 5 rfl dX12_tap_141 ?_
    refine zS_iast 144 rfl dX12_tap_143 (zP12_s h0) ?_
    refine zS_bnw (fun w11 => ?_)
    refine zS_aload_n 145 rfl 1 rfl dX12_tap_144 ?_
    refine zS_getfp 148 rfl 1 dX12_tap_145 zC12 zw1113 (by decide) rfl h0 ?_
    refine zS_sipush 151 rfl (188 : Int32) (by decide) dX12_tap_148 ?_
    refine zS_iload 153 rfl 0 rfl dX12_tap_151 ?_
    refine zS_iadd 154 rfl dX12_tap_153 ?_
    refine zS_iconst 155 rfl (0 : Int32) (by decide) dX12_tap_154 ?_
    refine zS_iast 156 rfl dX12_tap_155 (zP12_s h0) ?_
    refine zS_bnw (fun w12 => ?_)
    refine zS_aload_n 157 rfl 1 rfl dX12_tap_156 ?_
    refine zS_getfp 160 rfl 1 dX12_tap_157 zC12 zw1113 (by decide) rfl h0 ?_
    refine zS_sipush 163 rfl (200 : Int32) (by decide) dX12_tap_160 ?_
    refine zS_iload 165 rfl 0 rfl dX12_tap_163 ?_
    refine zS_iadd 166 rfl dX12_tap_165 ?_
    refine zS_aload_n 167 rfl 1 rfl dX12_tap_166 ?_
    refine zS_getfp 170 rfl 1 dX12_tap_167 zC12 zw1113 (by decide) rfl h0 ?_
    refine zS_iconst 171 rfl (0 : Int32) (by decide) dX12_tap_170 ?_
    refine zS_iald 172 rfl dX12_tap_171 (zP12_s h0) ?_
    refine zS_iast 173 rfl dX12_tap_172 (zP12_s h0) ?_
    refine zS_bnw (fun w13 => ?_)
    refine zS_aload_n 174 rfl 1 rfl dX12_tap_173 ?_
    refine zS_getfp 177 rfl 1 dX12_tap_174 zC12 zw1113 (by decide) rfl h0 ?_
    refine zS_iconst 178 rfl (1 : Int32) (by decide) dX12_tap_177 ?_
    refine zS_dup2 179 rfl rfl rfl dX12_tap_178 ?_
    refine zS_iald 180 rfl dX12_tap_179 (zP12_s h0) ?_
    refine zS_iconst 181 rfl (1 : Int32) (by decide) dX12_tap_180 ?_
    refine zS_iadd 182 rfl dX12_tap_181 ?_
    refine zS_iast 183 rfl dX12_tap_182 (zP12_s h0) ?_
    refine zS_bnw (fun w14 => ?_)
    refine zS_iload 185 rfl 0 rfl dX12_tap_183 ?_
    exact zS_reti dX12_tap_185 rfl

set_option maxHeartbeats 4000000 in
set_option maxRecDepth 100000 in
theorem sX12_tap_70 (w : zWd) : zS gX12_tap zEi 70 [] [] w (mX12_tap_70 w) := by
  unfold mX12_tap_70
  refine zS_bipush 72 rfl (-3 : Int32) (by decide) dX12_tap_70 ?_
  exact zS_reti dX12_tap_72 rfl

set_option maxHeartbeats 4000000 in
set_option maxRecDepth 100000 in
theorem sX12_tap_47 (v0 : Nat) (v1 : Int32) (v2 : Int32) (v3 : Int32) (v4 : Int32) (h0 : zShp v0 = (12, 25)) (w : zWd) : zS gX12_tap zEi 47 [(0, .ref v0), (1, .int v1), (2, .int v2), (3, .int v3), (4, .int v4)] [] w (mX12_tap_47 v0 v1 v2 v3 v4 w) := by
  unfold mX12_tap_47
  refine zS_aload_n 48 rfl 0 rfl dX12_tap_47 ?_
  refine zS_iload_n 49 rfl 2 rfl dX12_tap_48 ?_
  refine zS_cVi (as := [.int _]) (st := []) (g' := gX12_hasTap) 52 rfl (okX12_hasTap _ _ _ h0) dX12_tap_49 zC12 h0 zw1207 cbX12_hasTap rfl rfl (by decide) (Nat.le_of_ble_eq_true rfl) (fun r5 w6 => ?_)
  refine zS_if_ne 70 55 rfl dX12_tap_52 (by decide) ?_ ?_
  · refine zS_iload_n 56 rfl 1 rfl dX12_tap_55 ?_
    refine zS_if_eq 73 59 rfl dX12_tap_56 (by decide) ?_ ?_
    · exact sX12_tap_73 _ _ _ _ _ h0 _
    · refine zS_aload_n 60 rfl 0 rfl dX12_tap_59 ?_
      refine zS_iload_n 61 rfl 2 rfl dX12_tap_60 ?_
      refine zS_iload_n 62 rfl 1 rfl dX12_tap_61 ?_
      refine zS_iload 64 rfl 4 rfl dX12_tap_62 ?_
      refine zS_cVi (as := [.int _, .int _, .int _]) (st := []) (g' := gX12_mayBe) 67 rfl (okX12_mayBe _ _ _ _ _ h0) dX12_tap_64 zC12 h0 zw1211 cbX12_mayBe rfl rfl (by decide) (Nat.le_of_ble_eq_true rfl) (fun r15 w16 => ?_)
      refine zS_if_ne 73 70 rfl dX12_tap_67 (by decide) ?_ ?_
      · refine zS_sub [] (show _ = [] from rfl) ?_
        exact sX12_tap_70 _
      · exact sX12_tap_73 _ _ _ _ _ h0 _
  · refine zS_sub [] (show _ = [] from rfl) ?_
    exact sX12_tap_70 _

set_option maxHeartbeats 4000000 in
set_option maxRecDepth 100000 in
theorem sX12_tap_44 (w : zWd) : zS gX12_tap zEi 44 [] [] w (mX12_tap_44 w) := by
  unfold mX12_tap_44
  refine zS_bipush 46 rfl (-2 : Int32) (by decide) dX12_tap_44 ?_
  exact zS_reti dX12_tap_46 rfl

set_option maxHeartbeats 4000000 in
set_option maxRecDepth 100000 in
theorem sX12_tap (v0 : Nat) (v1 : Int32) (v2 : Int32) (v3 : Int32) (v4 : Int32) (h0 : zShp v0 = (12, 25)) (w : zWd) : zS gX12_tap zEi 0 [(0, .ref v0), (1, .int v1), (2, .int v2), (3, .int v3), (4, .int v4)] [] w (mX12_tap v0 v1 v2 v3 v4 w) := by
  unfold mX12_tap
  refine zS_iload_n 1 rfl 1 rfl dX12_tap_0 ?_
  refine zS_iconst 2 rfl (0 : Int32) (by decide) dX12_tap_1 ?_
  refine zS_iconst 3 rfl (2 : Int32) (by decide) dX12_tap_2 ?_
  refine zS_cSi (as := [.int _, .int _, .int _]) (st := []) (g' := gX12_in) 6 rfl (okX12_in _ _ _ _) dX12_tap_3 zw1196 cbX12_in rfl rfl (by decide) (Nat.le_of_ble_eq_true rfl) (fun r1 w2 => ?_)
  refine zS_if_eq 16 9 rfl dX12_tap_6 (by decide) ?_ ?_
  · refine zS_sub [] (show _ = [] from rfl) ?_
    exact sX12_tap_16 _
  · refine zS_iload_n 10 rfl 2 rfl dX12_tap_9 ?_
    refine zS_cSi (as := [.int _]) (st := []) (g' := gX12_isCell) 13 rfl (okX12_isCell _ _) dX12_tap_10 zw1193 cbX12_isCell rfl rfl (by decide) (Nat.le_of_ble_eq_true rfl) (fun r3 w4 => ?_)
    refine zS_if_ne 18 16 rfl dX12_tap_13 (by decide) ?_ ?_
    · refine zS_sub [] (show _ = [] from rfl) ?_
      exact sX12_tap_16 _
    · refine zS_iload_n 19 rfl 1 rfl dX12_tap_18 ?_
      refine zS_if_eq 47 22 rfl dX12_tap_19 (by decide) ?_ ?_
      · exact sX12_tap_47 _ _ _ _ _ h0 _
      · refine zS_iload_n 23 rfl 3 rfl dX12_tap_22 ?_
        refine zS_iconst 24 rfl (1 : Int32) (by decide) dX12_tap_23 ?_
        refine zS_sipush 27 rfl (500 : Int32) (by decide) dX12_tap_24 ?_
        refine zS_cSi (as := [.int _, .int _, .int _]) (st := []) (g' := gX12_in) 30 rfl (okX12_in _ _ _ _) dX12_tap_27 zw1196 cbX12_in rfl rfl (by decide) (Nat.le_of_ble_eq_true rfl) (fun r17 w18 => ?_)
        refine zS_if_eq 44 33 rfl dX12_tap_30 (by decide) ?_ ?_
        · refine zS_sub [] (show _ = [] from rfl) ?_
          exact sX12_tap_44 _
        · refine zS_iload 35 rfl 4 rfl dX12_tap_33 ?_
          refine zS_iconst 36 rfl (0 : Int32) (by decide) dX12_tap_35 ?_
          refine zS_bipush 38 rfl (99 : Int32) (by decide) dX12_tap_36 ?_
          refine zS_cSi (as := [.int _, .int _, .int _]) (st := []) (g' := gX12_in) 41 rfl (okX12_in _ _ _ _) dX12_tap_38 zw1196 cbX12_in rfl rfl (by decide) (Nat.le_of_ble_eq_true rfl) (fun r19 w20 => ?_)
          refine zS_if_ne 47 44 rfl dX12_tap_41 (by decide) ?_ ?_
          · refine zS_sub [] (show _ = [] from rfl) ?_
            exact sX12_tap_44 _
          · exact sX12_tap_47 _ _ _ _ _ h0 _

theorem okX12_tap (v0 : Nat) (v1 : Int32) (v2 : Int32) (v3 : Int32) (v4 : Int32) (w : zWd) (h0 : zShp v0 = (12, 25)) : zOk gX12_tap zEi [.ref v0, .int v1, .int v2, .int v3, .int v4] w (mX12_tap v0 v1 v2 v3 v4 w) := zOk_of (by decide) rfl (Nat.le_of_ble_eq_true rfl) (sX12_tap v0 v1 v2 v3 v4 h0 w)
abbrev gX12_shut : zMth := (yX12_shut, cX12_shut, 4, (some .int), 3, zE0)
theorem cbX12_shut : zCbV yX12_shut cX12_shut 4 (some .int) 2 := ⟨zw1266, zw1267, zw89, zw1268, by decide, by decide, by decide +kernel⟩
set_option maxHeartbeats 4000000 in
set_option maxRecDepth 100000 in
theorem sX12_shut_39 (v3 : Int32) (s0 : Int32) (s1 : Int32) (s2 : Nat) (t2 : zShp s2 = (20, 21948)) (w : zWd) : zS gX12_shut zEi 39 [(3, .int v3)] [.int s0, .int s1, .ref s2] w (mX12_shut_39 v3 s0 s1 s2 w) := by
  unfold mX12_shut_39
  refine zS_iast 40 rfl dX12_shut_39 t2 ?_
  refine zS_bnw (fun w4 => ?_)
  refine zS_iload_n 41 rfl 0 rfl dX12_shut_40 ?_
  exact zS_reti dX12_shut_41 rfl

set_option maxHeartbeats 4000000 in
set_option maxRecDepth 100000 in
theorem sX12_shut (v0 : Nat) (v1 : Int32) (v2 : Int32) (h0 : zShp v0 = (12, 25)) (w : zWd) : zS gX12_shut zEi 0 [(0, .ref v0), (1, .int v1), (2, .int v2)] [] w (mX12_shut v0 v1 v2 w) := by
  unfold mX12_shut
  refine zS_aload_n 1 rfl 0 rfl dX12_shut_0 ?_
  refine zS_iload_n 2 rfl 1 rfl dX12_shut_1 ?_
  refine zS_cVi (as := [.int _]) (st := []) (g' := gX12_isTap) 5 rfl (okX12_isTap _ _ _ h0) dX12_shut_2 zC12 h0 zw1269 cbX12_isTap rfl rfl (by decide) (Nat.le_of_ble_eq_true rfl) (fun r1 w2 => ?_)
  refine zS_if_ne 10 8 rfl dX12_shut_5 (by decide) ?_ ?_
  · refine zS_iconst 9 rfl (-1 : Int32) (by decide) dX12_shut_8 ?_
    exact zS_reti dX12_shut_9 rfl
  · refine zS_aload_n 11 rfl 0 rfl dX12_shut_10 ?_
    refine zS_getfp 14 rfl 1 dX12_shut_11 zC12 zw1113 (by decide) rfl h0 ?_
    refine zS_sipush 17 rfl (188 : Int32) (by decide) dX12_shut_14 ?_
    refine zS_iload_n 18 rfl 1 rfl dX12_shut_17 ?_
    refine zS_iadd 19 rfl dX12_shut_18 ?_
    refine zS_iald 20 rfl dX12_shut_19 (zP12_s h0) ?_
    refine zS_bni (fun x3 => ?_)
    refine zS_istore_n 21 rfl dX12_shut_20 (by show 3 < 4; decide) (show _ = [(3, .int _), (0, .ref _), (1, .int _), (2, .int _)] from rfl) ?_
    refine zS_aload_n 22 rfl 1 rfl dX12_shut_21 ?_
    refine zS_getfp 25 rfl 1 dX12_shut_22 zC12 zw1113 (by decide) rfl h0 ?_
    refine zS_sipush 28 rfl (188 : Int32) (by decide) dX12_shut_25 ?_
    refine zS_iload_n 29 rfl 2 rfl dX12_shut_28 ?_
    refine zS_iadd 30 rfl dX12_shut_29 ?_
    refine zS_iload_n 31 rfl 3 rfl dX12_shut_30 ?_
    refine zS_if_eq 38 34 rfl dX12_shut_31 (by decide) ?_ ?_
    · refine zS_iconst 39 rfl (0 : Int32) (by decide) dX12_shut_38 ?_
      refine zS_sub [0] (show _ = [(3, .int _)] from rfl) ?_
      exact sX12_shut_39 _ _ _ _ (zP12_s h0) _
    · refine zS_iconst 35 rfl (1 : Int32) (by decide) dX12_shut_34 ?_
      refine zS_goto 39 dX12_shut_35 (by decide) ?_
      refine zS_sub [0] (show _ = [(3, .int _)] from rfl) ?_
      exact sX12_shut_39 _ _ _ _ (zP12_s h0) _

theorem okX12_shut (v0 : Nat) (v1 : Int32) (v2 : Int32) (w : zWd) (h0 : zShp v0 = (12, 25)) : zOk gX12_shut zEi [.ref v0, .int v1, .int v2] w (mX12_shut v0 v1 v2 w) := zOk_of (by decide) rfl (Nat.le_of_ble_eq_true rfl) (sX12_shut v0 v1 v2 h0 w)
abbrev gX12_gives : zMth := (yX12_gives, cX12_gives, 8, none, 1, zE0)
theorem cbX12_gives : zCbV yX12_gives cX12_gives 8 none 1 := ⟨zw1287, zw54, zw89, zw1288, by decide, by decide, by decide +kernel⟩
set_option maxHeartbeats 4000000 in
set_option maxRecDepth 100000 in
theorem sX12_gives_300 (s0 : Int32) (s1 : Int32) (s2 : Int32) (s3 : Nat) (t3 : zShp s3 = (20, 21948)) (w : zWd) : zS gX12_gives zEv 300 [] [.int s0, .int s1, .int s2, .ref s3] w (mX12_gives_300 s0 s1 s2 s3 w) := by
  unfold mX12_gives_300
  refine zS_iadd 301 rfl dX12_gives_300 ?_
  refine zS_iast 302 rfl dX12_gives_301 t3 ?_
  refine zS_bnw (fun w11 => ?_)
  exact zS_retv dX12_gives_302 rfl

set_option maxHeartbeats 4000000 in
set_option maxRecDepth 100000 in
theorem sX12_gives_299 (s0 : Int32) (s1 : Int32) (s2 : Nat) (t2 : zShp s2 = (20, 21948)) (w : zWd) : zS gX12_gives zEv 299 [] [.int s0, .int s1, .ref s2] w (mX12_gives_299 s0 s1 s2 w) := by
  unfold mX12_gives_299
  refine zS_iconst 300 rfl (0 : Int32) (by decide) dX12_gives_299 ?_
  exact sX12_gives_300 _ _ _ _ t2 _

set_option maxHeartbeats 4000000 in
set_option maxRecDepth 100000 in
theorem sX12_gives_250 (v0 : Nat) (v1 : Int32) (v5 : Int32) (s0 : Int32) (s1 : Int32) (s2 : Nat) (h0 : zShp v0 = (12, 25)) (t2 : zShp s2 = (20, 12)) (w : zWd) : zS gX12_gives zEv 250 [(0, .ref v0), (1, .int v1), (5, .int v5)] [.int s0, .int s1, .ref s2] w (mX12_gives_250 v0 v1 v5 s0 s1 s2 w) := by
  unfold mX12_gives_250
  refine zS_iast 251 rfl dX12_gives_250 t2 ?_
  refine zS_bnw (fun w10 => ?_)
  refine zS_aload_n 252 rfl 0 rfl dX12_gives_251 ?_
  refine zS_getfp 255 rfl 1 dX12_gives_252 zC12 zw1113 (by decide) rfl h0 ?_
  refine zS_sipush 258 rfl (224 : Int32) (by decide) dX12_gives_255 ?_
  refine zS_iload_n 259 rfl 1 rfl dX12_gives_258 ?_
  refine zS_iadd 260 rfl dX12_gives_259 ?_
  refine zS_dup2 261 rfl rfl rfl dX12_gives_260 ?_
  refine zS_iald 262 rfl dX12_gives_261 (zP12_s h0) ?_
  refine zS_iload 264 rfl 2 rfl dX12_gives_262 ?_
  refine zS_if_le 299 267 rfl dX12_gives_264 (by decide) ?_ ?_
  · refine zS_sub [] (show _ = [] from rfl) ?_
    exact sX12_gives_299 _ _ _ (zP12_s h0) _
  · refine zS_aload_n 268 rfl 0 rfl dX12_gives_267 ?_
    refine zS_getfp 271 rfl 5 dX12_gives_268 zC12 zw1117 (by decide) rfl h0 ?_
    refine zS_iload_n 272 rfl 1 rfl dX12_gives_271 ?_
    refine zS_iald 273 rfl dX12_gives_272 (zP12_hot h0) ?_
    refine zS_sipush 276 rfl (500 : Int32) (by decide) dX12_gives_273 ?_
    refine zS_icmp_lt 299 279 rfl dX12_gives_276 (by decide) ?_ ?_
    · refine zS_sub [] (show _ = [] from rfl) ?_
      exact sX12_gives_299 _ _ _ (zP12_s h0) _
    · refine zS_aload_n 280 rfl 0 rfl dX12_gives_279 ?_
      refine zS_getfp 283 rfl 5 dX12_gives_280 zC12 zw1117 (by decide) rfl h0 ?_
      refine zS_iload_n 284 rfl 1 rfl dX12_gives_283 ?_
      refine zS_iald 285 rfl dX12_gives_284 (zP12_hot h0) ?_
      refine zS_sipush 288 rfl (800 : Int32) (by decide) dX12_gives_285 ?_
      refine zS_icmp_lt 295 291 rfl dX12_gives_288 (by decide) ?_ ?_
      · refine zS_iconst 296 rfl (1 : Int32) (by decide) dX12_gives_295 ?_
        refine zS_goto 300 dX12_gives_296 (by decide) ?_
        refine zS_sub [] (show _ = [] from rfl) ?_
        exact sX12_gives_300 _ _ _ _ (zP12_s h0) _
      · refine zS_iconst 292 rfl (2 : Int32) (by decide) dX12_gives_291 ?_
        refine zS_goto 300 dX12_gives_292 (by decide) ?_
        refine zS_sub [] (show _ = [] from rfl) ?_
        exact sX12_gives_300 _ _ _ _ (zP12_s h0) _

set_option maxHeartbeats 4000000 in
set_option maxRecDepth 100000 in
theorem sX12_gives_205 (v0 : Nat) (v1 : Int32) (v5 : Int32) (s0 : Int32) (s1 : Int32) (s2 : Nat) (h0 : zShp v0 = (12, 25)) (t2 : zShp s2 = (20, 12)) (w : zWd) : zS gX12_gives zEv 205 [(0, .ref v0), (1, .int v1), (5, .int v5)] [.int s0, .int s1, .ref s2] w (mX12_gives_205 v0 v1 v5 s0 s1 s2 w) := by
  unfold mX12_gives_205
  refine zS_iast 206 rfl dX12_gives_205 t2 ?_
  refine zS_bnw (fun w8 => ?_)
  refine zS_aload_n 207 rfl 0 rfl dX12_gives_206 ?_
  refine zS_getfp 210 rfl 5 dX12_gives_207 zC12 zw1117 (by decide) rfl h0 ?_
  refine zS_iload_n 211 rfl 1 rfl dX12_gives_210 ?_
  refine zS_iald 212 rfl dX12_gives_211 (zP12_hot h0) ?_
  refine zS_bipush 214 rfl (10 : Int32) (by decide) dX12_gives_212 ?_
  refine zS_aload_n 215 rfl 0 rfl dX12_gives_214 ?_
  refine zS_getfp 218 rfl 1 dX12_gives_215 zC12 zw1113 (by decide) rfl h0 ?_
  refine zS_sipush 221 rfl (212 : Int32) (by decide) dX12_gives_218 ?_
  refine zS_iload_n 222 rfl 1 rfl dX12_gives_221 ?_
  refine zS_iadd 223 rfl dX12_gives_222 ?_
  refine zS_iald 224 rfl dX12_gives_223 (zP12_s h0) ?_
  refine zS_imul 225 rfl dX12_gives_224 ?_
  refine zS_iload 227 rfl 2 rfl dX12_gives_225 ?_
  refine zS_bipush 229 rfl (10 : Int32) (by decide) dX12_gives_227 ?_
  refine zS_iadd 230 rfl dX12_gives_229 ?_
  refine zS_idiv 231 rfl dX12_gives_230 ?_
  refine zS_isub 232 rfl dX12_gives_231 ?_
  refine zS_bni (fun x9 => ?_)
  refine zS_istore 234 rfl dX12_gives_232 (by show 7 < 8; decide) (show _ = [(7, .int _), (0, .ref _), (1, .int _), (5, .int _)] from rfl) ?_
  refine zS_aload_n 235 rfl 1 rfl dX12_gives_234 ?_
  refine zS_getfp 238 rfl 7 dX12_gives_235 zC12 zw1119 (by decide) rfl h0 ?_
  refine zS_iload_n 239 rfl 2 rfl dX12_gives_238 ?_
  refine zS_iload 241 rfl 0 rfl dX12_gives_239 ?_
  refine zS_if_ge 248 244 rfl dX12_gives_241 (by decide) ?_ ?_
  · refine zS_iload 250 rfl 0 rfl dX12_gives_248 ?_
    refine zS_sub [1, 2, 3] (show _ = [(0, .ref _), (1, .int _), (5, .int _)] from rfl) ?_
    exact sX12_gives_250 _ _ _ _ _ _ h0 (zP12_warm h0) _
  · refine zS_iconst 245 rfl (0 : Int32) (by decide) dX12_gives_244 ?_
    refine zS_goto 250 dX12_gives_245 (by decide) ?_
    refine zS_sub [1, 2, 3] (show _ = [(0, .ref _), (1, .int _), (5, .int _)] from rfl) ?_
    exact sX12_gives_250 _ _ _ _ _ _ h0 (zP12_warm h0) _

set_option maxHeartbeats 4000000 in
set_option maxRecDepth 100000 in
theorem sX12_gives_169 (v0 : Nat) (v1 : Int32) (v5 : Int32) (s0 : Int32) (s1 : Int32) (s2 : Int32) (s3 : Nat) (h0 : zShp v0 = (12, 25)) (t3 : zShp s3 = (20, 12)) (w : zWd) : zS gX12_gives zEv 169 [(0, .ref v0), (1, .int v1), (5, .int v5)] [.int s0, .int s1, .int s2, .ref s3] w (mX12_gives_169 v0 v1 v5 s0 s1 s2 s3 w) := by
  unfold mX12_gives_169
  refine zS_iadd 170 rfl dX12_gives_169 ?_
  refine zS_iast 171 rfl dX12_gives_170 t3 ?_
  refine zS_bnw (fun w6 => ?_)
  refine zS_iload 173 rfl 2 rfl dX12_gives_171 ?_
  refine zS_aload_n 174 rfl 0 rfl dX12_gives_173 ?_
  refine zS_getfp 177 rfl 1 dX12_gives_174 zC12 zw1113 (by decide) rfl h0 ?_
  refine zS_sipush 180 rfl (224 : Int32) (by decide) dX12_gives_177 ?_
  refine zS_iload_n 181 rfl 1 rfl dX12_gives_180 ?_
  refine zS_iadd 182 rfl dX12_gives_181 ?_
  refine zS_iald 183 rfl dX12_gives_182 (zP12_s h0) ?_
  refine zS_bipush 185 rfl (10 : Int32) (by decide) dX12_gives_183 ?_
  refine zS_idivC 186 rfl dX12_gives_185 (by decide) ?_
  refine zS_isub 187 rfl dX12_gives_186 ?_
  refine zS_bni (fun x7 => ?_)
  refine zS_istore 189 rfl dX12_gives_187 (by show 6 < 8; decide) (show _ = [(6, .int _), (0, .ref _), (1, .int _), (5, .int _)] from rfl) ?_
  refine zS_aload_n 190 rfl 1 rfl dX12_gives_189 ?_
  refine zS_getfp 193 rfl 6 dX12_gives_190 zC12 zw1118 (by decide) rfl h0 ?_
  refine zS_iload_n 194 rfl 2 rfl dX12_gives_193 ?_
  refine zS_iload 196 rfl 0 rfl dX12_gives_194 ?_
  refine zS_if_ge 203 199 rfl dX12_gives_196 (by decide) ?_ ?_
  · refine zS_iload 205 rfl 0 rfl dX12_gives_203 ?_
    refine zS_sub [1, 2, 3] (show _ = [(0, .ref _), (1, .int _), (5, .int _)] from rfl) ?_
    exact sX12_gives_205 _ _ _ _ _ _ h0 (zP12_comes h0) _
  · refine zS_iconst 200 rfl (0 : Int32) (by decide) dX12_gives_199 ?_
    refine zS_goto 205 dX12_gives_200 (by decide) ?_
    refine zS_sub [1, 2, 3] (show _ = [(0, .ref _), (1, .int _), (5, .int _)] from rfl) ?_
    exact sX12_gives_205 _ _ _ _ _ _ h0 (zP12_comes h0) _

set_option maxHeartbeats 4000000 in
set_option maxRecDepth 100000 in
theorem sX12_gives_111 (v0 : Nat) (v1 : Int32) (v2 : Int32) (s0 : Int32) (h0 : zShp v0 = (12, 25)) (w : zWd) : zS gX12_gives zEv 111 [(0, .ref v0), (1, .int v1), (2, .int v2)] [.int s0] w (mX12_gives_111 v0 v1 v2 s0 w) := by
  unfold mX12_gives_111
  refine zS_istore 113 rfl dX12_gives_111 (by show 5 < 8; decide) (show _ = [(5, .int _), (0, .ref _), (1, .int _), (2, .int _)] from rfl) ?_
  refine zS_aload_n 114 rfl 1 rfl dX12_gives_113 ?_
  refine zS_getfp 117 rfl 1 dX12_gives_114 zC12 zw1113 (by decide) rfl h0 ?_
  refine zS_bipush 119 rfl (50 : Int32) (by decide) dX12_gives_117 ?_
  refine zS_iload_n 120 rfl 3 rfl dX12_gives_119 ?_
  refine zS_iadd 121 rfl dX12_gives_120 ?_
  refine zS_dup2 122 rfl rfl rfl dX12_gives_121 ?_
  refine zS_iald 123 rfl dX12_gives_122 (zP12_s h0) ?_
  refine zS_iload 125 rfl 0 rfl dX12_gives_123 ?_
  refine zS_isub 126 rfl dX12_gives_125 ?_
  refine zS_iast 127 rfl dX12_gives_126 (zP12_s h0) ?_
  refine zS_bnw (fun w4 => ?_)
  refine zS_aload_n 128 rfl 1 rfl dX12_gives_127 ?_
  refine zS_getfp 131 rfl 4 dX12_gives_128 zC12 zw1116 (by decide) rfl h0 ?_
  refine zS_iload_n 132 rfl 2 rfl dX12_gives_131 ?_
  refine zS_iload 134 rfl 0 rfl dX12_gives_132 ?_
  refine zS_iast 135 rfl dX12_gives_134 (zP12_gave h0) ?_
  refine zS_bnw (fun w5 => ?_)
  refine zS_aload_n 136 rfl 1 rfl dX12_gives_135 ?_
  refine zS_getfp 139 rfl 5 dX12_gives_136 zC12 zw1117 (by decide) rfl h0 ?_
  refine zS_iload_n 140 rfl 2 rfl dX12_gives_139 ?_
  refine zS_aload_n 141 rfl 1 rfl dX12_gives_140 ?_
  refine zS_getfp 144 rfl 1 dX12_gives_141 zC12 zw1113 (by decide) rfl h0 ?_
  refine zS_bipush 146 rfl (20 : Int32) (by decide) dX12_gives_144 ?_
  refine zS_iload_n 147 rfl 3 rfl dX12_gives_146 ?_
  refine zS_iadd 148 rfl dX12_gives_147 ?_
  refine zS_iald 149 rfl dX12_gives_148 (zP12_s h0) ?_
  refine zS_aload_n 150 rfl 1 rfl dX12_gives_149 ?_
  refine zS_getfp 153 rfl 1 dX12_gives_150 zC12 zw1113 (by decide) rfl h0 ?_
  refine zS_sipush 156 rfl (140 : Int32) (by decide) dX12_gives_153 ?_
  refine zS_iload_n 157 rfl 2 rfl dX12_gives_156 ?_
  refine zS_iadd 158 rfl dX12_gives_157 ?_
  refine zS_iald 159 rfl dX12_gives_158 (zP12_s h0) ?_
  refine zS_iconst 160 rfl (2 : Int32) (by decide) dX12_gives_159 ?_
  refine zS_icmp_ne 168 163 rfl dX12_gives_160 (by decide) ?_ ?_
  · refine zS_bipush 165 rfl (50 : Int32) (by decide) dX12_gives_163 ?_
    refine zS_goto 169 dX12_gives_165 (by decide) ?_
    refine zS_sub [1, 2, 0] (show _ = [(0, .ref _), (1, .int _), (5, .int _)] from rfl) ?_
    exact sX12_gives_169 _ _ _ _ _ _ _ h0 (zP12_hot h0) _
  · refine zS_iconst 169 rfl (0 : Int32) (by decide) dX12_gives_168 ?_
    refine zS_sub [1, 2, 0] (show _ = [(0, .ref _), (1, .int _), (5, .int _)] from rfl) ?_
    exact sX12_gives_169 _ _ _ _ _ _ _ h0 (zP12_hot h0) _

set_option maxHeartbeats 4000000 in
set_option maxRecDepth 100000 in
theorem sX12_gives_79 (v0 : Nat) (v1 : Int32) (v2 : Int32) (v3 : Int32) (s0 : Int32) (h0 : zShp v0 = (12, 25)) (w : zWd) : zS gX12_gives zEv 79 [(0, .ref v0), (1, .int v1), (2, .int v2), (3, .int v3)] [.int s0] w (mX12_gives_79 v0 v1 v2 v3 s0 w) := by
  unfold mX12_gives_79
  refine zS_istore 81 rfl dX12_gives_79 (by show 5 < 8; decide) (show _ = [(5, .int _), (0, .ref _), (1, .int _), (2, .int _), (3, .int _)] from rfl) ?_
  refine zS_aload_n 82 rfl 1 rfl dX12_gives_81 ?_
  refine zS_getfp 85 rfl 1 dX12_gives_82 zC12 zw1113 (by decide) rfl h0 ?_
  refine zS_sipush 88 rfl (188 : Int32) (by decide) dX12_gives_85 ?_
  refine zS_iload_n 89 rfl 2 rfl dX12_gives_88 ?_
  refine zS_iadd 90 rfl dX12_gives_89 ?_
  refine zS_iald 91 rfl dX12_gives_90 (zP12_s h0) ?_
  refine zS_iconst 92 rfl (1 : Int32) (by decide) dX12_gives_91 ?_
  refine zS_icmp_ne 99 95 rfl dX12_gives_92 (by decide) ?_ ?_
  · refine zS_iconst 96 rfl (0 : Int32) (by decide) dX12_gives_95 ?_
    refine zS_goto 111 dX12_gives_96 (by decide) ?_
    refine zS_sub [1, 2, 3] (show _ = [(0, .ref _), (1, .int _), (2, .int _)] from rfl) ?_
    exact sX12_gives_111 _ _ _ _ h0 _
  · refine zS_iload 101 rfl 0 rfl dX12_gives_99 ?_
    refine zS_iload_n 102 rfl 4 rfl dX12_gives_101 ?_
    refine zS_icmp_le 109 105 rfl dX12_gives_102 (by decide) ?_ ?_
    · refine zS_iload 111 rfl 0 rfl dX12_gives_109 ?_
      refine zS_sub [1, 2, 3] (show _ = [(0, .ref _), (1, .int _), (2, .int _)] from rfl) ?_
      exact sX12_gives_111 _ _ _ _ h0 _
    · refine zS_iload_n 106 rfl 4 rfl dX12_gives_105 ?_
      refine zS_goto 111 dX12_gives_106 (by decide) ?_
      refine zS_sub [1, 2, 3] (show _ = [(0, .ref _), (1, .int _), (2, .int _)] from rfl) ?_
      exact sX12_gives_111 _ _ _ _ h0 _

set_option maxHeartbeats 4000000 in
set_option maxRecDepth 100000 in
theorem sX12_gives (v0 : Nat) (v1 : Int32) (h0 : zShp v0 = (12, 25)) (w : zWd) : zS gX12_gives zEv 0 [(0, .ref v0), (1, .int v1)] [] w (mX12_gives v0 v1 w) := by
  unfold mX12_gives
  refine zS_aload_n 1 rfl 0 rfl dX12_gives_0 ?_
  refine zS_getfp 4 rfl 1 dX12_gives_1 zC12 zw1113 (by decide) rfl h0 ?_
  refine zS_sipush 7 rfl (152 : Int32) (by decide) dX12_gives_4 ?_
  refine zS_iload_n 8 rfl 1 rfl dX12_gives_7 ?_
  refine zS_iadd 9 rfl dX12_gives_8 ?_
  refine zS_iald 10 rfl dX12_gives_9 (zP12_s h0) ?_
  refine zS_bni (fun x1 => ?_)
  refine zS_istore_n 11 rfl dX12_gives_10 (by show 2 < 8; decide) (show _ = [(2, .int _), (0, .ref _), (1, .int _)] from rfl) ?_
  refine zS_aload_n 12 rfl 1 rfl dX12_gives_11 ?_
  refine zS_getfp 15 rfl 1 dX12_gives_12 zC12 zw1113 (by decide) rfl h0 ?_
  refine zS_bipush 17 rfl (50 : Int32) (by decide) dX12_gives_15 ?_
  refine zS_iload_n 18 rfl 0 rfl dX12_gives_17 ?_
  refine zS_iadd 19 rfl dX12_gives_18 ?_
  refine zS_iald 20 rfl dX12_gives_19 (zP12_s h0) ?_
  refine zS_bni (fun x2 => ?_)
  refine zS_istore_n 21 rfl dX12_gives_20 (by show 3 < 8; decide) (show _ = [(3, .int _), (2, .int _), (0, .ref _), (1, .int _)] from rfl) ?_
  refine zS_aload_n 22 rfl 2 rfl dX12_gives_21 ?_
  refine zS_getfp 25 rfl 1 dX12_gives_22 zC12 zw1113 (by decide) rfl h0 ?_
  refine zS_sipush 28 rfl (164 : Int32) (by decide) dX12_gives_25 ?_
  refine zS_iload_n 29 rfl 3 rfl dX12_gives_28 ?_
  refine zS_iadd 30 rfl dX12_gives_29 ?_
  refine zS_iald 31 rfl dX12_gives_30 (zP12_s h0) ?_
  refine zS_bni (fun x3 => ?_)
  refine zS_istore 33 rfl dX12_gives_31 (by show 4 < 8; decide) (show _ = [(4, .int _), (3, .int _), (2, .int _), (0, .ref _), (1, .int _)] from rfl) ?_
  refine zS_aload_n 34 rfl 3 rfl dX12_gives_33 ?_
  refine zS_getfp 37 rfl 1 dX12_gives_34 zC12 zw1113 (by decide) rfl h0 ?_
  refine zS_sipush 40 rfl (140 : Int32) (by decide) dX12_gives_37 ?_
  refine zS_iload_n 41 rfl 4 rfl dX12_gives_40 ?_
  refine zS_iadd 42 rfl dX12_gives_41 ?_
  refine zS_iald 43 rfl dX12_gives_42 (zP12_s h0) ?_
  refine zS_if_ne 53 46 rfl dX12_gives_43 (by decide) ?_ ?_
  · refine zS_iload_n 47 rfl 1 rfl dX12_gives_46 ?_
    refine zS_bipush 49 rfl (10 : Int32) (by decide) dX12_gives_47 ?_
    refine zS_idivC 50 rfl dX12_gives_49 (by decide) ?_
    refine zS_goto 79 dX12_gives_50 (by decide) ?_
    refine zS_sub [3, 4, 2, 1] (show _ = [(0, .ref _), (1, .int _), (2, .int _), (3, .int _)] from rfl) ?_
    exact sX12_gives_79 _ _ _ _ _ h0 _
  · refine zS_aload_n 54 rfl 3 rfl dX12_gives_53 ?_
    refine zS_getfp 57 rfl 1 dX12_gives_54 zC12 zw1113 (by decide) rfl h0 ?_
    refine zS_sipush 60 rfl (140 : Int32) (by decide) dX12_gives_57 ?_
    refine zS_iload_n 61 rfl 4 rfl dX12_gives_60 ?_
    refine zS_iadd 62 rfl dX12_gives_61 ?_
    refine zS_iald 63 rfl dX12_gives_62 (zP12_s h0) ?_
    refine zS_iconst 64 rfl (1 : Int32) (by decide) dX12_gives_63 ?_
    refine zS_icmp_ne 72 67 rfl dX12_gives_64 (by decide) ?_ ?_
    · refine zS_iload 69 rfl 0 rfl dX12_gives_67 ?_
      refine zS_goto 79 dX12_gives_69 (by decide) ?_
      refine zS_sub [3, 4, 2, 1] (show _ = [(0, .ref _), (1, .int _), (2, .int _), (3, .int _)] from rfl) ?_
      exact sX12_gives_79 _ _ _ _ _ h0 _
    · refine zS_iload 74 rfl 0 rfl dX12_gives_72 ?_
      refine zS_iload 76 rfl 0 rfl dX12_gives_74 ?_
      refine zS_iconst 77 rfl (2 : Int32) (by decide) dX12_gives_76 ?_
      refine zS_idivC 78 rfl dX12_gives_77 (by decide) ?_
      refine zS_iadd 79 rfl dX12_gives_78 ?_
      refine zS_sub [3, 4, 2, 1] (show _ = [(0, .ref _), (1, .int _), (2, .int _), (3, .int _)] from rfl) ?_
      exact sX12_gives_79 _ _ _ _ _ h0 _

theorem okX12_gives (v0 : Nat) (v1 : Int32) (w : zWd) (h0 : zShp v0 = (12, 25)) : zOk gX12_gives zEv [.ref v0, .int v1] w (mX12_gives v0 v1 w) := zOk_of (by decide) rfl (Nat.le_of_ble_eq_true rfl) (sX12_gives v0 v1 h0 w)
abbrev gX12_flows : zMth := (yX12_flows, cX12_flows, 4, none, 3, zE0)
theorem cbX12_flows : zCbV yX12_flows cX12_flows 4 none 0 := ⟨zw1283, zw53, zw89, zw1284, by decide, by decide, by decide +kernel⟩
set_option maxHeartbeats 4000000 in
set_option maxRecDepth 100000 in
theorem sX12_flows_285 (k169 : Int32 × zWd → Option (Unit × zWd)) (k177 : Int32 × zWd → Option (Unit × zWd)) (v0 : Nat) (v1 : Int32) (v2 : Int32) (hk169 : ∀ (v1 : Int32) (w : zWd), zS gX12_flows zEv 169 [(0, .ref v0), (1, .int v1)] [] w (k169 (v1, w))) (hk177 : ∀ (v2 : Int32) (w : zWd), zS gX12_flows zEv 177 [(0, .ref v0), (1, .int v1), (2, .int v2)] [] w (k177 (v2, w))) (h0 : zShp v0 = (12, 25)) (w : zWd) : zS gX12_flows zEv 285 [(0, .ref v0), (1, .int v1), (2, .int v2)] [] w (mX12_flows_285 k169 k177 v0 v1 v2 w) := by
  unfold mX12_flows_285
  refine zS_iinc 288 rfl 2 (_ + (1 : Int32)) dX12_flows_285 rfl (by show 2 < 4; decide) rfl (show _ = [(2, .int _), (0, .ref _), (1, .int _)] from rfl) ?_
  refine zS_goto 177 dX12_flows_288 (by decide) ?_
  refine zS_sub [1, 2, 0] (show _ = [(0, .ref _), (1, .int _), (2, .int _)] from rfl) ?_
  exact hk177 _ _

set_option maxHeartbeats 4000000 in
set_option maxRecDepth 100000 in
theorem sX12_flows_212 (k169 : Int32 × zWd → Option (Unit × zWd)) (k177 : Int32 × zWd → Option (Unit × zWd)) (v0 : Nat) (v1 : Int32) (v2 : Int32) (s0 : Int32) (s1 : Int32) (hk169 : ∀ (v1 : Int32) (w : zWd), zS gX12_flows zEv 169 [(0, .ref v0), (1, .int v1)] [] w (k169 (v1, w))) (hk177 : ∀ (v2 : Int32) (w : zWd), zS gX12_flows zEv 177 [(0, .ref v0), (1, .int v1), (2, .int v2)] [] w (k177 (v2, w))) (h0 : zShp v0 = (12, 25)) (w : zWd) : zS gX12_flows zEv 212 [(0, .ref v0), (1, .int v1), (2, .int v2)] [.int s0, .int s1] w (mX12_flows_212 k169 k177 v0 v1 v2 s0 s1 w) := by
  unfold mX12_flows_212
  refine zS_iadd 213 rfl dX12_flows_212 ?_
  refine zS_bni (fun x1 => ?_)
  refine zS_istore_n 214 rfl dX12_flows_213 (by show 3 < 4; decide) (show _ = [(3, .int _), (0, .ref _), (1, .int _), (2, .int _)] from rfl) ?_
  refine zS_iload_n 215 rfl 0 rfl dX12_flows_214 ?_
  refine zS_cSi (as := [.int _]) (st := []) (g' := gX12_isCell) 218 rfl (okX12_isCell _ _) dX12_flows_215 zw1193 cbX12_isCell rfl rfl (by decide) (Nat.le_of_ble_eq_true rfl) (fun r2 w3 => ?_)
  refine zS_if_eq 285 221 rfl dX12_flows_218 (by decide) ?_ ?_
  · refine zS_sub [1, 2, 3] (show _ = [(0, .ref _), (1, .int _), (2, .int _)] from rfl) ?_
    exact sX12_flows_285 k169 k177 _ _ _ hk169 hk177 h0 _
  · refine zS_iload_n 222 rfl 2 rfl dX12_flows_221 ?_
    refine zS_iload_n 223 rfl 0 rfl dX12_flows_222 ?_
    refine zS_cSi (as := [.int _, .int _]) (st := []) (g' := gX12_apart) 226 rfl (okX12_apart _ _ _) dX12_flows_223 zw1259 cbX12_apart rfl rfl (by decide) (Nat.le_of_ble_eq_true rfl) (fun r4 w5 => ?_)
    refine zS_iconst 227 rfl (1 : Int32) (by decide) dX12_flows_226 ?_
    refine zS_icmp_ne 285 230 rfl dX12_flows_227 (by decide) ?_ ?_
    · refine zS_aload_n 231 rfl 1 rfl dX12_flows_230 ?_
      refine zS_getfp 234 rfl 1 dX12_flows_231 zC12 zw1113 (by decide) rfl h0 ?_
      refine zS_bipush 236 rfl (20 : Int32) (by decide) dX12_flows_234 ?_
      refine zS_iload_n 237 rfl 2 rfl dX12_flows_236 ?_
      refine zS_iadd 238 rfl dX12_flows_237 ?_
      refine zS_dup2 239 rfl rfl rfl dX12_flows_238 ?_
      refine zS_iald 240 rfl dX12_flows_239 (zP12_s h0) ?_
      refine zS_aload_n 241 rfl 1 rfl dX12_flows_240 ?_
      refine zS_getfp 244 rfl 8 dX12_flows_241 zC12 zw1120 (by decide) rfl h0 ?_
      refine zS_iload_n 245 rfl 0 rfl dX12_flows_244 ?_
      refine zS_iald 246 rfl dX12_flows_245 (zP12_heats h0) ?_
      refine zS_aload_n 247 rfl 1 rfl dX12_flows_246 ?_
      refine zS_getfp 250 rfl 8 dX12_flows_247 zC12 zw1120 (by decide) rfl h0 ?_
      refine zS_iload_n 251 rfl 2 rfl dX12_flows_250 ?_
      refine zS_iald 252 rfl dX12_flows_251 (zP12_heats h0) ?_
      refine zS_isub 253 rfl dX12_flows_252 ?_
      refine zS_bipush 255 rfl (8 : Int32) (by decide) dX12_flows_253 ?_
      refine zS_idivC 256 rfl dX12_flows_255 (by decide) ?_
      refine zS_iadd 257 rfl dX12_flows_256 ?_
      refine zS_iast 258 rfl dX12_flows_257 (zP12_s h0) ?_
      refine zS_bnw (fun w6 => ?_)
      refine zS_aload_n 259 rfl 1 rfl dX12_flows_258 ?_
      refine zS_getfp 262 rfl 1 dX12_flows_259 zC12 zw1113 (by decide) rfl h0 ?_
      refine zS_bipush 264 rfl (50 : Int32) (by decide) dX12_flows_262 ?_
      refine zS_iload_n 265 rfl 2 rfl dX12_flows_264 ?_
      refine zS_iadd 266 rfl dX12_flows_265 ?_
      refine zS_dup2 267 rfl rfl rfl dX12_flows_266 ?_
      refine zS_iald 268 rfl dX12_flows_267 (zP12_s h0) ?_
      refine zS_aload_n 269 rfl 1 rfl dX12_flows_268 ?_
      refine zS_getfp 272 rfl 9 dX12_flows_269 zC12 zw1121 (by decide) rfl h0 ?_
      refine zS_iload_n 273 rfl 0 rfl dX12_flows_272 ?_
      refine zS_iald 274 rfl dX12_flows_273 (zP12_waters h0) ?_
      refine zS_aload_n 275 rfl 1 rfl dX12_flows_274 ?_
      refine zS_getfp 278 rfl 9 dX12_flows_275 zC12 zw1121 (by decide) rfl h0 ?_
      refine zS_iload_n 279 rfl 2 rfl dX12_flows_278 ?_
      refine zS_iald 280 rfl dX12_flows_279 (zP12_waters h0) ?_
      refine zS_isub 281 rfl dX12_flows_280 ?_
      refine zS_iconst 282 rfl (4 : Int32) (by decide) dX12_flows_281 ?_
      refine zS_idivC 283 rfl dX12_flows_282 (by decide) ?_
      refine zS_iadd 284 rfl dX12_flows_283 ?_
      refine zS_iast 285 rfl dX12_flows_284 (zP12_s h0) ?_
      refine zS_bnw (fun w7 => ?_)
      refine zS_sub [1, 2, 3] (show _ = [(0, .ref _), (1, .int _), (2, .int _)] from rfl) ?_
      exact sX12_flows_285 k169 k177 _ _ _ hk169 hk177 h0 _
    · refine zS_sub [1, 2, 3] (show _ = [(0, .ref _), (1, .int _), (2, .int _)] from rfl) ?_
      exact sX12_flows_285 k169 k177 _ _ _ hk169 hk177 h0 _

set_option maxHeartbeats 4000000 in
set_option maxRecDepth 100000 in
theorem sX12_flows_177b (k169 : Int32 × zWd → Option (Unit × zWd)) (v0 : Nat) (v1 : Int32) (k177 : Int32 × zWd → Option (Unit × zWd)) (v2 : Int32) (hk169 : ∀ (v1 : Int32) (w : zWd), zS gX12_flows zEv 169 [(0, .ref v0), (1, .int v1)] [] w (k169 (v1, w))) (hk177 : ∀ (v2 : Int32) (w : zWd), zS gX12_flows zEv 177 [(0, .ref v0), (1, .int v1), (2, .int v2)] [] w (k177 (v2, w))) (h0 : zShp v0 = (12, 25)) (w : zWd) : zS gX12_flows zEv 177 [(0, .ref v0), (1, .int v1), (2, .int v2)] [] w (mX12_flows_177b k169 v0 v1 k177 v2 w) := by
  unfold mX12_flows_177b
  refine zS_iload_n 178 rfl 2 rfl dX12_flows_177 ?_
  refine zS_iconst 179 rfl (4 : Int32) (by decide) dX12_flows_178 ?_
  refine zS_icmp_ge 291 182 rfl dX12_flows_179 (by decide) ?_ ?_
  · refine zS_iinc 294 rfl 1 (_ + (1 : Int32)) dX12_flows_291 rfl (by show 1 < 4; decide) rfl (show _ = [(1, .int _), (0, .ref _), (2, .int _)] from rfl) ?_
    refine zS_goto 169 dX12_flows_294 (by decide) ?_
    refine zS_sub [1, 0] (show _ = [(0, .ref _), (1, .int _)] from rfl) ?_
    exact hk169 _ _
  · refine zS_iload_n 183 rfl 1 rfl dX12_flows_182 ?_
    refine zS_iload_n 184 rfl 2 rfl dX12_flows_183 ?_
    refine zS_if_ne 191 187 rfl dX12_flows_184 (by decide) ?_ ?_
    · refine zS_iconst 188 rfl (1 : Int32) (by decide) dX12_flows_187 ?_
      refine zS_goto 212 dX12_flows_188 (by decide) ?_
      exact sX12_flows_212 k169 k177 _ _ _ _ _ hk169 hk177 h0 _
    · refine zS_iload_n 192 rfl 2 rfl dX12_flows_191 ?_
      refine zS_iconst 193 rfl (1 : Int32) (by decide) dX12_flows_192 ?_
      refine zS_icmp_ne 200 196 rfl dX12_flows_193 (by decide) ?_ ?_
      · refine zS_iconst 197 rfl (-1 : Int32) (by decide) dX12_flows_196 ?_
        refine zS_goto 212 dX12_flows_197 (by decide) ?_
        exact sX12_flows_212 k169 k177 _ _ _ _ _ hk169 hk177 h0 _
      · refine zS_iload_n 201 rfl 2 rfl dX12_flows_200 ?_
        refine zS_iconst 202 rfl (2 : Int32) (by decide) dX12_flows_201 ?_
        refine zS_icmp_ne 210 205 rfl dX12_flows_202 (by decide) ?_ ?_
        · refine zS_bipush 207 rfl (6 : Int32) (by decide) dX12_flows_205 ?_
          refine zS_goto 212 dX12_flows_207 (by decide) ?_
          exact sX12_flows_212 k169 k177 _ _ _ _ _ hk169 hk177 h0 _
        · refine zS_bipush 212 rfl (-6 : Int32) (by decide) dX12_flows_210 ?_
          exact sX12_flows_212 k169 k177 _ _ _ _ _ hk169 hk177 h0 _

theorem sX12_flows_177 (k169 : Int32 × zWd → Option (Unit × zWd)) (v0 : Nat) (v1 : Int32) (v2 : Int32) (hk169 : ∀ (v1 : Int32) (w : zWd), zS gX12_flows zEv 169 [(0, .ref v0), (1, .int v1)] [] w (k169 (v1, w))) (h0 : zShp v0 = (12, 25)) (w : zWd) : zS gX12_flows zEv 177 [(0, .ref v0), (1, .int v1), (2, .int v2)] [] w (mX12_flows_177 k169 v0 v1 v2 w) :=
  zS_loop (L := fun q : Int32 × zWd => [(0, .ref v0), (1, .int v1), (2, .int q.1)]) (V := fun q => q.2) (T := fun _ => []) (F := fun k q => mX12_flows_177b k169 v0 v1 k q.1 q.2) (fun k hk q => sX12_flows_177b k169 v0 v1 k q.1 hk169 (fun a2 w => hk (a2, w)) h0 q.2) zFU (v2, w)
set_option maxHeartbeats 4000000 in
set_option maxRecDepth 100000 in
theorem sX12_flows_169b (v0 : Nat) (k169 : Int32 × zWd → Option (Unit × zWd)) (v1 : Int32) (hk169 : ∀ (v1 : Int32) (w : zWd), zS gX12_flows zEv 169 [(0, .ref v0), (1, .int v1)] [] w (k169 (v1, w))) (h0 : zShp v0 = (12, 25)) (w : zWd) : zS gX12_flows zEv 169 [(0, .ref v0), (1, .int v1)] [] w (mX12_flows_169b v0 k169 v1 w) := by
  unfold mX12_flows_169b
  refine zS_iload_n 170 rfl 1 rfl dX12_flows_169 ?_
  refine zS_bipush 172 rfl (30 : Int32) (by decide) dX12_flows_170 ?_
  refine zS_icmp_ge 297 175 rfl dX12_flows_172 (by decide) ?_ ?_
  · exact zS_retv dX12_flows_297 rfl
  · refine zS_iconst 176 rfl (0 : Int32) (by decide) dX12_flows_175 ?_
    refine zS_istore_n 177 rfl dX12_flows_176 (by show 2 < 4; decide) (show _ = [(2, .int _), (0, .ref _), (1, .int _)] from rfl) ?_
    refine zS_sub [1, 2, 0] (show _ = [(0, .ref _), (1, .int _), (2, .int _)] from rfl) ?_
    exact sX12_flows_177 k169 _ _ _ hk169 h0 _

theorem sX12_flows_169 (v0 : Nat) (v1 : Int32) (h0 : zShp v0 = (12, 25)) (w : zWd) : zS gX12_flows zEv 169 [(0, .ref v0), (1, .int v1)] [] w (mX12_flows_169 v0 v1 w) :=
  zS_loop (L := fun q : Int32 × zWd => [(0, .ref v0), (1, .int q.1)]) (V := fun q => q.2) (T := fun _ => []) (F := fun k q => mX12_flows_169b v0 k q.1 q.2) (fun k hk q => sX12_flows_169b v0 k q.1 (fun a1 w => hk (a1, w)) h0 q.2) zFU (v1, w)
set_option maxHeartbeats 4000000 in
set_option maxRecDepth 100000 in
theorem sX12_flows_125b (v0 : Nat) (k125 : Int32 × zWd → Option (Unit × zWd)) (v1 : Int32) (hk125 : ∀ (v1 : Int32) (w : zWd), zS gX12_flows zEv 125 [(0, .ref v0), (1, .int v1)] [] w (k125 (v1, w))) (h0 : zShp v0 = (12, 25)) (w : zWd) : zS gX12_flows zEv 125 [(0, .ref v0), (1, .int v1)] [] w (mX12_flows_125b v0 k125 v1 w) := by
  unfold mX12_flows_125b
  refine zS_iload_n 126 rfl 1 rfl dX12_flows_125 ?_
  refine zS_bipush 128 rfl (30 : Int32) (by decide) dX12_flows_126 ?_
  refine zS_icmp_ge 167 131 rfl dX12_flows_128 (by decide) ?_ ?_
  · refine zS_iconst 168 rfl (0 : Int32) (by decide) dX12_flows_167 ?_
    refine zS_istore_n 169 rfl dX12_flows_168 (by show 1 < 4; decide) (show _ = [(1, .int _), (0, .ref _)] from rfl) ?_
    refine zS_sub [1, 0] (show _ = [(0, .ref _), (1, .int _)] from rfl) ?_
    exact sX12_flows_169 _ _ h0 _
  · refine zS_aload_n 132 rfl 0 rfl dX12_flows_131 ?_
    refine zS_getfp 135 rfl 8 dX12_flows_132 zC12 zw1120 (by decide) rfl h0 ?_
    refine zS_iload_n 136 rfl 1 rfl dX12_flows_135 ?_
    refine zS_aload_n 137 rfl 0 rfl dX12_flows_136 ?_
    refine zS_getfp 140 rfl 1 dX12_flows_137 zC12 zw1113 (by decide) rfl h0 ?_
    refine zS_bipush 142 rfl (20 : Int32) (by decide) dX12_flows_140 ?_
    refine zS_iload_n 143 rfl 1 rfl dX12_flows_142 ?_
    refine zS_iadd 144 rfl dX12_flows_143 ?_
    refine zS_iald 145 rfl dX12_flows_144 (zP12_s h0) ?_
    refine zS_iast 146 rfl dX12_flows_145 (zP12_heats h0) ?_
    refine zS_bnw (fun w8 => ?_)
    refine zS_aload_n 147 rfl 0 rfl dX12_flows_146 ?_
    refine zS_getfp 150 rfl 9 dX12_flows_147 zC12 zw1121 (by decide) rfl h0 ?_
    refine zS_iload_n 151 rfl 1 rfl dX12_flows_150 ?_
    refine zS_aload_n 152 rfl 0 rfl dX12_flows_151 ?_
    refine zS_getfp 155 rfl 1 dX12_flows_152 zC12 zw1113 (by decide) rfl h0 ?_
    refine zS_bipush 157 rfl (50 : Int32) (by decide) dX12_flows_155 ?_
    refine zS_iload_n 158 rfl 1 rfl dX12_flows_157 ?_
    refine zS_iadd 159 rfl dX12_flows_158 ?_
    refine zS_iald 160 rfl dX12_flows_159 (zP12_s h0) ?_
    refine zS_iast 161 rfl dX12_flows_160 (zP12_waters h0) ?_
    refine zS_bnw (fun w9 => ?_)
    refine zS_iinc 164 rfl 1 (_ + (1 : Int32)) dX12_flows_161 rfl (by show 1 < 4; decide) rfl (show _ = [(1, .int _), (0, .ref _)] from rfl) ?_
    refine zS_goto 125 dX12_flows_164 (by decide) ?_
    refine zS_sub [1, 0] (show _ = [(0, .ref _), (1, .int _)] from rfl) ?_
    exact hk125 _ _

theorem sX12_flows_125 (v0 : Nat) (v1 : Int32) (h0 : zShp v0 = (12, 25)) (w : zWd) : zS gX12_flows zEv 125 [(0, .ref v0), (1, .int v1)] [] w (mX12_flows_125 v0 v1 w) :=
  zS_loop (L := fun q : Int32 × zWd => [(0, .ref v0), (1, .int q.1)]) (V := fun q => q.2) (T := fun _ => []) (F := fun k q => mX12_flows_125b v0 k q.1 q.2) (fun k hk q => sX12_flows_125b v0 k q.1 (fun a1 w => hk (a1, w)) h0 q.2) zFU (v1, w)
set_option maxHeartbeats 4000000 in
set_option maxRecDepth 100000 in
theorem sX12_flows_102b (v0 : Nat) (k102 : Int32 × zWd → Option (Unit × zWd)) (v1 : Int32) (hk102 : ∀ (v1 : Int32) (w : zWd), zS gX12_flows zEv 102 [(0, .ref v0), (1, .int v1)] [] w (k102 (v1, w))) (h0 : zShp v0 = (12, 25)) (w : zWd) : zS gX12_flows zEv 102 [(0, .ref v0), (1, .int v1)] [] w (mX12_flows_102b v0 k102 v1 w) := by
  unfold mX12_flows_102b
  refine zS_iload_n 103 rfl 1 rfl dX12_flows_102 ?_
  refine zS_aload_n 104 rfl 0 rfl dX12_flows_103 ?_
  refine zS_getfp 107 rfl 1 dX12_flows_104 zC12 zw1113 (by decide) rfl h0 ?_
  refine zS_iconst 108 rfl (1 : Int32) (by decide) dX12_flows_107 ?_
  refine zS_iald 109 rfl dX12_flows_108 (zP12_s h0) ?_
  refine zS_icmp_ge 123 112 rfl dX12_flows_109 (by decide) ?_ ?_
  · refine zS_iconst 124 rfl (0 : Int32) (by decide) dX12_flows_123 ?_
    refine zS_istore_n 125 rfl dX12_flows_124 (by show 1 < 4; decide) (show _ = [(1, .int _), (0, .ref _)] from rfl) ?_
    refine zS_sub [1, 0] (show _ = [(0, .ref _), (1, .int _)] from rfl) ?_
    exact sX12_flows_125 _ _ h0 _
  · refine zS_aload_n 113 rfl 0 rfl dX12_flows_112 ?_
    refine zS_iload_n 114 rfl 1 rfl dX12_flows_113 ?_
    refine zS_cVv (as := [.int _]) (st := []) (g' := gX12_gives) 117 rfl (okX12_gives _ _ _ h0) dX12_flows_114 zC12 h0 zw1285 cbX12_gives rfl rfl (by decide) (Nat.le_of_ble_eq_true rfl) (fun r10 w11 => ?_)
    refine zS_iinc 120 rfl 1 (_ + (1 : Int32)) dX12_flows_117 rfl (by show 1 < 4; decide) rfl (show _ = [(1, .int _), (0, .ref _)] from rfl) ?_
    refine zS_goto 102 dX12_flows_120 (by decide) ?_
    refine zS_sub [1, 0] (show _ = [(0, .ref _), (1, .int _)] from rfl) ?_
    exact hk102 _ _

theorem sX12_flows_102 (v0 : Nat) (v1 : Int32) (h0 : zShp v0 = (12, 25)) (w : zWd) : zS gX12_flows zEv 102 [(0, .ref v0), (1, .int v1)] [] w (mX12_flows_102 v0 v1 w) :=
  zS_loop (L := fun q : Int32 × zWd => [(0, .ref v0), (1, .int q.1)]) (V := fun q => q.2) (T := fun _ => []) (F := fun k q => mX12_flows_102b v0 k q.1 q.2) (fun k hk q => sX12_flows_102b v0 k q.1 (fun a1 w => hk (a1, w)) h0 q.2) zFU (v1, w)
set_option maxHeartbeats 4000000 in
set_option maxRecDepth 100000 in
theorem sX12_flows_93 (k2 : Int32 × zWd → Option (Unit × zWd)) (v0 : Nat) (v1 : Int32) (s0 : Int32) (s1 : Int32) (s2 : Nat) (hk2 : ∀ (v1 : Int32) (w : zWd), zS gX12_flows zEv 2 [(0, .ref v0), (1, .int v1)] [] w (k2 (v1, w))) (h0 : zShp v0 = (12, 25)) (t2 : zShp s2 = (20, 21948)) (w : zWd) : zS gX12_flows zEv 93 [(0, .ref v0), (1, .int v1)] [.int s0, .int s1, .ref s2] w (mX12_flows_93 k2 v0 v1 s0 s1 s2 w) := by
  unfold mX12_flows_93
  refine zS_iast 94 rfl dX12_flows_93 t2 ?_
  refine zS_bnw (fun w15 => ?_)
  refine zS_iinc 97 rfl 1 (_ + (1 : Int32)) dX12_flows_94 rfl (by show 1 < 4; decide) rfl (show _ = [(1, .int _), (0, .ref _)] from rfl) ?_
  refine zS_goto 2 dX12_flows_97 (by decide) ?_
  refine zS_sub [1, 0] (show _ = [(0, .ref _), (1, .int _)] from rfl) ?_
  exact hk2 _ _

set_option maxHeartbeats 4000000 in
set_option maxRecDepth 100000 in
theorem sX12_flows_70 (k2 : Int32 × zWd → Option (Unit × zWd)) (v0 : Nat) (v1 : Int32) (v3 : Int32) (s0 : Int32) (s1 : Int32) (s2 : Nat) (hk2 : ∀ (v1 : Int32) (w : zWd), zS gX12_flows zEv 2 [(0, .ref v0), (1, .int v1)] [] w (k2 (v1, w))) (h0 : zShp v0 = (12, 25)) (t2 : zShp s2 = (20, 21948)) (w : zWd) : zS gX12_flows zEv 70 [(0, .ref v0), (1, .int v1), (3, .int v3)] [.int s0, .int s1, .ref s2] w (mX12_flows_70 k2 v0 v1 v3 s0 s1 s2 w) := by
  unfold mX12_flows_70
  refine zS_iast 71 rfl dX12_flows_70 t2 ?_
  refine zS_bnw (fun w14 => ?_)
  refine zS_aload_n 72 rfl 0 rfl dX12_flows_71 ?_
  refine zS_getfp 75 rfl 1 dX12_flows_72 zC12 zw1113 (by decide) rfl h0 ?_
  refine zS_bipush 77 rfl (50 : Int32) (by decide) dX12_flows_75 ?_
  refine zS_iload_n 78 rfl 1 rfl dX12_flows_77 ?_
  refine zS_iadd 79 rfl dX12_flows_78 ?_
  refine zS_iload_n 80 rfl 2 rfl dX12_flows_79 ?_
  refine zS_sipush 83 rfl (9999 : Int32) (by decide) dX12_flows_80 ?_
  refine zS_icmp_le 92 86 rfl dX12_flows_83 (by decide) ?_ ?_
  · refine zS_iload_n 93 rfl 2 rfl dX12_flows_92 ?_
    refine zS_sub [0, 1] (show _ = [(0, .ref _), (1, .int _)] from rfl) ?_
    exact sX12_flows_93 k2 _ _ _ _ _ hk2 h0 (zP12_s h0) _
  · refine zS_sipush 89 rfl (9999 : Int32) (by decide) dX12_flows_86 ?_
    refine zS_goto 93 dX12_flows_89 (by decide) ?_
    refine zS_sub [0, 1] (show _ = [(0, .ref _), (1, .int _)] from rfl) ?_
    exact sX12_flows_93 k2 _ _ _ _ _ hk2 h0 (zP12_s h0) _

set_option maxHeartbeats 4000000 in
set_option maxRecDepth 100000 in
theorem sX12_flows_2b (v0 : Nat) (k2 : Int32 × zWd → Option (Unit × zWd)) (v1 : Int32) (hk2 : ∀ (v1 : Int32) (w : zWd), zS gX12_flows zEv 2 [(0, .ref v0), (1, .int v1)] [] w (k2 (v1, w))) (h0 : zShp v0 = (12, 25)) (w : zWd) : zS gX12_flows zEv 2 [(0, .ref v0), (1, .int v1)] [] w (mX12_flows_2b v0 k2 v1 w) := by
  unfold mX12_flows_2b
  refine zS_iload_n 3 rfl 1 rfl dX12_flows_2 ?_
  refine zS_bipush 5 rfl (30 : Int32) (by decide) dX12_flows_3 ?_
  refine zS_icmp_ge 100 8 rfl dX12_flows_5 (by decide) ?_ ?_
  · refine zS_iconst 101 rfl (0 : Int32) (by decide) dX12_flows_100 ?_
    refine zS_istore_n 102 rfl dX12_flows_101 (by show 1 < 4; decide) (show _ = [(1, .int _), (0, .ref _)] from rfl) ?_
    refine zS_sub [1, 0] (show _ = [(0, .ref _), (1, .int _)] from rfl) ?_
    exact sX12_flows_102 _ _ h0 _
  · refine zS_aload_n 9 rfl 0 rfl dX12_flows_8 ?_
    refine zS_getfp 12 rfl 1 dX12_flows_9 zC12 zw1113 (by decide) rfl h0 ?_
    refine zS_bipush 14 rfl (20 : Int32) (by decide) dX12_flows_12 ?_
    refine zS_iload_n 15 rfl 1 rfl dX12_flows_14 ?_
    refine zS_iadd 16 rfl dX12_flows_15 ?_
    refine zS_iald 17 rfl dX12_flows_16 (zP12_s h0) ?_
    refine zS_aload_n 18 rfl 0 rfl dX12_flows_17 ?_
    refine zS_getfp 21 rfl 1 dX12_flows_18 zC12 zw1113 (by decide) rfl h0 ?_
    refine zS_bipush 23 rfl (80 : Int32) (by decide) dX12_flows_21 ?_
    refine zS_iload_n 24 rfl 1 rfl dX12_flows_23 ?_
    refine zS_iadd 25 rfl dX12_flows_24 ?_
    refine zS_iald 26 rfl dX12_flows_25 (zP12_s h0) ?_
    refine zS_iadd 27 rfl dX12_flows_26 ?_
    refine zS_bni (fun x12 => ?_)
    refine zS_istore_n 28 rfl dX12_flows_27 (by show 2 < 4; decide) (show _ = [(2, .int _), (0, .ref _), (1, .int _)] from rfl) ?_
    refine zS_aload_n 29 rfl 1 rfl dX12_flows_28 ?_
    refine zS_getfp 32 rfl 1 dX12_flows_29 zC12 zw1113 (by decide) rfl h0 ?_
    refine zS_bipush 34 rfl (50 : Int32) (by decide) dX12_flows_32 ?_
    refine zS_iload_n 35 rfl 2 rfl dX12_flows_34 ?_
    refine zS_iadd 36 rfl dX12_flows_35 ?_
    refine zS_iald 37 rfl dX12_flows_36 (zP12_s h0) ?_
    refine zS_aload_n 38 rfl 1 rfl dX12_flows_37 ?_
    refine zS_getfp 41 rfl 1 dX12_flows_38 zC12 zw1113 (by decide) rfl h0 ?_
    refine zS_bipush 43 rfl (110 : Int32) (by decide) dX12_flows_41 ?_
    refine zS_iload_n 44 rfl 2 rfl dX12_flows_43 ?_
    refine zS_iadd 45 rfl dX12_flows_44 ?_
    refine zS_iald 46 rfl dX12_flows_45 (zP12_s h0) ?_
    refine zS_iadd 47 rfl dX12_flows_46 ?_
    refine zS_bni (fun x13 => ?_)
    refine zS_istore_n 48 rfl dX12_flows_47 (by show 3 < 4; decide) (show _ = [(3, .int _), (2, .int _), (0, .ref _), (1, .int _)] from rfl) ?_
    refine zS_aload_n 49 rfl 2 rfl dX12_flows_48 ?_
    refine zS_getfp 52 rfl 1 dX12_flows_49 zC12 zw1113 (by decide) rfl h0 ?_
    refine zS_bipush 54 rfl (20 : Int32) (by decide) dX12_flows_52 ?_
    refine zS_iload_n 55 rfl 3 rfl dX12_flows_54 ?_
    refine zS_iadd 56 rfl dX12_flows_55 ?_
    refine zS_iload_n 57 rfl 1 rfl dX12_flows_56 ?_
    refine zS_sipush 60 rfl (1500 : Int32) (by decide) dX12_flows_57 ?_
    refine zS_icmp_le 69 63 rfl dX12_flows_60 (by decide) ?_ ?_
    · refine zS_iload_n 70 rfl 1 rfl dX12_flows_69 ?_
      refine zS_sub [2, 3, 0] (show _ = [(0, .ref _), (1, .int _), (3, .int _)] from rfl) ?_
      exact sX12_flows_70 k2 _ _ _ _ _ _ hk2 h0 (zP12_s h0) _
    · refine zS_sipush 66 rfl (1500 : Int32) (by decide) dX12_flows_63 ?_
      refine zS_goto 70 dX12_flows_66 (by decide) ?_
      refine zS_sub [2, 3, 0] (show _ = [(0, .ref _), (1, .int _), (3, .int _)] from rfl) ?_
      exact sX12_flows_70 k2 _ _ _ _ _ _ hk2 h0 (zP12_s h0) _

theorem sX12_flows_2 (v0 : Nat) (v1 : Int32) (h0 : zShp v0 = (12, 25)) (w : zWd) : zS gX12_flows zEv 2 [(0, .ref v0), (1, .int v1)] [] w (mX12_flows_2 v0 v1 w) :=
  zS_loop (L := fun q : Int32 × zWd => [(0, .ref v0), (1, .int q.1)]) (V := fun q => q.2) (T := fun _ => []) (F := fun k q => mX12_flows_2b v0 k q.1 q.2) (fun k hk q => sX12_flows_2b v0 k q.1 (fun a1 w => hk (a1, w)) h0 q.2) zFU (v1, w)
set_option maxHeartbeats 4000000 in
set_option maxRecDepth 100000 in
theorem sX12_flows (v0 : Nat) (h0 : zShp v0 = (12, 25)) (w : zWd) : zS gX12_flows zEv 0 [(0, .ref v0)] [] w (mX12_flows v0 w) := by
  unfold mX12_flows
  refine zS_iconst 1 rfl (0 : Int32) (by decide) dX12_flows_0 ?_
  refine zS_istore_n 2 rfl dX12_flows_1 (by show 1 < 4; decide) (show _ = [(1, .int _), (0, .ref _)] from rfl) ?_
  refine zS_sub [1, 0] (show _ = [(0, .ref _), (1, .int _)] from rfl) ?_
  exact sX12_flows_2 _ _ h0 _

theorem okX12_flows (v0 : Nat) (w : zWd) (h0 : zShp v0 = (12, 25)) : zOk gX12_flows zEv [.ref v0] w (mX12_flows v0 w) := zOk_of (by decide) rfl (Nat.le_of_ble_eq_true rfl) (sX12_flows v0 h0 w)
abbrev gX12_goes : zMth := (yX12_goes, cX12_goes, 3, none, 4, zE0)
theorem cbX12_goes : zCbV yX12_goes cX12_goes 3 none 0 := ⟨zw1279, zw52, zw89, zw1280, by decide, by decide, by decide +kernel⟩
set_option maxHeartbeats 4000000 in
set_option maxRecDepth 100000 in
theorem sX12_goes_6b (v0 : Nat) (k6 : Int32 × zWd → Option (Unit × zWd)) (v1 : Int32) (hk6 : ∀ (v1 : Int32) (w : zWd), zS gX12_goes zEv 6 [(0, .ref v0), (1, .int v1)] [] w (k6 (v1, w))) (h0 : zShp v0 = (12, 25)) (w : zWd) : zS gX12_goes zEv 6 [(0, .ref v0), (1, .int v1)] [] w (mX12_goes_6b v0 k6 v1 w) := by
  unfold mX12_goes_6b
  refine zS_iload_n 7 rfl 1 rfl dX12_goes_6 ?_
  refine zS_aload_n 8 rfl 0 rfl dX12_goes_7 ?_
  refine zS_getfp 11 rfl 1 dX12_goes_8 zC12 zw1113 (by decide) rfl h0 ?_
  refine zS_iconst 12 rfl (1 : Int32) (by decide) dX12_goes_11 ?_
  refine zS_iald 13 rfl dX12_goes_12 (zP12_s h0) ?_
  refine zS_icmp_ge 95 16 rfl dX12_goes_13 (by decide) ?_ ?_
  · refine zS_aload_n 96 rfl 0 rfl dX12_goes_95 ?_
    refine zS_getfp 99 rfl 1 dX12_goes_96 zC12 zw1113 (by decide) rfl h0 ?_
    refine zS_iconst 100 rfl (0 : Int32) (by decide) dX12_goes_99 ?_
    refine zS_dup2 101 rfl rfl rfl dX12_goes_100 ?_
    refine zS_iald 102 rfl dX12_goes_101 (zP12_s h0) ?_
    refine zS_iconst 103 rfl (1 : Int32) (by decide) dX12_goes_102 ?_
    refine zS_iadd 104 rfl dX12_goes_103 ?_
    refine zS_iast 105 rfl dX12_goes_104 (zP12_s h0) ?_
    refine zS_bnw (fun w3 => ?_)
    exact zS_retv dX12_goes_105 rfl
  · refine zS_sipush 19 rfl (2700 : Int32) (by decide) dX12_goes_16 ?_
    refine zS_sipush 22 rfl (1604 : Int32) (by decide) dX12_goes_19 ?_
    refine zS_iload_n 23 rfl 1 rfl dX12_goes_22 ?_
    refine zS_imul 24 rfl dX12_goes_23 ?_
    refine zS_iadd 25 rfl dX12_goes_24 ?_
    refine zS_iconst 26 rfl (4 : Int32) (by decide) dX12_goes_25 ?_
    refine zS_aload_n 27 rfl 0 rfl dX12_goes_26 ?_
    refine zS_getfp 30 rfl 1 dX12_goes_27 zC12 zw1113 (by decide) rfl h0 ?_
    refine zS_iconst 31 rfl (0 : Int32) (by decide) dX12_goes_30 ?_
    refine zS_iald 32 rfl dX12_goes_31 (zP12_s h0) ?_
    refine zS_imul 33 rfl dX12_goes_32 ?_
    refine zS_iadd 34 rfl dX12_goes_33 ?_
    refine zS_bni (fun x4 => ?_)
    refine zS_istore_n 35 rfl dX12_goes_34 (by show 2 < 3; decide) (show _ = [(2, .int _), (0, .ref _), (1, .int _)] from rfl) ?_
    refine zS_aload_n 36 rfl 1 rfl dX12_goes_35 ?_
    refine zS_getfp 39 rfl 1 dX12_goes_36 zC12 zw1113 (by decide) rfl h0 ?_
    refine zS_iload_n 40 rfl 0 rfl dX12_goes_39 ?_
    refine zS_aload_n 41 rfl 1 rfl dX12_goes_40 ?_
    refine zS_getfp 44 rfl 4 dX12_goes_41 zC12 zw1116 (by decide) rfl h0 ?_
    refine zS_iload_n 45 rfl 2 rfl dX12_goes_44 ?_
    refine zS_iald 46 rfl dX12_goes_45 (zP12_gave h0) ?_
    refine zS_iast 47 rfl dX12_goes_46 (zP12_s h0) ?_
    refine zS_bnw (fun w5 => ?_)
    refine zS_aload_n 48 rfl 1 rfl dX12_goes_47 ?_
    refine zS_getfp 51 rfl 1 dX12_goes_48 zC12 zw1113 (by decide) rfl h0 ?_
    refine zS_iload_n 52 rfl 0 rfl dX12_goes_51 ?_
    refine zS_iconst 53 rfl (1 : Int32) (by decide) dX12_goes_52 ?_
    refine zS_iadd 54 rfl dX12_goes_53 ?_
    refine zS_aload_n 55 rfl 1 rfl dX12_goes_54 ?_
    refine zS_getfp 58 rfl 5 dX12_goes_55 zC12 zw1117 (by decide) rfl h0 ?_
    refine zS_iload_n 59 rfl 2 rfl dX12_goes_58 ?_
    refine zS_iald 60 rfl dX12_goes_59 (zP12_hot h0) ?_
    refine zS_iast 61 rfl dX12_goes_60 (zP12_s h0) ?_
    refine zS_bnw (fun w6 => ?_)
    refine zS_aload_n 62 rfl 1 rfl dX12_goes_61 ?_
    refine zS_getfp 65 rfl 1 dX12_goes_62 zC12 zw1113 (by decide) rfl h0 ?_
    refine zS_iload_n 66 rfl 0 rfl dX12_goes_65 ?_
    refine zS_iconst 67 rfl (2 : Int32) (by decide) dX12_goes_66 ?_
    refine zS_iadd 68 rfl dX12_goes_67 ?_
    refine zS_aload_n 69 rfl 1 rfl dX12_goes_68 ?_
    refine zS_getfp 72 rfl 6 dX12_goes_69 zC12 zw1118 (by decide) rfl h0 ?_
    refine zS_iload_n 73 rfl 2 rfl dX12_goes_72 ?_
    refine zS_iald 74 rfl dX12_goes_73 (zP12_comes h0) ?_
    refine zS_iast 75 rfl dX12_goes_74 (zP12_s h0) ?_
    refine zS_bnw (fun w7 => ?_)
    refine zS_aload_n 76 rfl 1 rfl dX12_goes_75 ?_
    refine zS_getfp 79 rfl 1 dX12_goes_76 zC12 zw1113 (by decide) rfl h0 ?_
    refine zS_iload_n 80 rfl 0 rfl dX12_goes_79 ?_
    refine zS_iconst 81 rfl (3 : Int32) (by decide) dX12_goes_80 ?_
    refine zS_iadd 82 rfl dX12_goes_81 ?_
    refine zS_aload_n 83 rfl 1 rfl dX12_goes_82 ?_
    refine zS_getfp 86 rfl 7 dX12_goes_83 zC12 zw1119 (by decide) rfl h0 ?_
    refine zS_iload_n 87 rfl 2 rfl dX12_goes_86 ?_
    refine zS_iald 88 rfl dX12_goes_87 (zP12_warm h0) ?_
    refine zS_iast 89 rfl dX12_goes_88 (zP12_s h0) ?_
    refine zS_bnw (fun w8 => ?_)
    refine zS_iinc 92 rfl 2 (_ + (1 : Int32)) dX12_goes_89 rfl (by show 1 < 3; decide) rfl (show _ = [(1, .int _), (2, .int _), (0, .ref _)] from rfl) ?_
    refine zS_goto 6 dX12_goes_92 (by decide) ?_
    refine zS_sub [2, 0] (show _ = [(0, .ref _), (1, .int _)] from rfl) ?_
    exact hk6 _ _

theorem sX12_goes_6 (v0 : Nat) (v1 : Int32) (h0 : zShp v0 = (12, 25)) (w : zWd) : zS gX12_goes zEv 6 [(0, .ref v0), (1, .int v1)] [] w (mX12_goes_6 v0 v1 w) :=
  zS_loop (L := fun q : Int32 × zWd => [(0, .ref v0), (1, .int q.1)]) (V := fun q => q.2) (T := fun _ => []) (F := fun k q => mX12_goes_6b v0 k q.1 q.2) (fun k hk q => sX12_goes_6b v0 k q.1 (fun a1 w => hk (a1, w)) h0 q.2) zFU (v1, w)
set_option maxHeartbeats 4000000 in
set_option maxRecDepth 100000 in
theorem sX12_goes (v0 : Nat) (h0 : zShp v0 = (12, 25)) (w : zWd) : zS gX12_goes zEv 0 [(0, .ref v0)] [] w (mX12_goes v0 w) := by
  unfold mX12_goes
  refine zS_aload_n 1 rfl 0 rfl dX12_goes_0 ?_
  refine zS_cVv (as := []) (st := []) (g' := gX12_flows) 4 rfl (okX12_flows _ _ h0) dX12_goes_1 zC12 h0 zw1281 cbX12_flows rfl rfl (by decide) (Nat.le_of_ble_eq_true rfl) (fun r1 w2 => ?_)
  refine zS_iconst 5 rfl (0 : Int32) (by decide) dX12_goes_4 ?_
  refine zS_istore_n 6 rfl dX12_goes_5 (by show 1 < 3; decide) (show _ = [(1, .int _), (0, .ref _)] from rfl) ?_
  refine zS_sub [1, 0] (show _ = [(0, .ref _), (1, .int _)] from rfl) ?_
  exact sX12_goes_6 _ _ h0 _

theorem okX12_goes (v0 : Nat) (w : zWd) (h0 : zShp v0 = (12, 25)) : zOk gX12_goes zEv [.ref v0] w (mX12_goes v0 w) := zOk_of (by decide) rfl (Nat.le_of_ble_eq_true rfl) (sX12_goes v0 h0 w)
abbrev gX12_dawn : zMth := (yX12_dawn, cX12_dawn, 3, (some .int), 5, zE0)
theorem cbX12_dawn : zCbV yX12_dawn cX12_dawn 3 (some .int) 1 := ⟨zw1274, zw1275, zw89, zw1276, by decide, by decide, by decide +kernel⟩
set_option maxHeartbeats 4000000 in
set_option maxRecDepth 100000 in
theorem sX12_dawn_24 (w : zWd) : zS gX12_dawn zEi 24 [] [] w (mX12_dawn_24 w) := by
  unfold mX12_dawn_24
  refine zS_bipush 26 rfl (-2 : Int32) (by decide) dX12_dawn_24 ?_
  exact zS_reti dX12_dawn_26 rfl

set_option maxHeartbeats 4000000 in
set_option maxRecDepth 100000 in
theorem sX12_dawn_29b (v0 : Nat) (v1 : Int32) (k29 : Int32 × zWd → Option (Int32 × zWd)) (v2 : Int32) (hk29 : ∀ (v2 : Int32) (w : zWd), zS gX12_dawn zEi 29 [(0, .ref v0), (1, .int v1), (2, .int v2)] [] w (k29 (v2, w))) (h0 : zShp v0 = (12, 25)) (w : zWd) : zS gX12_dawn zEi 29 [(0, .ref v0), (1, .int v1), (2, .int v2)] [] w (mX12_dawn_29b v0 v1 k29 v2 w) := by
  unfold mX12_dawn_29b
  refine zS_iload_n 30 rfl 2 rfl dX12_dawn_29 ?_
  refine zS_iload_n 31 rfl 1 rfl dX12_dawn_30 ?_
  refine zS_icmp_ge 44 34 rfl dX12_dawn_31 (by decide) ?_ ?_
  · refine zS_aload_n 45 rfl 0 rfl dX12_dawn_44 ?_
    refine zS_getfp 48 rfl 1 dX12_dawn_45 zC12 zw1113 (by decide) rfl h0 ?_
    refine zS_iconst 49 rfl (0 : Int32) (by decide) dX12_dawn_48 ?_
    refine zS_iald 50 rfl dX12_dawn_49 (zP12_s h0) ?_
    exact zS_reti dX12_dawn_50 rfl
  · refine zS_aload_n 35 rfl 0 rfl dX12_dawn_34 ?_
    refine zS_cVv (as := []) (st := []) (g' := gX12_goes) 38 rfl (okX12_goes _ _ h0) dX12_dawn_35 zC12 h0 zw1277 cbX12_goes rfl rfl (by decide) (Nat.le_of_ble_eq_true rfl) (fun r3 w4 => ?_)
    refine zS_iinc 41 rfl 2 (_ + (1 : Int32)) dX12_dawn_38 rfl (by show 2 < 3; decide) rfl (show _ = [(2, .int _), (0, .ref _), (1, .int _)] from rfl) ?_
    refine zS_goto 29 dX12_dawn_41 (by decide) ?_
    refine zS_sub [1, 2, 0] (show _ = [(0, .ref _), (1, .int _), (2, .int _)] from rfl) ?_
    exact hk29 _ _

theorem sX12_dawn_29 (v0 : Nat) (v1 : Int32) (v2 : Int32) (h0 : zShp v0 = (12, 25)) (w : zWd) : zS gX12_dawn zEi 29 [(0, .ref v0), (1, .int v1), (2, .int v2)] [] w (mX12_dawn_29 v0 v1 v2 w) :=
  zS_loop (L := fun q : Int32 × zWd => [(0, .ref v0), (1, .int v1), (2, .int q.1)]) (V := fun q => q.2) (T := fun _ => []) (F := fun k q => mX12_dawn_29b v0 v1 k q.1 q.2) (fun k hk q => sX12_dawn_29b v0 v1 k q.1 (fun a2 w => hk (a2, w)) h0 q.2) zFU (v2, w)
set_option maxHeartbeats 4000000 in
set_option maxRecDepth 100000 in
theorem sX12_dawn (v0 : Nat) (v1 : Int32) (h0 : zShp v0 = (12, 25)) (w : zWd) : zS gX12_dawn zEi 0 [(0, .ref v0), (1, .int v1)] [] w (mX12_dawn v0 v1 w) := by
  unfold mX12_dawn
  refine zS_iload_n 1 rfl 1 rfl dX12_dawn_0 ?_
  refine zS_iconst 2 rfl (1 : Int32) (by decide) dX12_dawn_1 ?_
  refine zS_bipush 4 rfl (30 : Int32) (by decide) dX12_dawn_2 ?_
  refine zS_cSi (as := [.int _, .int _, .int _]) (st := []) (g' := gX12_in) 7 rfl (okX12_in _ _ _ _) dX12_dawn_4 zw1196 cbX12_in rfl rfl (by decide) (Nat.le_of_ble_eq_true rfl) (fun r1 w2 => ?_)
  refine zS_if_eq 24 10 rfl dX12_dawn_7 (by decide) ?_ ?_
  · refine zS_sub [] (show _ = [] from rfl) ?_
    exact sX12_dawn_24 _
  · refine zS_aload_n 11 rfl 0 rfl dX12_dawn_10 ?_
    refine zS_getfp 14 rfl 1 dX12_dawn_11 zC12 zw1113 (by decide) rfl h0 ?_
    refine zS_iconst 15 rfl (0 : Int32) (by decide) dX12_dawn_14 ?_
    refine zS_iald 16 rfl dX12_dawn_15 (zP12_s h0) ?_
    refine zS_iload_n 17 rfl 1 rfl dX12_dawn_16 ?_
    refine zS_iadd 18 rfl dX12_dawn_17 ?_
    refine zS_sipush 21 rfl (400 : Int32) (by decide) dX12_dawn_18 ?_
    refine zS_icmp_le 27 24 rfl dX12_dawn_21 (by decide) ?_ ?_
    · refine zS_iconst 28 rfl (0 : Int32) (by decide) dX12_dawn_27 ?_
      refine zS_istore_n 29 rfl dX12_dawn_28 (by show 2 < 3; decide) (show _ = [(2, .int _), (0, .ref _), (1, .int _)] from rfl) ?_
      refine zS_sub [1, 2, 0] (show _ = [(0, .ref _), (1, .int _), (2, .int _)] from rfl) ?_
      exact sX12_dawn_29 _ _ _ h0 _
    · refine zS_sub [] (show _ = [] from rfl) ?_
      exact sX12_dawn_24 _

theorem okX12_dawn (v0 : Nat) (v1 : Int32) (w : zWd) (h0 : zShp v0 = (12, 25)) : zOk gX12_dawn zEi [.ref v0, .int v1] w (mX12_dawn v0 v1 w) := zOk_of (by decide) rfl (Nat.le_of_ble_eq_true rfl) (sX12_dawn v0 v1 h0 w)
abbrev gX12_flowOf : zMth := (yX12_flowOf, cX12_flowOf, 4, (some .int), 1, zE0)
theorem cbX12_flowOf : zCbV yX12_flowOf cX12_flowOf 4 (some .int) 3 := ⟨zw1299, zw56, zw89, zw1300, by decide, by decide, by decide +kernel⟩
set_option maxHeartbeats 4000000 in
set_option maxRecDepth 100000 in
theorem sX12_flowOf (v0 : Nat) (v1 : Int32) (v2 : Int32) (v3 : Int32) (h0 : zShp v0 = (12, 25)) (w : zWd) : zS gX12_flowOf zEi 0 [(0, .ref v0), (1, .int v1), (2, .int v2), (3, .int v3)] [] w (mX12_flowOf v0 v1 v2 v3 w) := by
  unfold mX12_flowOf
  refine zS_aload_n 1 rfl 0 rfl dX12_flowOf_0 ?_
  refine zS_getfp 4 rfl 1 dX12_flowOf_1 zC12 zw1113 (by decide) rfl h0 ?_
  refine zS_sipush 7 rfl (2700 : Int32) (by decide) dX12_flowOf_4 ?_
  refine zS_sipush 10 rfl (1604 : Int32) (by decide) dX12_flowOf_7 ?_
  refine zS_iload_n 11 rfl 1 rfl dX12_flowOf_10 ?_
  refine zS_imul 12 rfl dX12_flowOf_11 ?_
  refine zS_iadd 13 rfl dX12_flowOf_12 ?_
  refine zS_iconst 14 rfl (4 : Int32) (by decide) dX12_flowOf_13 ?_
  refine zS_iload_n 15 rfl 2 rfl dX12_flowOf_14 ?_
  refine zS_imul 16 rfl dX12_flowOf_15 ?_
  refine zS_iadd 17 rfl dX12_flowOf_16 ?_
  refine zS_iload_n 18 rfl 3 rfl dX12_flowOf_17 ?_
  refine zS_iadd 19 rfl dX12_flowOf_18 ?_
  refine zS_iald 20 rfl dX12_flowOf_19 (zP12_s h0) ?_
  exact zS_reti dX12_flowOf_20 rfl

theorem okX12_flowOf (v0 : Nat) (v1 : Int32) (v2 : Int32) (v3 : Int32) (w : zWd) (h0 : zShp v0 = (12, 25)) : zOk gX12_flowOf zEi [.ref v0, .int v1, .int v2, .int v3] w (mX12_flowOf v0 v1 v2 v3 w) := zOk_of (by decide) rfl (Nat.le_of_ble_eq_true rfl) (sX12_flowOf v0 v1 v2 v3 h0 w)
abbrev gX12_flow : zMth := (yX12_flow, cX12_flow, 4, (some .int), 3, zE0)
theorem cbX12_flow : zCbV yX12_flow cX12_flow 4 (some .int) 3 := ⟨zw1290, zw1291, zw89, zw1292, by decide, by decide, by decide +kernel⟩
set_option maxHeartbeats 4000000 in
set_option maxRecDepth 100000 in
theorem sX12_flow_50 (s0 : Int32) (w : zWd) : zS gX12_flow zEi 50 [] [.int s0] w (mX12_flow_50 s0 w) := by
  unfold mX12_flow_50
  exact zS_reti dX12_flow_50 rfl

set_option maxHeartbeats 4000000 in
set_option maxRecDepth 100000 in
theorem sX12_flow_49 (w : zWd) : zS gX12_flow zEi 49 [] [] w (mX12_flow_49 w) := by
  unfold mX12_flow_49
  refine zS_iconst 50 rfl (-1 : Int32) (by decide) dX12_flow_49 ?_
  exact sX12_flow_50 _ _

set_option maxHeartbeats 4000000 in
set_option maxRecDepth 100000 in
theorem sX12_flow (v0 : Nat) (v1 : Int32) (v2 : Int32) (v3 : Int32) (h0 : zShp v0 = (12, 25)) (w : zWd) : zS gX12_flow zEi 0 [(0, .ref v0), (1, .int v1), (2, .int v2), (3, .int v3)] [] w (mX12_flow v0 v1 v2 v3 w) := by
  unfold mX12_flow
  refine zS_aload_n 1 rfl 0 rfl dX12_flow_0 ?_
  refine zS_iload_n 2 rfl 1 rfl dX12_flow_1 ?_
  refine zS_cVi (as := [.int _]) (st := []) (g' := gX12_isTap) 5 rfl (okX12_isTap _ _ _ h0) dX12_flow_2 zC12 h0 zw1269 cbX12_isTap rfl rfl (by decide) (Nat.le_of_ble_eq_true rfl) (fun r1 w2 => ?_)
  refine zS_if_eq 49 8 rfl dX12_flow_5 (by decide) ?_ ?_
  · refine zS_sub [] (show _ = [] from rfl) ?_
    exact sX12_flow_49 _
  · refine zS_aload_n 9 rfl 0 rfl dX12_flow_8 ?_
    refine zS_iload_n 10 rfl 2 rfl dX12_flow_9 ?_
    refine zS_cVi (as := [.int _]) (st := []) (g' := gX12_isGone) 13 rfl (okX12_isGone _ _ _ h0) dX12_flow_10 zC12 h0 zw1293 cbX12_isGone rfl rfl (by decide) (Nat.le_of_ble_eq_true rfl) (fun r3 w4 => ?_)
    refine zS_if_eq 49 16 rfl dX12_flow_13 (by decide) ?_ ?_
    · refine zS_sub [] (show _ = [] from rfl) ?_
      exact sX12_flow_49 _
    · refine zS_iload_n 17 rfl 2 rfl dX12_flow_16 ?_
      refine zS_aload_n 18 rfl 0 rfl dX12_flow_17 ?_
      refine zS_getfp 21 rfl 1 dX12_flow_18 zC12 zw1113 (by decide) rfl h0 ?_
      refine zS_sipush 24 rfl (200 : Int32) (by decide) dX12_flow_21 ?_
      refine zS_iload_n 25 rfl 1 rfl dX12_flow_24 ?_
      refine zS_iadd 26 rfl dX12_flow_25 ?_
      refine zS_iald 27 rfl dX12_flow_26 (zP12_s h0) ?_
      refine zS_icmp_lt 49 30 rfl dX12_flow_27 (by decide) ?_ ?_
      · refine zS_sub [] (show _ = [] from rfl) ?_
        exact sX12_flow_49 _
      · refine zS_iload_n 31 rfl 3 rfl dX12_flow_30 ?_
        refine zS_iconst 32 rfl (0 : Int32) (by decide) dX12_flow_31 ?_
        refine zS_iconst 33 rfl (3 : Int32) (by decide) dX12_flow_32 ?_
        refine zS_cSi (as := [.int _, .int _, .int _]) (st := []) (g' := gX12_in) 36 rfl (okX12_in _ _ _ _) dX12_flow_33 zw1196 cbX12_in rfl rfl (by decide) (Nat.le_of_ble_eq_true rfl) (fun r5 w6 => ?_)
        refine zS_if_eq 49 39 rfl dX12_flow_36 (by decide) ?_ ?_
        · refine zS_sub [] (show _ = [] from rfl) ?_
          exact sX12_flow_49 _
        · refine zS_aload_n 40 rfl 0 rfl dX12_flow_39 ?_
          refine zS_iload_n 41 rfl 1 rfl dX12_flow_40 ?_
          refine zS_iload_n 42 rfl 2 rfl dX12_flow_41 ?_
          refine zS_iload_n 43 rfl 3 rfl dX12_flow_42 ?_
          refine zS_cVi (as := [.int _, .int _, .int _]) (st := []) (g' := gX12_flowOf) 46 rfl (okX12_flowOf _ _ _ _ _ h0) dX12_flow_43 zC12 h0 zw1297 cbX12_flowOf rfl rfl (by decide) (Nat.le_of_ble_eq_true rfl) (fun r7 w8 => ?_)
          refine zS_goto 50 dX12_flow_46 (by decide) ?_
          refine zS_sub [] (show _ = [] from rfl) ?_
          exact sX12_flow_50 _ _

theorem okX12_flow (v0 : Nat) (v1 : Int32) (v2 : Int32) (v3 : Int32) (w : zWd) (h0 : zShp v0 = (12, 25)) : zOk gX12_flow zEi [.ref v0, .int v1, .int v2, .int v3] w (mX12_flow v0 v1 v2 v3 w) := zOk_of (by decide) rfl (Nat.le_of_ble_eq_true rfl) (sX12_flow v0 v1 v2 v3 h0 w)
abbrev gX12_pipe : zMth := (yX12_pipe, cX12_pipe, 4, (some .int), 3, zE0)
theorem cbX12_pipe : zCbV yX12_pipe cX12_pipe 4 (some .int) 2 := ⟨zw1302, zw1303, zw89, zw1304, by decide, by decide, by decide +kernel⟩
set_option maxHeartbeats 4000000 in
set_option maxRecDepth 100000 in
theorem sX12_pipe (v0 : Nat) (v1 : Int32) (v2 : Int32) (h0 : zShp v0 = (12, 25)) (w : zWd) : zS gX12_pipe zEi 0 [(0, .ref v0), (1, .int v1), (2, .int v2)] [] w (mX12_pipe v0 v1 v2 w) := by
  unfold mX12_pipe
  refine zS_aload_n 1 rfl 0 rfl dX12_pipe_0 ?_
  refine zS_iload_n 2 rfl 1 rfl dX12_pipe_1 ?_
  refine zS_cVi (as := [.int _]) (st := []) (g' := gX12_isTap) 5 rfl (okX12_isTap _ _ _ h0) dX12_pipe_2 zC12 h0 zw1269 cbX12_isTap rfl rfl (by decide) (Nat.le_of_ble_eq_true rfl) (fun r1 w2 => ?_)
  refine zS_if_ne 10 8 rfl dX12_pipe_5 (by decide) ?_ ?_
  · refine zS_iconst 9 rfl (-1 : Int32) (by decide) dX12_pipe_8 ?_
    exact zS_reti dX12_pipe_9 rfl
  · refine zS_iload_n 11 rfl 2 rfl dX12_pipe_10 ?_
    refine zS_iconst 12 rfl (0 : Int32) (by decide) dX12_pipe_11 ?_
    refine zS_bipush 14 rfl (99 : Int32) (by decide) dX12_pipe_12 ?_
    refine zS_cSi (as := [.int _, .int _, .int _]) (st := []) (g' := gX12_in) 17 rfl (okX12_in _ _ _ _) dX12_pipe_14 zw1196 cbX12_in rfl rfl (by decide) (Nat.le_of_ble_eq_true rfl) (fun r3 w4 => ?_)
    refine zS_if_ne 23 20 rfl dX12_pipe_17 (by decide) ?_ ?_
    · refine zS_bipush 22 rfl (-2 : Int32) (by decide) dX12_pipe_20 ?_
      exact zS_reti dX12_pipe_22 rfl
    · refine zS_aload_n 24 rfl 0 rfl dX12_pipe_23 ?_
      refine zS_getfp 27 rfl 1 dX12_pipe_24 zC12 zw1113 (by decide) rfl h0 ?_
      refine zS_sipush 30 rfl (212 : Int32) (by decide) dX12_pipe_27 ?_
      refine zS_iload_n 31 rfl 1 rfl dX12_pipe_30 ?_
      refine zS_iadd 32 rfl dX12_pipe_31 ?_
      refine zS_iald 33 rfl dX12_pipe_32 (zP12_s h0) ?_
      refine zS_bni (fun x5 => ?_)
      refine zS_istore_n 34 rfl dX12_pipe_33 (by show 3 < 4; decide) (show _ = [(3, .int _), (0, .ref _), (1, .int _), (2, .int _)] from rfl) ?_
      refine zS_aload_n 35 rfl 1 rfl dX12_pipe_34 ?_
      refine zS_getfp 38 rfl 1 dX12_pipe_35 zC12 zw1113 (by decide) rfl h0 ?_
      refine zS_sipush 41 rfl (212 : Int32) (by decide) dX12_pipe_38 ?_
      refine zS_iload_n 42 rfl 2 rfl dX12_pipe_41 ?_
      refine zS_iadd 43 rfl dX12_pipe_42 ?_
      refine zS_iload_n 44 rfl 3 rfl dX12_pipe_43 ?_
      refine zS_iast 45 rfl dX12_pipe_44 (zP12_s h0) ?_
      refine zS_bnw (fun w6 => ?_)
      refine zS_iload_n 46 rfl 0 rfl dX12_pipe_45 ?_
      exact zS_reti dX12_pipe_46 rfl

theorem okX12_pipe (v0 : Nat) (v1 : Int32) (v2 : Int32) (w : zWd) (h0 : zShp v0 = (12, 25)) : zOk gX12_pipe zEi [.ref v0, .int v1, .int v2] w (mX12_pipe v0 v1 v2 w) := zOk_of (by decide) rfl (Nat.le_of_ble_eq_true rfl) (sX12_pipe v0 v1 v2 h0 w)
abbrev gX12_scale : zMth := (yX12_scale, cX12_scale, 3, (some .int), 3, zE0)
theorem cbX12_scale : zCbV yX12_scale cX12_scale 3 (some .int) 1 := ⟨zw1306, zw1307, zw89, zw1308, by decide, by decide, by decide +kernel⟩
set_option maxHeartbeats 4000000 in
set_option maxRecDepth 100000 in
theorem sX12_scale (v0 : Nat) (v1 : Int32) (h0 : zShp v0 = (12, 25)) (w : zWd) : zS gX12_scale zEi 0 [(0, .ref v0), (1, .int v1)] [] w (mX12_scale v0 v1 w) := by
  unfold mX12_scale
  refine zS_aload_n 1 rfl 0 rfl dX12_scale_0 ?_
  refine zS_iload_n 2 rfl 1 rfl dX12_scale_1 ?_
  refine zS_cVi (as := [.int _]) (st := []) (g' := gX12_isTap) 5 rfl (okX12_isTap _ _ _ h0) dX12_scale_2 zC12 h0 zw1269 cbX12_isTap rfl rfl (by decide) (Nat.le_of_ble_eq_true rfl) (fun r1 w2 => ?_)
  refine zS_if_ne 10 8 rfl dX12_scale_5 (by decide) ?_ ?_
  · refine zS_iconst 9 rfl (-1 : Int32) (by decide) dX12_scale_8 ?_
    exact zS_reti dX12_scale_9 rfl
  · refine zS_aload_n 11 rfl 0 rfl dX12_scale_10 ?_
    refine zS_getfp 14 rfl 1 dX12_scale_11 zC12 zw1113 (by decide) rfl h0 ?_
    refine zS_sipush 17 rfl (224 : Int32) (by decide) dX12_scale_14 ?_
    refine zS_iload_n 18 rfl 1 rfl dX12_scale_17 ?_
    refine zS_iadd 19 rfl dX12_scale_18 ?_
    refine zS_iald 20 rfl dX12_scale_19 (zP12_s h0) ?_
    refine zS_bni (fun x3 => ?_)
    refine zS_istore_n 21 rfl dX12_scale_20 (by show 2 < 3; decide) (show _ = [(2, .int _), (0, .ref _), (1, .int _)] from rfl) ?_
    refine zS_aload_n 22 rfl 1 rfl dX12_scale_21 ?_
    refine zS_getfp 25 rfl 1 dX12_scale_22 zC12 zw1113 (by decide) rfl h0 ?_
    refine zS_sipush 28 rfl (224 : Int32) (by decide) dX12_scale_25 ?_
    refine zS_iload_n 29 rfl 2 rfl dX12_scale_28 ?_
    refine zS_iadd 30 rfl dX12_scale_29 ?_
    refine zS_iconst 31 rfl (0 : Int32) (by decide) dX12_scale_30 ?_
    refine zS_iast 32 rfl dX12_scale_31 (zP12_s h0) ?_
    refine zS_bnw (fun w4 => ?_)
    refine zS_iload_n 33 rfl 0 rfl dX12_scale_32 ?_
    exact zS_reti dX12_scale_33 rfl

theorem okX12_scale (v0 : Nat) (v1 : Int32) (w : zWd) (h0 : zShp v0 = (12, 25)) : zOk gX12_scale zEi [.ref v0, .int v1] w (mX12_scale v0 v1 w) := zOk_of (by decide) rfl (Nat.le_of_ble_eq_true rfl) (sX12_scale v0 v1 h0 w)
abbrev gX12_feed : zMth := (yX12_feed, cX12_feed, 5, (some .int), 2, zE0)
theorem cbX12_feed : zCbV yX12_feed cX12_feed 5 (some .int) 2 := ⟨zw1310, zw1311, zw89, zw1312, by decide, by decide, by decide +kernel⟩
set_option maxHeartbeats 4000000 in
set_option maxRecDepth 100000 in
theorem sX12_feed_35b (v0 : Nat) (v1 : Int64) (k35 : Int32 × zWd → Option (Int32 × zWd)) (v4 : Int32) (hk35 : ∀ (v4 : Int32) (w : zWd), zS gX12_feed zEi 35 [(0, .ref v0), (1, .long v1), (4, .int v4)] [] w (k35 (v4, w))) (h0 : zShp v0 = (12, 25)) (w : zWd) : zS gX12_feed zEi 35 [(0, .ref v0), (1, .long v1), (4, .int v4)] [] w (mX12_feed_35b v0 v1 k35 v4 w) := by
  unfold mX12_feed_35b
  refine zS_iload 37 rfl 2 rfl dX12_feed_35 ?_
  refine zS_if_lt 85 40 rfl dX12_feed_37 (by decide) ?_ ?_
  · refine zS_aload_n 86 rfl 0 rfl dX12_feed_85 ?_
    refine zS_getfp 89 rfl 1 dX12_feed_86 zC12 zw1113 (by decide) rfl h0 ?_
    refine zS_bipush 91 rfl (6 : Int32) (by decide) dX12_feed_89 ?_
    refine zS_iald 92 rfl dX12_feed_91 (zP12_s h0) ?_
    exact zS_reti dX12_feed_92 rfl
  · refine zS_aload_n 41 rfl 0 rfl dX12_feed_40 ?_
    refine zS_getfp 44 rfl 1 dX12_feed_41 zC12 zw1113 (by decide) rfl h0 ?_
    refine zS_sipush 47 rfl (1880 : Int32) (by decide) dX12_feed_44 ?_
    refine zS_aload_n 48 rfl 0 rfl dX12_feed_47 ?_
    refine zS_getfp 51 rfl 1 dX12_feed_48 zC12 zw1113 (by decide) rfl h0 ?_
    refine zS_bipush 53 rfl (6 : Int32) (by decide) dX12_feed_51 ?_
    refine zS_iald 54 rfl dX12_feed_53 (zP12_s h0) ?_
    refine zS_iadd 55 rfl dX12_feed_54 ?_
    refine zS_lload_n 56 rfl 1 rfl dX12_feed_55 ?_
    refine zS_bipush 58 rfl (8 : Int32) (by decide) dX12_feed_56 ?_
    refine zS_iload 60 rfl 2 rfl dX12_feed_58 ?_
    refine zS_imul 61 rfl dX12_feed_60 ?_
    refine zS_lshr 62 rfl dX12_feed_61 ?_
    refine zS_ldc2 65 rfl (255 : Int64) zw1313 dX12_feed_62 ?_
    refine zS_land 66 rfl dX12_feed_65 ?_
    refine zS_l2i 67 rfl dX12_feed_66 ?_
    refine zS_iast 68 rfl dX12_feed_67 (zP12_s h0) ?_
    refine zS_bnw (fun w4 => ?_)
    refine zS_aload_n 69 rfl 0 rfl dX12_feed_68 ?_
    refine zS_getfp 72 rfl 1 dX12_feed_69 zC12 zw1113 (by decide) rfl h0 ?_
    refine zS_bipush 74 rfl (6 : Int32) (by decide) dX12_feed_72 ?_
    refine zS_dup2 75 rfl rfl rfl dX12_feed_74 ?_
    refine zS_iald 76 rfl dX12_feed_75 (zP12_s h0) ?_
    refine zS_iconst 77 rfl (1 : Int32) (by decide) dX12_feed_76 ?_
    refine zS_iadd 78 rfl dX12_feed_77 ?_
    refine zS_iast 79 rfl dX12_feed_78 (zP12_s h0) ?_
    refine zS_bnw (fun w5 => ?_)
    refine zS_iinc 82 rfl 2 (_ + (-1 : Int32)) dX12_feed_79 rfl (by show 4 < 5; decide) rfl (show _ = [(4, .int _), (0, .ref _), (1, .long _)] from rfl) ?_
    refine zS_goto 35 dX12_feed_82 (by decide) ?_
    refine zS_sub [1, 2, 0] (show _ = [(0, .ref _), (1, .long _), (4, .int _)] from rfl) ?_
    exact hk35 _ _

theorem sX12_feed_35 (v0 : Nat) (v1 : Int64) (v4 : Int32) (h0 : zShp v0 = (12, 25)) (w : zWd) : zS gX12_feed zEi 35 [(0, .ref v0), (1, .long v1), (4, .int v4)] [] w (mX12_feed_35 v0 v1 v4 w) :=
  zS_loop (L := fun q : Int32 × zWd => [(0, .ref v0), (1, .long v1), (4, .int q.1)]) (V := fun q => q.2) (T := fun _ => []) (F := fun k q => mX12_feed_35b v0 v1 k q.1 q.2) (fun k hk q => sX12_feed_35b v0 v1 k q.1 (fun a4 w => hk (a4, w)) h0 q.2) zFU (v4, w)
set_option maxHeartbeats 4000000 in
set_option maxRecDepth 100000 in
theorem sX12_feed (v0 : Nat) (v1 : Int64) (v3 : Int32) (h0 : zShp v0 = (12, 25)) (w : zWd) : zS gX12_feed zEi 0 [(0, .ref v0), (1, .long v1), (3, .int v3)] [] w (mX12_feed v0 v1 v3 w) := by
  unfold mX12_feed
  refine zS_iload_n 1 rfl 2 rfl dX12_feed_0 ?_
  refine zS_iconst 2 rfl (1 : Int32) (by decide) dX12_feed_1 ?_
  refine zS_bipush 4 rfl (8 : Int32) (by decide) dX12_feed_2 ?_
  refine zS_cSi (as := [.int _, .int _, .int _]) (st := []) (g' := gX12_in) 7 rfl (okX12_in _ _ _ _) dX12_feed_4 zw1196 cbX12_in rfl rfl (by decide) (Nat.le_of_ble_eq_true rfl) (fun r1 w2 => ?_)
  refine zS_if_ne 13 10 rfl dX12_feed_7 (by decide) ?_ ?_
  · refine zS_bipush 12 rfl (-2 : Int32) (by decide) dX12_feed_10 ?_
    exact zS_reti dX12_feed_12 rfl
  · refine zS_aload_n 14 rfl 0 rfl dX12_feed_13 ?_
    refine zS_getfp 17 rfl 1 dX12_feed_14 zC12 zw1113 (by decide) rfl h0 ?_
    refine zS_bipush 19 rfl (6 : Int32) (by decide) dX12_feed_17 ?_
    refine zS_iald 20 rfl dX12_feed_19 (zP12_s h0) ?_
    refine zS_iload_n 21 rfl 2 rfl dX12_feed_20 ?_
    refine zS_iadd 22 rfl dX12_feed_21 ?_
    refine zS_bipush 24 rfl (120 : Int32) (by decide) dX12_feed_22 ?_
    refine zS_icmp_le 30 27 rfl dX12_feed_24 (by decide) ?_ ?_
    · refine zS_iload_n 31 rfl 2 rfl dX12_feed_30 ?_
      refine zS_iconst 32 rfl (1 : Int32) (by decide) dX12_feed_31 ?_
      refine zS_isub 33 rfl dX12_feed_32 ?_
      refine zS_bni (fun x3 => ?_)
      refine zS_istore 35 rfl dX12_feed_33 (by show 4 < 5; decide) (show _ = [(4, .int _), (0, .ref _), (1, .long _), (3, .int _)] from rfl) ?_
      refine zS_sub [1, 2, 0] (show _ = [(0, .ref _), (1, .long _), (4, .int _)] from rfl) ?_
      exact sX12_feed_35 _ _ _ h0 _
    · refine zS_bipush 29 rfl (-4 : Int32) (by decide) dX12_feed_27 ?_
      exact zS_reti dX12_feed_29 rfl

theorem okX12_feed (v0 : Nat) (v1 : Int64) (v3 : Int32) (w : zWd) (h0 : zShp v0 = (12, 25)) : zOk gX12_feed zEi [.ref v0, .long v1, .int v3] w (mX12_feed v0 v1 v3 w) := zOk_of (by decide) rfl (Nat.le_of_ble_eq_true rfl) (sX12_feed v0 v1 v3 h0 w)
abbrev gX12_spells : zMth := (yX12_spells, cX12_spells, 3, none, 5, zE0)
theorem cbX12_spells : zCbV yX12_spells cX12_spells 3 none 1 := ⟨zw1336, zw60, zw89, zw1337, by decide, by decide, by decide +kernel⟩
set_option maxHeartbeats 4000000 in
set_option maxRecDepth 100000 in
theorem sX12_spells_2b (v0 : Nat) (v1 : Nat) (k2 : Int32 × zWd → Option (Unit × zWd)) (v2 : Int32) (hk2 : ∀ (v2 : Int32) (w : zWd), zS gX12_spells zEv 2 [(0, .ref v0), (1, .ref v1), (2, .int v2)] [] w (k2 (v2, w))) (h0 : zShp v0 = (12, 25)) (h1 : zTS v1) (w : zWd) : zS gX12_spells zEv 2 [(0, .ref v0), (1, .ref v1), (2, .int v2)] [] w (mX12_spells_2b v0 v1 k2 v2 w) := by
  unfold mX12_spells_2b
  refine zS_iload_n 3 rfl 2 rfl dX12_spells_2 ?_
  refine zS_aload_n 4 rfl 1 rfl dX12_spells_3 ?_
  refine zS_cTi (as := []) (st := [.int _]) (g' := gJ0_length_8abf5) 7 rfl (okJ0_length_8abf5 _ _ h1) dX12_spells_4 rfl h1 zw1338 cbJ0_length_8abf5 rfl rfl (by decide) (Nat.le_of_ble_eq_true rfl) (fun r1 w2 => ?_)
  refine zS_icmp_ge 25 10 rfl dX12_spells_7 (by decide) ?_ ?_
  · exact zS_retv dX12_spells_25 rfl
  · refine zS_aload_n 11 rfl 0 rfl dX12_spells_10 ?_
    refine zS_aload_n 12 rfl 1 rfl dX12_spells_11 ?_
    refine zS_iload_n 13 rfl 2 rfl dX12_spells_12 ?_
    refine zS_cTi (as := [.int _]) (st := [.ref _]) (g' := gJ0_charAt_5068e) 16 rfl (okJ0_charAt_5068e _ _ _ h1) dX12_spells_13 rfl h1 zw1339 cbJ0_charAt_5068e rfl rfl (by decide) (Nat.le_of_ble_eq_true rfl) (fun r3 w4 => ?_)
    refine zS_cVv (as := [.int _]) (st := []) (g' := gX12_must) 19 rfl (okX12_must _ _ _ h0) dX12_spells_16 zC12 h0 zw1247 cbX12_must rfl rfl (by decide) (Nat.le_of_ble_eq_true rfl) (fun r5 w6 => ?_)
    refine zS_iinc 22 rfl 2 (_ + (1 : Int32)) dX12_spells_19 rfl (by show 2 < 3; decide) rfl (show _ = [(2, .int _), (0, .ref _), (1, .ref _)] from rfl) ?_
    refine zS_goto 2 dX12_spells_22 (by decide) ?_
    refine zS_sub [1, 2, 0] (show _ = [(0, .ref _), (1, .ref _), (2, .int _)] from rfl) ?_
    exact hk2 _ _

theorem sX12_spells_2 (v0 : Nat) (v1 : Nat) (v2 : Int32) (h0 : zShp v0 = (12, 25)) (h1 : zTS v1) (w : zWd) : zS gX12_spells zEv 2 [(0, .ref v0), (1, .ref v1), (2, .int v2)] [] w (mX12_spells_2 v0 v1 v2 w) :=
  zS_loop (L := fun q : Int32 × zWd => [(0, .ref v0), (1, .ref v1), (2, .int q.1)]) (V := fun q => q.2) (T := fun _ => []) (F := fun k q => mX12_spells_2b v0 v1 k q.1 q.2) (fun k hk q => sX12_spells_2b v0 v1 k q.1 (fun a2 w => hk (a2, w)) h0 h1 q.2) zFU (v2, w)
set_option maxHeartbeats 4000000 in
set_option maxRecDepth 100000 in
theorem sX12_spells (v0 : Nat) (v1 : Nat) (h0 : zShp v0 = (12, 25)) (h1 : zTS v1) (w : zWd) : zS gX12_spells zEv 0 [(0, .ref v0), (1, .ref v1)] [] w (mX12_spells v0 v1 w) := by
  unfold mX12_spells
  refine zS_iconst 1 rfl (0 : Int32) (by decide) dX12_spells_0 ?_
  refine zS_istore_n 2 rfl dX12_spells_1 (by show 2 < 3; decide) (show _ = [(2, .int _), (0, .ref _), (1, .ref _)] from rfl) ?_
  refine zS_sub [1, 2, 0] (show _ = [(0, .ref _), (1, .ref _), (2, .int _)] from rfl) ?_
  exact sX12_spells_2 _ _ _ h0 h1 _

theorem okX12_spells (v0 : Nat) (v1 : Nat) (w : zWd) (h0 : zShp v0 = (12, 25)) (h1 : zTS v1) : zOk gX12_spells zEv [.ref v0, .ref v1] w (mX12_spells v0 v1 w) := zOk_of (by decide) rfl (Nat.le_of_ble_eq_true rfl) (sX12_spells v0 v1 h0 h1 w)
abbrev gX12_word : zMth := (yX12_word, cX12_word, 1, (some .int), 6, zE0)
theorem cbX12_word : zCbV yX12_word cX12_word 1 (some .int) 0 := ⟨zw1331, zw59, zw89, zw1332, by decide, by decide, by decide +kernel⟩
set_option maxHeartbeats 4000000 in
set_option maxRecDepth 100000 in
theorem sX12_word (v0 : Nat) (h0 : zShp v0 = (12, 25)) (w : zWd) : zS gX12_word zEi 0 [(0, .ref v0)] [] w (mX12_word v0 w) := by
  unfold mX12_word
  refine zS_aload_n 1 rfl 0 rfl dX12_word_0 ?_
  refine zS_cVi (as := []) (st := []) (g' := gX12_here) 4 rfl (okX12_here _ _ h0) dX12_word_1 zC12 h0 zw1243 cbX12_here rfl rfl (by decide) (Nat.le_of_ble_eq_true rfl) (fun r1 w2 => ?_)
  refine zS_lsw (dflt := 119) (ps := #[(97, 68), (100, 60), (108, 84), (114, 52), (115, 76)]) ?_
  refine zLk_in (c0 := (97 : Int32)) 72 dX12_word_4 (by decide) (by decide) (by decide) ?_ ?_
  · refine zS_aload_n 73 rfl 0 rfl dX12_word_72 ?_
    refine zS_ldcS 75 rfl 8 rfl rfl rfl dX12_word_73 ?_
    refine zS_cVv (as := [.ref _]) (st := []) (g' := gX12_spells) 78 rfl (okX12_spells _ _ _ h0 (by decide)) dX12_word_75 zC12 h0 zw1334 cbX12_spells rfl rfl (by decide) (Nat.le_of_ble_eq_true rfl) (fun r3 w4 => ?_)
    refine zS_iconst 79 rfl (2 : Int32) (by decide) dX12_word_78 ?_
    exact zS_reti dX12_word_79 rfl
  refine zLk_in (c0 := (100 : Int32)) 64 dX12_word_4 (by decide) (by decide) (by decide) ?_ ?_
  · refine zS_aload_n 65 rfl 0 rfl dX12_word_64 ?_
    refine zS_ldcS 67 rfl 7 rfl rfl rfl dX12_word_65 ?_
    refine zS_cVv (as := [.ref _]) (st := []) (g' := gX12_spells) 70 rfl (okX12_spells _ _ _ h0 (by decide)) dX12_word_67 zC12 h0 zw1334 cbX12_spells rfl rfl (by decide) (Nat.le_of_ble_eq_true rfl) (fun r5 w6 => ?_)
    refine zS_iconst 71 rfl (1 : Int32) (by decide) dX12_word_70 ?_
    exact zS_reti dX12_word_71 rfl
  refine zLk_in (c0 := (108 : Int32)) 88 dX12_word_4 (by decide) (by decide) (by decide) ?_ ?_
  · refine zS_aload_n 89 rfl 0 rfl dX12_word_88 ?_
    refine zS_dup 90 rfl rfl dX12_word_89 ?_
    refine zS_getfi 93 rfl 11 dX12_word_90 zC12 zw1123 (by decide) rfl h0 ?_
    refine zS_iconst 94 rfl (1 : Int32) (by decide) dX12_word_93 ?_
    refine zS_iadd 95 rfl dX12_word_94 ?_
    refine zS_putfi 98 rfl 11 dX12_word_95 zC12 zw1123 (by decide) rfl rfl rfl h0 ?_
    refine zS_bnw (fun w7 => ?_)
    refine zS_aload_n 99 rfl 0 rfl dX12_word_98 ?_
    refine zS_cVi (as := []) (st := []) (g' := gX12_here) 102 rfl (okX12_here _ _ h0) dX12_word_99 zC12 h0 zw1243 cbX12_here rfl rfl (by decide) (Nat.le_of_ble_eq_true rfl) (fun r8 w9 => ?_)
    refine zS_bipush 104 rfl (97 : Int32) (by decide) dX12_word_102 ?_
    refine zS_icmp_ne 115 107 rfl dX12_word_104 (by decide) ?_ ?_
    · refine zS_aload_n 108 rfl 0 rfl dX12_word_107 ?_
      refine zS_ldcS 110 rfl 10 rfl rfl rfl dX12_word_108 ?_
      refine zS_cVv (as := [.ref _]) (st := []) (g' := gX12_spells) 113 rfl (okX12_spells _ _ _ h0 (by decide)) dX12_word_110 zC12 h0 zw1334 cbX12_spells rfl rfl (by decide) (Nat.le_of_ble_eq_true rfl) (fun r10 w11 => ?_)
      refine zS_iconst 114 rfl (3 : Int32) (by decide) dX12_word_113 ?_
      exact zS_reti dX12_word_114 rfl
    · refine zS_aload_n 116 rfl 0 rfl dX12_word_115 ?_
      refine zS_ldcS 118 rfl 11 rfl rfl rfl dX12_word_116 ?_
      refine zS_cVv (as := [.ref _]) (st := []) (g' := gX12_spells) 121 rfl (okX12_spells _ _ _ h0 (by decide)) dX12_word_118 zC12 h0 zw1334 cbX12_spells rfl rfl (by decide) (Nat.le_of_ble_eq_true rfl) (fun r12 w13 => ?_)
      refine zS_iconst 122 rfl (4 : Int32) (by decide) dX12_word_121 ?_
      exact zS_reti dX12_word_122 rfl
  refine zLk_in (c0 := (114 : Int32)) 56 dX12_word_4 (by decide) (by decide) (by decide) ?_ ?_
  · refine zS_aload_n 57 rfl 0 rfl dX12_word_56 ?_
    refine zS_ldcS 59 rfl 6 rfl rfl rfl dX12_word_57 ?_
    refine zS_cVv (as := [.ref _]) (st := []) (g' := gX12_spells) 62 rfl (okX12_spells _ _ _ h0 (by decide)) dX12_word_59 zC12 h0 zw1334 cbX12_spells rfl rfl (by decide) (Nat.le_of_ble_eq_true rfl) (fun r14 w15 => ?_)
    refine zS_iconst 63 rfl (0 : Int32) (by decide) dX12_word_62 ?_
    exact zS_reti dX12_word_63 rfl
  refine zLk_in (c0 := (115 : Int32)) 80 dX12_word_4 (by decide) (by decide) (by decide) ?_ ?_
  · refine zS_aload_n 81 rfl 0 rfl dX12_word_80 ?_
    refine zS_ldcS 83 rfl 9 rfl rfl rfl dX12_word_81 ?_
    refine zS_cVv (as := [.ref _]) (st := []) (g' := gX12_spells) 86 rfl (okX12_spells _ _ _ h0 (by decide)) dX12_word_83 zC12 h0 zw1334 cbX12_spells rfl rfl (by decide) (Nat.le_of_ble_eq_true rfl) (fun r16 w17 => ?_)
    refine zS_iconst 87 rfl (5 : Int32) (by decide) dX12_word_86 ?_
    exact zS_reti dX12_word_87 rfl
  refine zLk_out 123 dX12_word_4 (by decide) (by decide) ?_
  · refine zS_aload_n 124 rfl 0 rfl dX12_word_123 ?_
    refine zS_iconst 125 rfl (1 : Int32) (by decide) dX12_word_124 ?_
    refine zS_putfb 128 rfl 12 dX12_word_125 zC12 zw1124 (by decide) rfl rfl rfl h0 ?_
    refine zS_bnw (fun w18 => ?_)
    refine zS_iconst 129 rfl (0 : Int32) (by decide) dX12_word_128 ?_
    exact zS_reti dX12_word_129 rfl

theorem okX12_word (v0 : Nat) (w : zWd) (h0 : zShp v0 = (12, 25)) : zOk gX12_word zEi [.ref v0] w (mX12_word v0 w) := zOk_of (by decide) rfl (Nat.le_of_ble_eq_true rfl) (sX12_word v0 h0 w)
abbrev gX12_reads : zMth := (yX12_reads, cX12_reads, 5, none, 44, zE0)
theorem cbX12_reads : zCbV yX12_reads cX12_reads 5 none 1 := ⟨zw1327, zw58, zw89, zw1328, by decide, by decide, by decide +kernel⟩
set_option maxHeartbeats 4000000 in
set_option maxRecDepth 100000 in
theorem sX12_reads_178 (s0 : Int32) (s1 : Int32) (s2 : Int32) (s3 : Nat) (t3 : zShp s3 = (20, 21948)) (w : zWd) : zS gX12_reads zEv 178 [] [.int s0, .int s1, .int s2, .ref s3] w (mX12_reads_178 s0 s1 s2 s3 w) := by
  unfold mX12_reads_178
  refine zS_iadd 179 rfl dX12_reads_178 ?_
  refine zS_iast 180 rfl dX12_reads_179 t3 ?_
  refine zS_bnw (fun w17 => ?_)
  exact zS_retv dX12_reads_180 rfl

set_option maxHeartbeats 4000000 in
set_option maxRecDepth 100000 in
theorem sX12_reads_155 (v0 : Nat) (v1 : Int32) (h0 : zShp v0 = (12, 25)) (w : zWd) : zS gX12_reads zEv 155 [(0, .ref v0), (1, .int v1)] [] w (mX12_reads_155 v0 v1 w) := by
  unfold mX12_reads_155
  refine zS_aload_n 156 rfl 0 rfl dX12_reads_155 ?_
  refine zS_getfp 159 rfl 1 dX12_reads_156 zC12 zw1113 (by decide) rfl h0 ?_
  refine zS_sipush 162 rfl (1600 : Int32) (by decide) dX12_reads_159 ?_
  refine zS_iload_n 163 rfl 1 rfl dX12_reads_162 ?_
  refine zS_iadd 164 rfl dX12_reads_163 ?_
  refine zS_dup2 165 rfl rfl rfl dX12_reads_164 ?_
  refine zS_iald 166 rfl dX12_reads_165 (zP12_s h0) ?_
  refine zS_aload_n 167 rfl 0 rfl dX12_reads_166 ?_
  refine zS_getfi 170 rfl 12 dX12_reads_167 zC12 zw1124 (by decide) rfl h0 ?_
  refine zS_if_eq 177 173 rfl dX12_reads_170 (by decide) ?_ ?_
  · refine zS_iconst 178 rfl (1 : Int32) (by decide) dX12_reads_177 ?_
    refine zS_sub [] (show _ = [] from rfl) ?_
    exact sX12_reads_178 _ _ _ _ (zP12_s h0) _
  · refine zS_iconst 174 rfl (0 : Int32) (by decide) dX12_reads_173 ?_
    refine zS_goto 178 dX12_reads_174 (by decide) ?_
    refine zS_sub [] (show _ = [] from rfl) ?_
    exact sX12_reads_178 _ _ _ _ (zP12_s h0) _

set_option maxHeartbeats 4000000 in
set_option maxRecDepth 100000 in
theorem sX12_reads_125 (v0 : Nat) (v1 : Int32) (v2 : Int32) (v3 : Int32) (h0 : zShp v0 = (12, 25)) (w : zWd) : zS gX12_reads zEv 125 [(0, .ref v0), (1, .int v1), (2, .int v2), (3, .int v3)] [] w (mX12_reads_125 v0 v1 v2 v3 w) := by
  unfold mX12_reads_125
  refine zS_iload_n 126 rfl 3 rfl dX12_reads_125 ?_
  refine zS_if_ne 155 129 rfl dX12_reads_126 (by decide) ?_ ?_
  · refine zS_aload_n 130 rfl 0 rfl dX12_reads_129 ?_
    refine zS_bipush 132 rfl (32 : Int32) (by decide) dX12_reads_130 ?_
    refine zS_cVv (as := [.int _]) (st := []) (g' := gX12_must) 135 rfl (okX12_must _ _ _ h0) dX12_reads_132 zC12 h0 zw1247 cbX12_must rfl rfl (by decide) (Nat.le_of_ble_eq_true rfl) (fun r12 w13 => ?_)
    refine zS_aload_n 136 rfl 0 rfl dX12_reads_135 ?_
    refine zS_getfp 139 rfl 1 dX12_reads_136 zC12 zw1113 (by decide) rfl h0 ?_
    refine zS_sipush 142 rfl (1790 : Int32) (by decide) dX12_reads_139 ?_
    refine zS_iload_n 143 rfl 2 rfl dX12_reads_142 ?_
    refine zS_iadd 144 rfl dX12_reads_143 ?_
    refine zS_aload_n 145 rfl 0 rfl dX12_reads_144 ?_
    refine zS_getfi 148 rfl 11 dX12_reads_145 zC12 zw1123 (by decide) rfl h0 ?_
    refine zS_iast 149 rfl dX12_reads_148 (zP12_s h0) ?_
    refine zS_bnw (fun w14 => ?_)
    refine zS_aload_n 150 rfl 0 rfl dX12_reads_149 ?_
    refine zS_cVi (as := []) (st := []) (g' := (gX12_some 40)) 153 rfl (okX12_some _ _ h0) dX12_reads_150 zC12 h0 zw1231 cbX12_some rfl rfl (by decide) (Nat.le_of_ble_eq_true rfl) (fun r15 w16 => ?_)
    refine zS_istore 155 rfl dX12_reads_153 (by show 4 < 5; decide) (show _ = [(4, .int _), (0, .ref _), (1, .int _), (2, .int _), (3, .int _)] from rfl) ?_
    refine zS_sub [1, 2] (show _ = [(0, .ref _), (1, .int _)] from rfl) ?_
    exact sX12_reads_155 _ _ h0 _
  · refine zS_sub [0, 1] (show _ = [(0, .ref _), (1, .int _)] from rfl) ?_
    exact sX12_reads_155 _ _ h0 _

set_option maxHeartbeats 4000000 in
set_option maxRecDepth 100000 in
theorem sX12_reads_89 (v0 : Nat) (v1 : Int32) (v2 : Int32) (v3 : Int32) (v4 : Int32) (s0 : Int32) (s1 : Int32) (s2 : Nat) (h0 : zShp v0 = (12, 25)) (t2 : zShp s2 = (12, 25)) (w : zWd) : zS gX12_reads zEv 89 [(0, .ref v0), (1, .int v1), (2, .int v2), (3, .int v3), (4, .int v4)] [.int s0, .int s1, .ref s2] w (mX12_reads_89 v0 v1 v2 v3 v4 s0 s1 s2 w) := by
  unfold mX12_reads_89
  refine zS_iadd 90 rfl dX12_reads_89 ?_
  refine zS_putfi 93 rfl 11 dX12_reads_90 zC12 zw1123 (by decide) rfl rfl rfl t2 ?_
  refine zS_bnw (fun w10 => ?_)
  refine zS_aload_n 94 rfl 0 rfl dX12_reads_93 ?_
  refine zS_getfp 97 rfl 1 dX12_reads_94 zC12 zw1113 (by decide) rfl h0 ?_
  refine zS_sipush 100 rfl (1700 : Int32) (by decide) dX12_reads_97 ?_
  refine zS_iload_n 101 rfl 2 rfl dX12_reads_100 ?_
  refine zS_iadd 102 rfl dX12_reads_101 ?_
  refine zS_iload 104 rfl 4 rfl dX12_reads_102 ?_
  refine zS_bipush 106 rfl (48 : Int32) (by decide) dX12_reads_104 ?_
  refine zS_isub 107 rfl dX12_reads_106 ?_
  refine zS_iast 108 rfl dX12_reads_107 (zP12_s h0) ?_
  refine zS_bnw (fun w11 => ?_)
  refine zS_goto 125 dX12_reads_108 (by decide) ?_
  refine zS_sub [0, 1, 2, 3] (show _ = [(0, .ref _), (1, .int _), (2, .int _), (3, .int _)] from rfl) ?_
  exact sX12_reads_125 _ _ _ _ h0 _

set_option maxHeartbeats 4000000 in
set_option maxRecDepth 100000 in
theorem sX12_reads_69 (v0 : Nat) (v1 : Int32) (v2 : Int32) (v3 : Int32) (v4 : Int32) (s0 : Int32) (s1 : Nat) (h0 : zShp v0 = (12, 25)) (t1 : zShp s1 = (12, 25)) (w : zWd) : zS gX12_reads zEv 69 [(0, .ref v0), (1, .int v1), (2, .int v2), (3, .int v3), (4, .int v4)] [.int s0, .ref s1] w (mX12_reads_69 v0 v1 v2 v3 v4 s0 s1 w) := by
  unfold mX12_reads_69
  refine zS_putfb 72 rfl 12 dX12_reads_69 zC12 zw1124 (by decide) rfl rfl rfl t1 ?_
  refine zS_bnw (fun w9 => ?_)
  refine zS_aload_n 73 rfl 0 rfl dX12_reads_72 ?_
  refine zS_dup 74 rfl rfl dX12_reads_73 ?_
  refine zS_getfi 77 rfl 11 dX12_reads_74 zC12 zw1123 (by decide) rfl h0 ?_
  refine zS_aload_n 78 rfl 0 rfl dX12_reads_77 ?_
  refine zS_getfi 81 rfl 12 dX12_reads_78 zC12 zw1124 (by decide) rfl h0 ?_
  refine zS_if_eq 88 84 rfl dX12_reads_81 (by decide) ?_ ?_
  · refine zS_iconst 89 rfl (1 : Int32) (by decide) dX12_reads_88 ?_
    exact sX12_reads_89 _ _ _ _ _ _ _ _ h0 h0 _
  · refine zS_iconst 85 rfl (0 : Int32) (by decide) dX12_reads_84 ?_
    refine zS_goto 89 dX12_reads_85 (by decide) ?_
    exact sX12_reads_89 _ _ _ _ _ _ _ _ h0 h0 _

set_option maxHeartbeats 4000000 in
set_option maxRecDepth 100000 in
theorem sX12_reads (v0 : Nat) (v1 : Int32) (h0 : zShp v0 = (12, 25)) (w : zWd) : zS gX12_reads zEv 0 [(0, .ref v0), (1, .int v1)] [] w (mX12_reads v0 v1 w) := by
  unfold mX12_reads
  refine zS_bipush 2 rfl (8 : Int32) (by decide) dX12_reads_0 ?_
  refine zS_iload_n 3 rfl 1 rfl dX12_reads_2 ?_
  refine zS_imul 4 rfl dX12_reads_3 ?_
  refine zS_aload_n 5 rfl 0 rfl dX12_reads_4 ?_
  refine zS_getfp 8 rfl 1 dX12_reads_5 zC12 zw1113 (by decide) rfl h0 ?_
  refine zS_sipush 11 rfl (1600 : Int32) (by decide) dX12_reads_8 ?_
  refine zS_iload_n 12 rfl 1 rfl dX12_reads_11 ?_
  refine zS_iadd 13 rfl dX12_reads_12 ?_
  refine zS_iald 14 rfl dX12_reads_13 (zP12_s h0) ?_
  refine zS_iadd 15 rfl dX12_reads_14 ?_
  refine zS_bni (fun x1 => ?_)
  refine zS_istore_n 16 rfl dX12_reads_15 (by show 2 < 5; decide) (show _ = [(2, .int _), (0, .ref _), (1, .int _)] from rfl) ?_
  refine zS_aload_n 17 rfl 1 rfl dX12_reads_16 ?_
  refine zS_cVi (as := []) (st := []) (g' := gX12_word) 20 rfl (okX12_word _ _ h0) dX12_reads_17 zC12 h0 zw1329 cbX12_word rfl rfl (by decide) (Nat.le_of_ble_eq_true rfl) (fun r2 w3 => ?_)
  refine zS_istore_n 21 rfl dX12_reads_20 (by show 3 < 5; decide) (show _ = [(3, .int _), (2, .int _), (0, .ref _), (1, .int _)] from rfl) ?_
  refine zS_aload_n 22 rfl 2 rfl dX12_reads_21 ?_
  refine zS_getfp 25 rfl 1 dX12_reads_22 zC12 zw1113 (by decide) rfl h0 ?_
  refine zS_sipush 28 rfl (1612 : Int32) (by decide) dX12_reads_25 ?_
  refine zS_iload_n 29 rfl 1 rfl dX12_reads_28 ?_
  refine zS_iadd 30 rfl dX12_reads_29 ?_
  refine zS_iload_n 31 rfl 0 rfl dX12_reads_30 ?_
  refine zS_iast 32 rfl dX12_reads_31 (zP12_s h0) ?_
  refine zS_bnw (fun w4 => ?_)
  refine zS_aload_n 33 rfl 2 rfl dX12_reads_32 ?_
  refine zS_getfi 36 rfl 12 dX12_reads_33 zC12 zw1124 (by decide) rfl h0 ?_
  refine zS_if_eq 40 39 rfl dX12_reads_36 (by decide) ?_ ?_
  · refine zS_iload_n 41 rfl 0 rfl dX12_reads_40 ?_
    refine zS_iconst 42 rfl (5 : Int32) (by decide) dX12_reads_41 ?_
    refine zS_icmp_ne 111 45 rfl dX12_reads_42 (by decide) ?_ ?_
    · refine zS_aload_n 46 rfl 2 rfl dX12_reads_45 ?_
      refine zS_cVi (as := []) (st := []) (g' := gX12_here) 49 rfl (okX12_here _ _ h0) dX12_reads_46 zC12 h0 zw1243 cbX12_here rfl rfl (by decide) (Nat.le_of_ble_eq_true rfl) (fun r5 w6 => ?_)
      refine zS_istore 51 rfl dX12_reads_49 (by show 4 < 5; decide) (show _ = [(4, .int _), (3, .int _), (2, .int _), (0, .ref _), (1, .int _)] from rfl) ?_
      refine zS_aload_n 52 rfl 3 rfl dX12_reads_51 ?_
      refine zS_iload 54 rfl 0 rfl dX12_reads_52 ?_
      refine zS_bipush 56 rfl (48 : Int32) (by decide) dX12_reads_54 ?_
      refine zS_bipush 58 rfl (50 : Int32) (by decide) dX12_reads_56 ?_
      refine zS_cSi (as := [.int _, .int _, .int _]) (st := [.ref _]) (g' := gX12_in) 61 rfl (okX12_in _ _ _ _) dX12_reads_58 zw1196 cbX12_in rfl rfl (by decide) (Nat.le_of_ble_eq_true rfl) (fun r7 w8 => ?_)
      refine zS_if_ne 68 64 rfl dX12_reads_61 (by decide) ?_ ?_
      · refine zS_iconst 65 rfl (1 : Int32) (by decide) dX12_reads_64 ?_
        refine zS_goto 69 dX12_reads_65 (by decide) ?_
        refine zS_sub [3, 4, 2, 1, 0] (show _ = [(0, .ref _), (1, .int _), (2, .int _), (3, .int _), (4, .int _)] from rfl) ?_
        exact sX12_reads_69 _ _ _ _ _ _ _ h0 h0 _
      · refine zS_iconst 69 rfl (0 : Int32) (by decide) dX12_reads_68 ?_
        refine zS_sub [3, 4, 2, 1, 0] (show _ = [(0, .ref _), (1, .int _), (2, .int _), (3, .int _), (4, .int _)] from rfl) ?_
        exact sX12_reads_69 _ _ _ _ _ _ _ h0 h0 _
    · refine zS_aload_n 112 rfl 2 rfl dX12_reads_111 ?_
      refine zS_getfp 115 rfl 1 dX12_reads_112 zC12 zw1113 (by decide) rfl h0 ?_
      refine zS_sipush 118 rfl (1700 : Int32) (by decide) dX12_reads_115 ?_
      refine zS_iload_n 119 rfl 1 rfl dX12_reads_118 ?_
      refine zS_iadd 120 rfl dX12_reads_119 ?_
      refine zS_aload_n 121 rfl 2 rfl dX12_reads_120 ?_
      refine zS_cVi (as := []) (st := [.int _, .ref _]) (g' := gX12_number) 124 rfl (okX12_number _ _ h0) dX12_reads_121 zC12 h0 zw1251 cbX12_number rfl rfl (by decide) (Nat.le_of_ble_eq_true rfl) (fun r18 w19 => ?_)
      refine zS_iast 125 rfl dX12_reads_124 (zP12_s h0) ?_
      refine zS_bnw (fun w20 => ?_)
      refine zS_sub [2, 3, 1, 0] (show _ = [(0, .ref _), (1, .int _), (2, .int _), (3, .int _)] from rfl) ?_
      exact sX12_reads_125 _ _ _ _ h0 _
  · exact zS_retv dX12_reads_39 rfl

theorem okX12_reads (v0 : Nat) (v1 : Int32) (w : zWd) (h0 : zShp v0 = (12, 25)) : zOk gX12_reads zEv [.ref v0, .int v1] w (mX12_reads v0 v1 w) := zOk_of (by decide) rfl (Nat.le_of_ble_eq_true rfl) (sX12_reads v0 v1 h0 w)
abbrev gX12_readsOrder : zMth := (yX12_readsOrder, cX12_readsOrder, 4, (some .boolean), 45, zE0)
theorem cbX12_readsOrder : zCbV yX12_readsOrder cX12_readsOrder 4 (some .boolean) 2 := ⟨zw1323, zw57, zw89, zw1324, by decide, by decide, by decide +kernel⟩
set_option maxHeartbeats 4000000 in
set_option maxRecDepth 100000 in
theorem sX12_readsOrder_215 (s0 : Int32) (w : zWd) : zS gX12_readsOrder zEi 215 [] [.int s0] w (mX12_readsOrder_215 s0 w) := by
  unfold mX12_readsOrder_215
  exact zS_retb dX12_readsOrder_215 rfl

set_option maxHeartbeats 4000000 in
set_option maxRecDepth 100000 in
theorem sX12_readsOrder_200 (v0 : Nat) (s0 : Int32) (s1 : Nat) (h0 : zShp v0 = (12, 25)) (t1 : zShp s1 = (12, 25)) (w : zWd) : zS gX12_readsOrder zEi 200 [(0, .ref v0)] [.int s0, .ref s1] w (mX12_readsOrder_200 v0 s0 s1 w) := by
  unfold mX12_readsOrder_200
  refine zS_putfb 203 rfl 12 dX12_readsOrder_200 zC12 zw1124 (by decide) rfl rfl rfl t1 ?_
  refine zS_bnw (fun w12 => ?_)
  refine zS_aload_n 204 rfl 0 rfl dX12_readsOrder_203 ?_
  refine zS_getfi 207 rfl 12 dX12_readsOrder_204 zC12 zw1124 (by decide) rfl h0 ?_
  refine zS_if_ne 214 210 rfl dX12_readsOrder_207 (by decide) ?_ ?_
  · refine zS_iconst 211 rfl (1 : Int32) (by decide) dX12_readsOrder_210 ?_
    refine zS_goto 215 dX12_readsOrder_211 (by decide) ?_
    refine zS_sub [] (show _ = [] from rfl) ?_
    exact sX12_readsOrder_215 _ _
  · refine zS_iconst 215 rfl (0 : Int32) (by decide) dX12_readsOrder_214 ?_
    refine zS_sub [] (show _ = [] from rfl) ?_
    exact sX12_readsOrder_215 _ _

set_option maxHeartbeats 4000000 in
set_option maxRecDepth 100000 in
theorem sX12_readsOrder_195 (v0 : Nat) (s0 : Nat) (h0 : zShp v0 = (12, 25)) (t0 : zShp s0 = (12, 25)) (w : zWd) : zS gX12_readsOrder zEi 195 [(0, .ref v0)] [.ref s0] w (mX12_readsOrder_195 v0 s0 w) := by
  unfold mX12_readsOrder_195
  refine zS_iconst 196 rfl (1 : Int32) (by decide) dX12_readsOrder_195 ?_
  refine zS_goto 200 dX12_readsOrder_196 (by decide) ?_
  exact sX12_readsOrder_200 _ _ _ h0 t0 _

set_option maxHeartbeats 4000000 in
set_option maxRecDepth 100000 in
theorem sX12_readsOrder_170 (v0 : Nat) (v1 : Int32) (h0 : zShp v0 = (12, 25)) (w : zWd) : zS gX12_readsOrder zEi 170 [(0, .ref v0), (1, .int v1)] [] w (mX12_readsOrder_170 v0 v1 w) := by
  unfold mX12_readsOrder_170
  refine zS_aload_n 171 rfl 0 rfl dX12_readsOrder_170 ?_
  refine zS_aload_n 172 rfl 0 rfl dX12_readsOrder_171 ?_
  refine zS_getfi 175 rfl 12 dX12_readsOrder_172 zC12 zw1124 (by decide) rfl h0 ?_
  refine zS_if_ne 195 178 rfl dX12_readsOrder_175 (by decide) ?_ ?_
  · refine zS_aload_n 179 rfl 0 rfl dX12_readsOrder_178 ?_
    refine zS_getfi 182 rfl 11 dX12_readsOrder_179 zC12 zw1123 (by decide) rfl h0 ?_
    refine zS_aload_n 183 rfl 0 rfl dX12_readsOrder_182 ?_
    refine zS_getfp 186 rfl 1 dX12_readsOrder_183 zC12 zw1113 (by decide) rfl h0 ?_
    refine zS_sipush 189 rfl (252 : Int32) (by decide) dX12_readsOrder_186 ?_
    refine zS_iload_n 190 rfl 1 rfl dX12_readsOrder_189 ?_
    refine zS_iadd 191 rfl dX12_readsOrder_190 ?_
    refine zS_iald 192 rfl dX12_readsOrder_191 (zP12_s h0) ?_
    refine zS_icmp_eq 199 195 rfl dX12_readsOrder_192 (by decide) ?_ ?_
    · refine zS_iconst 200 rfl (0 : Int32) (by decide) dX12_readsOrder_199 ?_
      refine zS_sub [0] (show _ = [(0, .ref _)] from rfl) ?_
      exact sX12_readsOrder_200 _ _ _ h0 h0 _
    · refine zS_sub [0] (show _ = [(0, .ref _)] from rfl) ?_
      exact sX12_readsOrder_195 _ _ h0 h0 _
  · refine zS_sub [0] (show _ = [(0, .ref _)] from rfl) ?_
    exact sX12_readsOrder_195 _ _ h0 h0 _

set_option maxHeartbeats 4000000 in
set_option maxRecDepth 100000 in
theorem sX12_readsOrder_121b (v0 : Nat) (v1 : Int32) (k121 : zWd → Option (Int32 × zWd)) (hk121 : ∀ (w : zWd), zS gX12_readsOrder zEi 121 [(0, .ref v0), (1, .int v1)] [] w (k121 w)) (h0 : zShp v0 = (12, 25)) (w : zWd) : zS gX12_readsOrder zEi 121 [(0, .ref v0), (1, .int v1)] [] w (mX12_readsOrder_121b v0 v1 k121 w) := by
  unfold mX12_readsOrder_121b
  refine zS_aload_n 122 rfl 0 rfl dX12_readsOrder_121 ?_
  refine zS_getfi 125 rfl 12 dX12_readsOrder_122 zC12 zw1124 (by decide) rfl h0 ?_
  refine zS_if_ne 170 128 rfl dX12_readsOrder_125 (by decide) ?_ ?_
  · refine zS_aload_n 129 rfl 0 rfl dX12_readsOrder_128 ?_
    refine zS_getfp 132 rfl 1 dX12_readsOrder_129 zC12 zw1113 (by decide) rfl h0 ?_
    refine zS_sipush 135 rfl (1600 : Int32) (by decide) dX12_readsOrder_132 ?_
    refine zS_iload_n 136 rfl 1 rfl dX12_readsOrder_135 ?_
    refine zS_iadd 137 rfl dX12_readsOrder_136 ?_
    refine zS_iald 138 rfl dX12_readsOrder_137 (zP12_s h0) ?_
    refine zS_bipush 140 rfl (8 : Int32) (by decide) dX12_readsOrder_138 ?_
    refine zS_icmp_ge 170 143 rfl dX12_readsOrder_140 (by decide) ?_ ?_
    · exact sX12_readsOrder_170 _ _ h0 _
    · refine zS_aload_n 144 rfl 0 rfl dX12_readsOrder_143 ?_
      refine zS_cVi (as := []) (st := []) (g' := gX12_here) 147 rfl (okX12_here _ _ h0) dX12_readsOrder_144 zC12 h0 zw1243 cbX12_here rfl rfl (by decide) (Nat.le_of_ble_eq_true rfl) (fun r13 w14 => ?_)
      refine zS_bipush 149 rfl (59 : Int32) (by decide) dX12_readsOrder_147 ?_
      refine zS_icmp_ne 170 152 rfl dX12_readsOrder_149 (by decide) ?_ ?_
      · refine zS_aload_n 153 rfl 0 rfl dX12_readsOrder_152 ?_
        refine zS_dup 154 rfl rfl dX12_readsOrder_153 ?_
        refine zS_getfi 157 rfl 11 dX12_readsOrder_154 zC12 zw1123 (by decide) rfl h0 ?_
        refine zS_iconst 158 rfl (1 : Int32) (by decide) dX12_readsOrder_157 ?_
        refine zS_iadd 159 rfl dX12_readsOrder_158 ?_
        refine zS_putfi 162 rfl 11 dX12_readsOrder_159 zC12 zw1123 (by decide) rfl rfl rfl h0 ?_
        refine zS_bnw (fun w15 => ?_)
        refine zS_aload_n 163 rfl 0 rfl dX12_readsOrder_162 ?_
        refine zS_iload_n 164 rfl 1 rfl dX12_readsOrder_163 ?_
        refine zS_cVv (as := [.int _]) (st := []) (g' := gX12_reads) 167 rfl (okX12_reads _ _ _ h0) dX12_readsOrder_164 zC12 h0 zw1325 cbX12_reads rfl rfl (by decide) (Nat.le_of_ble_eq_true rfl) (fun r16 w17 => ?_)
        refine zS_goto 121 dX12_readsOrder_167 (by decide) ?_
        exact hk121 _
      · exact sX12_readsOrder_170 _ _ h0 _
  · exact sX12_readsOrder_170 _ _ h0 _

theorem sX12_readsOrder_121 (v0 : Nat) (v1 : Int32) (h0 : zShp v0 = (12, 25)) (w : zWd) : zS gX12_readsOrder zEi 121 [(0, .ref v0), (1, .int v1)] [] w (mX12_readsOrder_121 v0 v1 w) :=
  zS_loop (L := fun q : zWd => [(0, .ref v0), (1, .int v1)]) (V := fun q => q) (T := fun _ => []) (F := fun k q => mX12_readsOrder_121b v0 v1 k q) (fun k hk q => sX12_readsOrder_121b v0 v1 k  (fun w => hk (w)) h0 q) zFU (w)
set_option maxHeartbeats 4000000 in
set_option maxRecDepth 100000 in
theorem sX12_readsOrder_30b (v0 : Nat) (v1 : Int32) (k30 : Int32 × zWd → Option (Int32 × zWd)) (v3 : Int32) (hk30 : ∀ (v3 : Int32) (w : zWd), zS gX12_readsOrder zEi 30 [(0, .ref v0), (1, .int v1), (3, .int v3)] [] w (k30 (v3, w))) (h0 : zShp v0 = (12, 25)) (w : zWd) : zS gX12_readsOrder zEi 30 [(0, .ref v0), (1, .int v1), (3, .int v3)] [] w (mX12_readsOrder_30b v0 v1 k30 v3 w) := by
  unfold mX12_readsOrder_30b
  refine zS_iload_n 31 rfl 2 rfl dX12_readsOrder_30 ?_
  refine zS_aload_n 32 rfl 0 rfl dX12_readsOrder_31 ?_
  refine zS_getfp 35 rfl 1 dX12_readsOrder_32 zC12 zw1113 (by decide) rfl h0 ?_
  refine zS_bipush 37 rfl (6 : Int32) (by decide) dX12_readsOrder_35 ?_
  refine zS_iald 38 rfl dX12_readsOrder_37 (zP12_s h0) ?_
  refine zS_icmp_ge 72 41 rfl dX12_readsOrder_38 (by decide) ?_ ?_
  · refine zS_aload_n 73 rfl 0 rfl dX12_readsOrder_72 ?_
    refine zS_getfp 76 rfl 1 dX12_readsOrder_73 zC12 zw1113 (by decide) rfl h0 ?_
    refine zS_bipush 78 rfl (6 : Int32) (by decide) dX12_readsOrder_76 ?_
    refine zS_iconst 79 rfl (0 : Int32) (by decide) dX12_readsOrder_78 ?_
    refine zS_iast 80 rfl dX12_readsOrder_79 (zP12_s h0) ?_
    refine zS_bnw (fun w3 => ?_)
    refine zS_aload_n 81 rfl 0 rfl dX12_readsOrder_80 ?_
    refine zS_getfp 84 rfl 1 dX12_readsOrder_81 zC12 zw1113 (by decide) rfl h0 ?_
    refine zS_sipush 87 rfl (1600 : Int32) (by decide) dX12_readsOrder_84 ?_
    refine zS_iload_n 88 rfl 1 rfl dX12_readsOrder_87 ?_
    refine zS_iadd 89 rfl dX12_readsOrder_88 ?_
    refine zS_iconst 90 rfl (0 : Int32) (by decide) dX12_readsOrder_89 ?_
    refine zS_iast 91 rfl dX12_readsOrder_90 (zP12_s h0) ?_
    refine zS_bnw (fun w4 => ?_)
    refine zS_aload_n 92 rfl 0 rfl dX12_readsOrder_91 ?_
    refine zS_iload_n 93 rfl 1 rfl dX12_readsOrder_92 ?_
    refine zS_putfi 96 rfl 10 dX12_readsOrder_93 zC12 zw1122 (by decide) rfl rfl rfl h0 ?_
    refine zS_bnw (fun w5 => ?_)
    refine zS_aload_n 97 rfl 0 rfl dX12_readsOrder_96 ?_
    refine zS_iconst 98 rfl (0 : Int32) (by decide) dX12_readsOrder_97 ?_
    refine zS_putfi 101 rfl 11 dX12_readsOrder_98 zC12 zw1123 (by decide) rfl rfl rfl h0 ?_
    refine zS_bnw (fun w6 => ?_)
    refine zS_aload_n 102 rfl 0 rfl dX12_readsOrder_101 ?_
    refine zS_iconst 103 rfl (0 : Int32) (by decide) dX12_readsOrder_102 ?_
    refine zS_putfi 106 rfl 13 dX12_readsOrder_103 zC12 zw1125 (by decide) rfl rfl rfl h0 ?_
    refine zS_bnw (fun w7 => ?_)
    refine zS_aload_n 107 rfl 0 rfl dX12_readsOrder_106 ?_
    refine zS_iconst 108 rfl (0 : Int32) (by decide) dX12_readsOrder_107 ?_
    refine zS_putfb 111 rfl 12 dX12_readsOrder_108 zC12 zw1124 (by decide) rfl rfl rfl h0 ?_
    refine zS_bnw (fun w8 => ?_)
    refine zS_aload_n 112 rfl 0 rfl dX12_readsOrder_111 ?_
    refine zS_iconst 113 rfl (-1 : Int32) (by decide) dX12_readsOrder_112 ?_
    refine zS_putfi 116 rfl 14 dX12_readsOrder_113 zC12 zw1126 (by decide) rfl rfl rfl h0 ?_
    refine zS_bnw (fun w9 => ?_)
    refine zS_aload_n 117 rfl 0 rfl dX12_readsOrder_116 ?_
    refine zS_iload_n 118 rfl 1 rfl dX12_readsOrder_117 ?_
    refine zS_cVv (as := [.int _]) (st := []) (g' := gX12_reads) 121 rfl (okX12_reads _ _ _ h0) dX12_readsOrder_118 zC12 h0 zw1325 cbX12_reads rfl rfl (by decide) (Nat.le_of_ble_eq_true rfl) (fun r10 w11 => ?_)
    refine zS_sub [0, 1] (show _ = [(0, .ref _), (1, .int _)] from rfl) ?_
    exact sX12_readsOrder_121 _ _ h0 _
  · refine zS_aload_n 42 rfl 0 rfl dX12_readsOrder_41 ?_
    refine zS_getfp 45 rfl 1 dX12_readsOrder_42 zC12 zw1113 (by decide) rfl h0 ?_
    refine zS_sipush 48 rfl (264 : Int32) (by decide) dX12_readsOrder_45 ?_
    refine zS_bipush 50 rfl (120 : Int32) (by decide) dX12_readsOrder_48 ?_
    refine zS_iload_n 51 rfl 1 rfl dX12_readsOrder_50 ?_
    refine zS_imul 52 rfl dX12_readsOrder_51 ?_
    refine zS_iadd 53 rfl dX12_readsOrder_52 ?_
    refine zS_iload_n 54 rfl 2 rfl dX12_readsOrder_53 ?_
    refine zS_iadd 55 rfl dX12_readsOrder_54 ?_
    refine zS_aload_n 56 rfl 0 rfl dX12_readsOrder_55 ?_
    refine zS_getfp 59 rfl 1 dX12_readsOrder_56 zC12 zw1113 (by decide) rfl h0 ?_
    refine zS_sipush 62 rfl (1880 : Int32) (by decide) dX12_readsOrder_59 ?_
    refine zS_iload_n 63 rfl 2 rfl dX12_readsOrder_62 ?_
    refine zS_iadd 64 rfl dX12_readsOrder_63 ?_
    refine zS_iald 65 rfl dX12_readsOrder_64 (zP12_s h0) ?_
    refine zS_iast 66 rfl dX12_readsOrder_65 (zP12_s h0) ?_
    refine zS_bnw (fun w18 => ?_)
    refine zS_iinc 69 rfl 2 (_ + (1 : Int32)) dX12_readsOrder_66 rfl (by show 3 < 4; decide) rfl (show _ = [(3, .int _), (0, .ref _), (1, .int _)] from rfl) ?_
    refine zS_goto 30 dX12_readsOrder_69 (by decide) ?_
    refine zS_sub [1, 2, 0] (show _ = [(0, .ref _), (1, .int _), (3, .int _)] from rfl) ?_
    exact hk30 _ _

theorem sX12_readsOrder_30 (v0 : Nat) (v1 : Int32) (v3 : Int32) (h0 : zShp v0 = (12, 25)) (w : zWd) : zS gX12_readsOrder zEi 30 [(0, .ref v0), (1, .int v1), (3, .int v3)] [] w (mX12_readsOrder_30 v0 v1 v3 w) :=
  zS_loop (L := fun q : Int32 × zWd => [(0, .ref v0), (1, .int v1), (3, .int q.1)]) (V := fun q => q.2) (T := fun _ => []) (F := fun k q => mX12_readsOrder_30b v0 v1 k q.1 q.2) (fun k hk q => sX12_readsOrder_30b v0 v1 k q.1 (fun a3 w => hk (a3, w)) h0 q.2) zFU (v3, w)
set_option maxHeartbeats 4000000 in
set_option maxRecDepth 100000 in
theorem sX12_readsOrder (v0 : Nat) (v1 : Int32) (v2 : Int32) (h0 : zShp v0 = (12, 25)) (w : zWd) : zS gX12_readsOrder zEi 0 [(0, .ref v0), (1, .int v1), (2, .int v2)] [] w (mX12_readsOrder v0 v1 v2 w) := by
  unfold mX12_readsOrder
  refine zS_aload_n 1 rfl 0 rfl dX12_readsOrder_0 ?_
  refine zS_getfp 4 rfl 1 dX12_readsOrder_1 zC12 zw1113 (by decide) rfl h0 ?_
  refine zS_sipush 7 rfl (240 : Int32) (by decide) dX12_readsOrder_4 ?_
  refine zS_iload_n 8 rfl 1 rfl dX12_readsOrder_7 ?_
  refine zS_iadd 9 rfl dX12_readsOrder_8 ?_
  refine zS_iload_n 10 rfl 2 rfl dX12_readsOrder_9 ?_
  refine zS_iast 11 rfl dX12_readsOrder_10 (zP12_s h0) ?_
  refine zS_bnw (fun w1 => ?_)
  refine zS_aload_n 12 rfl 0 rfl dX12_readsOrder_11 ?_
  refine zS_getfp 15 rfl 1 dX12_readsOrder_12 zC12 zw1113 (by decide) rfl h0 ?_
  refine zS_sipush 18 rfl (252 : Int32) (by decide) dX12_readsOrder_15 ?_
  refine zS_iload_n 19 rfl 1 rfl dX12_readsOrder_18 ?_
  refine zS_iadd 20 rfl dX12_readsOrder_19 ?_
  refine zS_aload_n 21 rfl 0 rfl dX12_readsOrder_20 ?_
  refine zS_getfp 24 rfl 1 dX12_readsOrder_21 zC12 zw1113 (by decide) rfl h0 ?_
  refine zS_bipush 26 rfl (6 : Int32) (by decide) dX12_readsOrder_24 ?_
  refine zS_iald 27 rfl dX12_readsOrder_26 (zP12_s h0) ?_
  refine zS_iast 28 rfl dX12_readsOrder_27 (zP12_s h0) ?_
  refine zS_bnw (fun w2 => ?_)
  refine zS_iconst 29 rfl (0 : Int32) (by decide) dX12_readsOrder_28 ?_
  refine zS_istore_n 30 rfl dX12_readsOrder_29 (by show 3 < 4; decide) (show _ = [(3, .int _), (0, .ref _), (1, .int _), (2, .int _)] from rfl) ?_
  refine zS_sub [1, 2, 0] (show _ = [(0, .ref _), (1, .int _), (3, .int _)] from rfl) ?_
  exact sX12_readsOrder_30 _ _ _ h0 _

theorem okX12_readsOrder (v0 : Nat) (v1 : Int32) (v2 : Int32) (w : zWd) (h0 : zShp v0 = (12, 25)) : zOk gX12_readsOrder zEi [.ref v0, .int v1, .int v2] w (mX12_readsOrder v0 v1 v2 w) := zOk_of (by decide) rfl (Nat.le_of_ble_eq_true rfl) (sX12_readsOrder v0 v1 v2 h0 w)
abbrev gX12_text : zMth := (yX12_text, cX12_text, 2, (some .int), 46, zE0)
theorem cbX12_text : zCbV yX12_text cX12_text 2 (some .int) 1 := ⟨zw1315, zw1316, zw89, zw1317, by decide, by decide, by decide +kernel⟩
set_option maxHeartbeats 4000000 in
set_option maxRecDepth 100000 in
theorem sX12_text (v0 : Nat) (v1 : Int32) (h0 : zShp v0 = (12, 25)) (w : zWd) : zS gX12_text zEi 0 [(0, .ref v0), (1, .int v1)] [] w (mX12_text v0 v1 w) := by
  unfold mX12_text
  refine zS_iload_n 1 rfl 1 rfl dX12_text_0 ?_
  refine zS_cSi (as := [.int _]) (st := []) (g' := gX12_isDay) 4 rfl (okX12_isDay _ _) dX12_text_1 zw1318 cbX12_isDay rfl rfl (by decide) (Nat.le_of_ble_eq_true rfl) (fun r1 w2 => ?_)
  refine zS_if_ne 10 7 rfl dX12_text_4 (by decide) ?_ ?_
  · refine zS_bipush 9 rfl (-2 : Int32) (by decide) dX12_text_7 ?_
    exact zS_reti dX12_text_9 rfl
  · refine zS_aload_n 11 rfl 0 rfl dX12_text_10 ?_
    refine zS_getfp 14 rfl 1 dX12_text_11 zC12 zw1113 (by decide) rfl h0 ?_
    refine zS_iconst 15 rfl (2 : Int32) (by decide) dX12_text_14 ?_
    refine zS_iald 16 rfl dX12_text_15 (zP12_s h0) ?_
    refine zS_bipush 18 rfl (10 : Int32) (by decide) dX12_text_16 ?_
    refine zS_icmp_ne 24 21 rfl dX12_text_18 (by decide) ?_ ?_
    · refine zS_bipush 23 rfl (-4 : Int32) (by decide) dX12_text_21 ?_
      exact zS_reti dX12_text_23 rfl
    · refine zS_aload_n 25 rfl 0 rfl dX12_text_24 ?_
      refine zS_aload_n 26 rfl 0 rfl dX12_text_25 ?_
      refine zS_getfp 29 rfl 1 dX12_text_26 zC12 zw1113 (by decide) rfl h0 ?_
      refine zS_iconst 30 rfl (2 : Int32) (by decide) dX12_text_29 ?_
      refine zS_iald 31 rfl dX12_text_30 (zP12_s h0) ?_
      refine zS_iload_n 32 rfl 1 rfl dX12_text_31 ?_
      refine zS_cVi (as := [.int _, .int _]) (st := []) (g' := gX12_readsOrder) 35 rfl (okX12_readsOrder _ _ _ _ h0) dX12_text_32 zC12 h0 zw1321 cbX12_readsOrder rfl rfl (by decide) (Nat.le_of_ble_eq_true rfl) (fun r3 w4 => ?_)
      refine zS_if_ne 46 38 rfl dX12_text_35 (by decide) ?_ ?_
      · refine zS_bipush 40 rfl (-10 : Int32) (by decide) dX12_text_38 ?_
        refine zS_aload_n 41 rfl 0 rfl dX12_text_40 ?_
        refine zS_getfi 44 rfl 11 dX12_text_41 zC12 zw1123 (by decide) rfl h0 ?_
        refine zS_isub 45 rfl dX12_text_44 ?_
        exact zS_reti dX12_text_45 rfl
      · refine zS_aload_n 47 rfl 0 rfl dX12_text_46 ?_
        refine zS_getfp 50 rfl 1 dX12_text_47 zC12 zw1113 (by decide) rfl h0 ?_
        refine zS_iconst 51 rfl (2 : Int32) (by decide) dX12_text_50 ?_
        refine zS_dup2 52 rfl rfl rfl dX12_text_51 ?_
        refine zS_iald 53 rfl dX12_text_52 (zP12_s h0) ?_
        refine zS_iconst 54 rfl (1 : Int32) (by decide) dX12_text_53 ?_
        refine zS_iadd 55 rfl dX12_text_54 ?_
        refine zS_iast 56 rfl dX12_text_55 (zP12_s h0) ?_
        refine zS_bnw (fun w5 => ?_)
        refine zS_aload_n 57 rfl 0 rfl dX12_text_56 ?_
        refine zS_getfp 60 rfl 1 dX12_text_57 zC12 zw1113 (by decide) rfl h0 ?_
        refine zS_iconst 61 rfl (2 : Int32) (by decide) dX12_text_60 ?_
        refine zS_iald 62 rfl dX12_text_61 (zP12_s h0) ?_
        refine zS_iconst 63 rfl (1 : Int32) (by decide) dX12_text_62 ?_
        refine zS_isub 64 rfl dX12_text_63 ?_
        exact zS_reti dX12_text_64 rfl

theorem okX12_text (v0 : Nat) (v1 : Int32) (w : zWd) (h0 : zShp v0 = (12, 25)) : zOk gX12_text zEi [.ref v0, .int v1] w (mX12_text v0 v1 w) := zOk_of (by decide) rfl (Nat.le_of_ble_eq_true rfl) (sX12_text v0 v1 h0 w)
abbrev gX12_force : zMth := (yX12_force, cX12_force, 4, (some .int), 47, zE0)
theorem cbX12_force : zCbV yX12_force cX12_force 4 (some .int) 3 := ⟨zw1346, zw1347, zw89, zw1348, by decide, by decide, by decide +kernel⟩
set_option maxHeartbeats 4000000 in
set_option maxRecDepth 100000 in
theorem sX12_force_21 (w : zWd) : zS gX12_force zEi 21 [] [] w (mX12_force_21 w) := by
  unfold mX12_force_21
  refine zS_iconst 22 rfl (-1 : Int32) (by decide) dX12_force_21 ?_
  exact zS_reti dX12_force_22 rfl

set_option maxHeartbeats 4000000 in
set_option maxRecDepth 100000 in
theorem sX12_force_42 (s0 : Int32) (w : zWd) : zS gX12_force zEi 42 [] [.int s0] w (mX12_force_42 s0 w) := by
  unfold mX12_force_42
  exact zS_reti dX12_force_42 rfl

set_option maxHeartbeats 4000000 in
set_option maxRecDepth 100000 in
theorem sX12_force_23 (v0 : Nat) (v1 : Int32) (v2 : Int32) (v3 : Int32) (h0 : zShp v0 = (12, 25)) (w : zWd) : zS gX12_force zEi 23 [(0, .ref v0), (1, .int v1), (2, .int v2), (3, .int v3)] [] w (mX12_force_23 v0 v1 v2 v3 w) := by
  unfold mX12_force_23
  refine zS_iload_n 24 rfl 3 rfl dX12_force_23 ?_
  refine zS_cSi (as := [.int _]) (st := []) (g' := gX12_isDay) 27 rfl (okX12_isDay _ _) dX12_force_24 zw1318 cbX12_isDay rfl rfl (by decide) (Nat.le_of_ble_eq_true rfl) (fun r5 w6 => ?_)
  refine zS_if_eq 40 30 rfl dX12_force_27 (by decide) ?_ ?_
  · refine zS_bipush 42 rfl (-2 : Int32) (by decide) dX12_force_40 ?_
    refine zS_sub [] (show _ = [] from rfl) ?_
    exact sX12_force_42 _ _
  · refine zS_aload_n 31 rfl 0 rfl dX12_force_30 ?_
    refine zS_iload_n 32 rfl 1 rfl dX12_force_31 ?_
    refine zS_iload_n 33 rfl 2 rfl dX12_force_32 ?_
    refine zS_iload_n 34 rfl 3 rfl dX12_force_33 ?_
    refine zS_cVi (as := [.int _, .int _, .int _]) (st := []) (g' := gX12_ruleFor) 37 rfl (okX12_ruleFor _ _ _ _ _ h0) dX12_force_34 zC12 h0 zw1219 cbX12_ruleFor rfl rfl (by decide) (Nat.le_of_ble_eq_true rfl) (fun r7 w8 => ?_)
    refine zS_goto 42 dX12_force_37 (by decide) ?_
    refine zS_sub [] (show _ = [] from rfl) ?_
    exact sX12_force_42 _ _

set_option maxHeartbeats 4000000 in
set_option maxRecDepth 100000 in
theorem sX12_force (v0 : Nat) (v1 : Int32) (v2 : Int32) (v3 : Int32) (h0 : zShp v0 = (12, 25)) (w : zWd) : zS gX12_force zEi 0 [(0, .ref v0), (1, .int v1), (2, .int v2), (3, .int v3)] [] w (mX12_force v0 v1 v2 v3 w) := by
  unfold mX12_force
  refine zS_iload_n 1 rfl 1 rfl dX12_force_0 ?_
  refine zS_iconst 2 rfl (0 : Int32) (by decide) dX12_force_1 ?_
  refine zS_iconst 3 rfl (5 : Int32) (by decide) dX12_force_2 ?_
  refine zS_cSi (as := [.int _, .int _, .int _]) (st := []) (g' := gX12_in) 6 rfl (okX12_in _ _ _ _) dX12_force_3 zw1196 cbX12_in rfl rfl (by decide) (Nat.le_of_ble_eq_true rfl) (fun r1 w2 => ?_)
  refine zS_if_eq 21 9 rfl dX12_force_6 (by decide) ?_ ?_
  · refine zS_sub [] (show _ = [] from rfl) ?_
    exact sX12_force_21 _
  · refine zS_iload_n 10 rfl 1 rfl dX12_force_9 ?_
    refine zS_if_ne 23 13 rfl dX12_force_10 (by decide) ?_ ?_
    · refine zS_aload_n 14 rfl 0 rfl dX12_force_13 ?_
      refine zS_iload_n 15 rfl 2 rfl dX12_force_14 ?_
      refine zS_cVi (as := [.int _]) (st := []) (g' := gX12_isTaker) 18 rfl (okX12_isTaker _ _ _ h0) dX12_force_15 zC12 h0 zw1349 cbX12_isTaker rfl rfl (by decide) (Nat.le_of_ble_eq_true rfl) (fun r3 w4 => ?_)
      refine zS_if_ne 23 21 rfl dX12_force_18 (by decide) ?_ ?_
      · refine zS_sub [] (show _ = [] from rfl) ?_
        exact sX12_force_21 _
      · exact sX12_force_23 _ _ _ _ h0 _
    · exact sX12_force_23 _ _ _ _ h0 _

theorem okX12_force (v0 : Nat) (v1 : Int32) (v2 : Int32) (v3 : Int32) (w : zWd) (h0 : zShp v0 = (12, 25)) : zOk gX12_force zEi [.ref v0, .int v1, .int v2, .int v3] w (mX12_force v0 v1 v2 v3 w) := zOk_of (by decide) rfl (Nat.le_of_ble_eq_true rfl) (sX12_force v0 v1 v2 v3 h0 w)
abbrev gX12_why : zMth := (yX12_why, cX12_why, 5, (some .int), 46, zE0)
theorem cbX12_why : zCbV yX12_why cX12_why 5 (some .int) 3 := ⟨zw1354, zw1355, zw89, zw1356, by decide, by decide, by decide +kernel⟩
set_option maxHeartbeats 4000000 in
set_option maxRecDepth 100000 in
theorem sX12_why_21 (w : zWd) : zS gX12_why zEi 21 [] [] w (mX12_why_21 w) := by
  unfold mX12_why_21
  refine zS_iconst 22 rfl (-1 : Int32) (by decide) dX12_why_21 ?_
  exact zS_reti dX12_why_22 rfl

set_option maxHeartbeats 4000000 in
set_option maxRecDepth 100000 in
theorem sX12_why_67 (s0 : Int32) (w : zWd) : zS gX12_why zEi 67 [] [.int s0] w (mX12_why_67 s0 w) := by
  unfold mX12_why_67
  exact zS_reti dX12_why_67 rfl

set_option maxHeartbeats 4000000 in
set_option maxRecDepth 100000 in
theorem sX12_why_23 (v0 : Nat) (v1 : Int32) (v2 : Int32) (v3 : Int32) (h0 : zShp v0 = (12, 25)) (w : zWd) : zS gX12_why zEi 23 [(0, .ref v0), (1, .int v1), (2, .int v2), (3, .int v3)] [] w (mX12_why_23 v0 v1 v2 v3 w) := by
  unfold mX12_why_23
  refine zS_iload_n 24 rfl 3 rfl dX12_why_23 ?_
  refine zS_cSi (as := [.int _]) (st := []) (g' := gX12_isDay) 27 rfl (okX12_isDay _ _) dX12_why_24 zw1318 cbX12_isDay rfl rfl (by decide) (Nat.le_of_ble_eq_true rfl) (fun r5 w6 => ?_)
  refine zS_if_ne 33 30 rfl dX12_why_27 (by decide) ?_ ?_
  · refine zS_bipush 32 rfl (-2 : Int32) (by decide) dX12_why_30 ?_
    exact zS_reti dX12_why_32 rfl
  · refine zS_aload_n 34 rfl 0 rfl dX12_why_33 ?_
    refine zS_iload_n 35 rfl 1 rfl dX12_why_34 ?_
    refine zS_iload_n 36 rfl 2 rfl dX12_why_35 ?_
    refine zS_iload_n 37 rfl 3 rfl dX12_why_36 ?_
    refine zS_cVi (as := [.int _, .int _, .int _]) (st := []) (g' := gX12_ruling) 40 rfl (okX12_ruling _ _ _ _ _ h0) dX12_why_37 zC12 h0 zw1223 cbX12_ruling rfl rfl (by decide) (Nat.le_of_ble_eq_true rfl) (fun r7 w8 => ?_)
    refine zS_istore 42 rfl dX12_why_40 (by show 4 < 5; decide) (show _ = [(4, .int _), (0, .ref _), (1, .int _), (2, .int _), (3, .int _)] from rfl) ?_
    refine zS_iload 44 rfl 0 rfl dX12_why_42 ?_
    refine zS_iconst 45 rfl (-1 : Int32) (by decide) dX12_why_44 ?_
    refine zS_icmp_ne 53 48 rfl dX12_why_45 (by decide) ?_ ?_
    · refine zS_bipush 50 rfl (-5 : Int32) (by decide) dX12_why_48 ?_
      refine zS_goto 67 dX12_why_50 (by decide) ?_
      refine zS_sub [] (show _ = [] from rfl) ?_
      exact sX12_why_67 _ _
    · refine zS_bipush 55 rfl (100 : Int32) (by decide) dX12_why_53 ?_
      refine zS_iload 57 rfl 0 rfl dX12_why_55 ?_
      refine zS_bipush 59 rfl (8 : Int32) (by decide) dX12_why_57 ?_
      refine zS_idivC 60 rfl dX12_why_59 (by decide) ?_
      refine zS_imul 61 rfl dX12_why_60 ?_
      refine zS_iload 63 rfl 0 rfl dX12_why_61 ?_
      refine zS_bipush 65 rfl (8 : Int32) (by decide) dX12_why_63 ?_
      refine zS_iremC 66 rfl dX12_why_65 (by decide) ?_
      refine zS_iadd 67 rfl dX12_why_66 ?_
      refine zS_sub [] (show _ = [] from rfl) ?_
      exact sX12_why_67 _ _

set_option maxHeartbeats 4000000 in
set_option maxRecDepth 100000 in
theorem sX12_why (v0 : Nat) (v1 : Int32) (v2 : Int32) (v3 : Int32) (h0 : zShp v0 = (12, 25)) (w : zWd) : zS gX12_why zEi 0 [(0, .ref v0), (1, .int v1), (2, .int v2), (3, .int v3)] [] w (mX12_why v0 v1 v2 v3 w) := by
  unfold mX12_why
  refine zS_iload_n 1 rfl 1 rfl dX12_why_0 ?_
  refine zS_iconst 2 rfl (0 : Int32) (by decide) dX12_why_1 ?_
  refine zS_iconst 3 rfl (5 : Int32) (by decide) dX12_why_2 ?_
  refine zS_cSi (as := [.int _, .int _, .int _]) (st := []) (g' := gX12_in) 6 rfl (okX12_in _ _ _ _) dX12_why_3 zw1196 cbX12_in rfl rfl (by decide) (Nat.le_of_ble_eq_true rfl) (fun r1 w2 => ?_)
  refine zS_if_eq 21 9 rfl dX12_why_6 (by decide) ?_ ?_
  · refine zS_sub [] (show _ = [] from rfl) ?_
    exact sX12_why_21 _
  · refine zS_iload_n 10 rfl 1 rfl dX12_why_9 ?_
    refine zS_if_ne 23 13 rfl dX12_why_10 (by decide) ?_ ?_
    · refine zS_aload_n 14 rfl 0 rfl dX12_why_13 ?_
      refine zS_iload_n 15 rfl 2 rfl dX12_why_14 ?_
      refine zS_cVi (as := [.int _]) (st := []) (g' := gX12_isTaker) 18 rfl (okX12_isTaker _ _ _ h0) dX12_why_15 zC12 h0 zw1349 cbX12_isTaker rfl rfl (by decide) (Nat.le_of_ble_eq_true rfl) (fun r3 w4 => ?_)
      refine zS_if_ne 23 21 rfl dX12_why_18 (by decide) ?_ ?_
      · refine zS_sub [] (show _ = [] from rfl) ?_
        exact sX12_why_21 _
      · exact sX12_why_23 _ _ _ _ h0 _
    · exact sX12_why_23 _ _ _ _ h0 _

theorem okX12_why (v0 : Nat) (v1 : Int32) (v2 : Int32) (v3 : Int32) (w : zWd) (h0 : zShp v0 = (12, 25)) : zOk gX12_why zEi [.ref v0, .int v1, .int v2, .int v3] w (mX12_why v0 v1 v2 v3 w) := zOk_of (by decide) rfl (Nat.le_of_ble_eq_true rfl) (sX12_why v0 v1 v2 v3 h0 w)
abbrev gX12_taker : zMth := (yX12_taker, cX12_taker, 7, (some .int), 2, zE0)
theorem cbX12_taker : zCbV yX12_taker cX12_taker 7 (some .int) 5 := ⟨zw1358, zw1359, zw89, zw1360, by decide, by decide, by decide +kernel⟩
set_option maxHeartbeats 4000000 in
set_option maxRecDepth 100000 in
theorem sX12_taker_19 (w : zWd) : zS gX12_taker zEi 19 [] [] w (mX12_taker_19 w) := by
  unfold mX12_taker_19
  refine zS_iconst 20 rfl (-1 : Int32) (by decide) dX12_taker_19 ?_
  exact zS_reti dX12_taker_20 rfl

set_option maxHeartbeats 4000000 in
set_option maxRecDepth 100000 in
theorem sX12_taker_57 (w : zWd) : zS gX12_taker zEi 57 [] [] w (mX12_taker_57 w) := by
  unfold mX12_taker_57
  refine zS_bipush 59 rfl (-2 : Int32) (by decide) dX12_taker_57 ?_
  exact zS_reti dX12_taker_59 rfl

set_option maxHeartbeats 4000000 in
set_option maxRecDepth 100000 in
theorem sX12_taker (v0 : Nat) (v1 : Int32) (v2 : Int32) (v3 : Int32) (v4 : Int32) (v5 : Int32) (h0 : zShp v0 = (12, 25)) (w : zWd) : zS gX12_taker zEi 0 [(0, .ref v0), (1, .int v1), (2, .int v2), (3, .int v3), (4, .int v4), (5, .int v5)] [] w (mX12_taker v0 v1 v2 v3 v4 v5 w) := by
  unfold mX12_taker
  refine zS_iload_n 1 rfl 1 rfl dX12_taker_0 ?_
  refine zS_iconst 2 rfl (0 : Int32) (by decide) dX12_taker_1 ?_
  refine zS_iconst 3 rfl (5 : Int32) (by decide) dX12_taker_2 ?_
  refine zS_cSi (as := [.int _, .int _, .int _]) (st := []) (g' := gX12_in) 6 rfl (okX12_in _ _ _ _) dX12_taker_3 zw1196 cbX12_in rfl rfl (by decide) (Nat.le_of_ble_eq_true rfl) (fun r1 w2 => ?_)
  refine zS_if_eq 19 9 rfl dX12_taker_6 (by decide) ?_ ?_
  · refine zS_sub [] (show _ = [] from rfl) ?_
    exact sX12_taker_19 _
  · refine zS_iload_n 10 rfl 2 rfl dX12_taker_9 ?_
    refine zS_iconst 11 rfl (0 : Int32) (by decide) dX12_taker_10 ?_
    refine zS_bipush 13 rfl (11 : Int32) (by decide) dX12_taker_11 ?_
    refine zS_cSi (as := [.int _, .int _, .int _]) (st := []) (g' := gX12_in) 16 rfl (okX12_in _ _ _ _) dX12_taker_13 zw1196 cbX12_in rfl rfl (by decide) (Nat.le_of_ble_eq_true rfl) (fun r3 w4 => ?_)
    refine zS_if_ne 21 19 rfl dX12_taker_16 (by decide) ?_ ?_
    · refine zS_sub [] (show _ = [] from rfl) ?_
      exact sX12_taker_19 _
    · refine zS_iload_n 22 rfl 3 rfl dX12_taker_21 ?_
      refine zS_iconst 23 rfl (1 : Int32) (by decide) dX12_taker_22 ?_
      refine zS_iconst 24 rfl (4 : Int32) (by decide) dX12_taker_23 ?_
      refine zS_cSi (as := [.int _, .int _, .int _]) (st := []) (g' := gX12_in) 27 rfl (okX12_in _ _ _ _) dX12_taker_24 zw1196 cbX12_in rfl rfl (by decide) (Nat.le_of_ble_eq_true rfl) (fun r5 w6 => ?_)
      refine zS_if_eq 57 30 rfl dX12_taker_27 (by decide) ?_ ?_
      · refine zS_sub [] (show _ = [] from rfl) ?_
        exact sX12_taker_57 _
      · refine zS_iload 32 rfl 4 rfl dX12_taker_30 ?_
        refine zS_iconst 33 rfl (0 : Int32) (by decide) dX12_taker_32 ?_
        refine zS_sipush 36 rfl (1500 : Int32) (by decide) dX12_taker_33 ?_
        refine zS_cSi (as := [.int _, .int _, .int _]) (st := []) (g' := gX12_in) 39 rfl (okX12_in _ _ _ _) dX12_taker_36 zw1196 cbX12_in rfl rfl (by decide) (Nat.le_of_ble_eq_true rfl) (fun r7 w8 => ?_)
        refine zS_if_eq 57 42 rfl dX12_taker_39 (by decide) ?_ ?_
        · refine zS_sub [] (show _ = [] from rfl) ?_
          exact sX12_taker_57 _
        · refine zS_iload 44 rfl 5 rfl dX12_taker_42 ?_
          refine zS_iconst 45 rfl (0 : Int32) (by decide) dX12_taker_44 ?_
          refine zS_aload_n 46 rfl 0 rfl dX12_taker_45 ?_
          refine zS_getfp 49 rfl 1 dX12_taker_46 zC12 zw1113 (by decide) rfl h0 ?_
          refine zS_iconst 50 rfl (0 : Int32) (by decide) dX12_taker_49 ?_
          refine zS_iald 51 rfl dX12_taker_50 (zP12_s h0) ?_
          refine zS_cSi (as := [.int _, .int _, .int _]) (st := []) (g' := gX12_in) 54 rfl (okX12_in _ _ _ _) dX12_taker_51 zw1196 cbX12_in rfl rfl (by decide) (Nat.le_of_ble_eq_true rfl) (fun r9 w10 => ?_)
          refine zS_if_ne 60 57 rfl dX12_taker_54 (by decide) ?_ ?_
          · refine zS_sub [] (show _ = [] from rfl) ?_
            exact sX12_taker_57 _
          · refine zS_aload_n 61 rfl 0 rfl dX12_taker_60 ?_
            refine zS_getfp 64 rfl 1 dX12_taker_61 zC12 zw1113 (by decide) rfl h0 ?_
            refine zS_iconst 65 rfl (3 : Int32) (by decide) dX12_taker_64 ?_
            refine zS_iald 66 rfl dX12_taker_65 (zP12_s h0) ?_
            refine zS_bipush 68 rfl (8 : Int32) (by decide) dX12_taker_66 ?_
            refine zS_icmp_ne 74 71 rfl dX12_taker_68 (by decide) ?_ ?_
            · refine zS_bipush 73 rfl (-4 : Int32) (by decide) dX12_taker_71 ?_
              exact zS_reti dX12_taker_73 rfl
            · refine zS_aload_n 75 rfl 0 rfl dX12_taker_74 ?_
              refine zS_getfp 78 rfl 1 dX12_taker_75 zC12 zw1113 (by decide) rfl h0 ?_
              refine zS_iconst 79 rfl (3 : Int32) (by decide) dX12_taker_78 ?_
              refine zS_iald 80 rfl dX12_taker_79 (zP12_s h0) ?_
              refine zS_bni (fun x11 => ?_)
              refine zS_istore 82 rfl dX12_taker_80 (by show 6 < 7; decide) (show _ = [(6, .int _), (0, .ref _), (1, .int _), (2, .int _), (3, .int _), (4, .int _), (5, .int _)] from rfl) ?_
              refine zS_aload_n 83 rfl 1 rfl dX12_taker_82 ?_
              refine zS_getfp 86 rfl 1 dX12_taker_83 zC12 zw1113 (by decide) rfl h0 ?_
              refine zS_sipush 89 rfl (2000 : Int32) (by decide) dX12_taker_86 ?_
              refine zS_iload 91 rfl 0 rfl dX12_taker_89 ?_
              refine zS_iadd 92 rfl dX12_taker_91 ?_
              refine zS_iload_n 93 rfl 2 rfl dX12_taker_92 ?_
              refine zS_iast 94 rfl dX12_taker_93 (zP12_s h0) ?_
              refine zS_bnw (fun w12 => ?_)
              refine zS_aload_n 95 rfl 1 rfl dX12_taker_94 ?_
              refine zS_getfp 98 rfl 1 dX12_taker_95 zC12 zw1113 (by decide) rfl h0 ?_
              refine zS_sipush 101 rfl (2008 : Int32) (by decide) dX12_taker_98 ?_
              refine zS_iload 103 rfl 0 rfl dX12_taker_101 ?_
              refine zS_iadd 104 rfl dX12_taker_103 ?_
              refine zS_iload_n 105 rfl 3 rfl dX12_taker_104 ?_
              refine zS_iast 106 rfl dX12_taker_105 (zP12_s h0) ?_
              refine zS_bnw (fun w13 => ?_)
              refine zS_aload_n 107 rfl 1 rfl dX12_taker_106 ?_
              refine zS_getfp 110 rfl 1 dX12_taker_107 zC12 zw1113 (by decide) rfl h0 ?_
              refine zS_sipush 113 rfl (2016 : Int32) (by decide) dX12_taker_110 ?_
              refine zS_iload 115 rfl 0 rfl dX12_taker_113 ?_
              refine zS_iadd 116 rfl dX12_taker_115 ?_
              refine zS_iload_n 117 rfl 4 rfl dX12_taker_116 ?_
              refine zS_iast 118 rfl dX12_taker_117 (zP12_s h0) ?_
              refine zS_bnw (fun w14 => ?_)
              refine zS_aload_n 119 rfl 1 rfl dX12_taker_118 ?_
              refine zS_getfp 122 rfl 1 dX12_taker_119 zC12 zw1113 (by decide) rfl h0 ?_
              refine zS_sipush 125 rfl (2024 : Int32) (by decide) dX12_taker_122 ?_
              refine zS_iload 127 rfl 0 rfl dX12_taker_125 ?_
              refine zS_iadd 128 rfl dX12_taker_127 ?_
              refine zS_iload 130 rfl 5 rfl dX12_taker_128 ?_
              refine zS_iast 131 rfl dX12_taker_130 (zP12_s h0) ?_
              refine zS_bnw (fun w15 => ?_)
              refine zS_aload_n 132 rfl 1 rfl dX12_taker_131 ?_
              refine zS_getfp 135 rfl 1 dX12_taker_132 zC12 zw1113 (by decide) rfl h0 ?_
              refine zS_sipush 138 rfl (2032 : Int32) (by decide) dX12_taker_135 ?_
              refine zS_iload 140 rfl 0 rfl dX12_taker_138 ?_
              refine zS_iadd 141 rfl dX12_taker_140 ?_
              refine zS_iload 143 rfl 6 rfl dX12_taker_141 ?_
              refine zS_iast 144 rfl dX12_taker_143 (zP12_s h0) ?_
              refine zS_bnw (fun w16 => ?_)
              refine zS_aload_n 145 rfl 1 rfl dX12_taker_144 ?_
              refine zS_getfp 148 rfl 1 dX12_taker_145 zC12 zw1113 (by decide) rfl h0 ?_
              refine zS_sipush 151 rfl (2040 : Int32) (by decide) dX12_taker_148 ?_
              refine zS_iload 153 rfl 0 rfl dX12_taker_151 ?_
              refine zS_iadd 154 rfl dX12_taker_153 ?_
              refine zS_iconst 155 rfl (0 : Int32) (by decide) dX12_taker_154 ?_
              refine zS_iast 156 rfl dX12_taker_155 (zP12_s h0) ?_
              refine zS_bnw (fun w17 => ?_)
              refine zS_aload_n 157 rfl 1 rfl dX12_taker_156 ?_
              refine zS_getfp 160 rfl 1 dX12_taker_157 zC12 zw1113 (by decide) rfl h0 ?_
              refine zS_iconst 161 rfl (3 : Int32) (by decide) dX12_taker_160 ?_
              refine zS_dup2 162 rfl rfl rfl dX12_taker_161 ?_
              refine zS_iald 163 rfl dX12_taker_162 (zP12_s h0) ?_
              refine zS_iconst 164 rfl (1 : Int32) (by decide) dX12_taker_163 ?_
              refine zS_iadd 165 rfl dX12_taker_164 ?_
              refine zS_iast 166 rfl dX12_taker_165 (zP12_s h0) ?_
              refine zS_bnw (fun w18 => ?_)
              refine zS_iload 168 rfl 0 rfl dX12_taker_166 ?_
              exact zS_reti dX12_taker_168 rfl

theorem okX12_taker (v0 : Nat) (v1 : Int32) (v2 : Int32) (v3 : Int32) (v4 : Int32) (v5 : Int32) (w : zWd) (h0 : zShp v0 = (12, 25)) : zOk gX12_taker zEi [.ref v0, .int v1, .int v2, .int v3, .int v4, .int v5] w (mX12_taker v0 v1 v2 v3 v4 v5 w) := zOk_of (by decide) rfl (Nat.le_of_ble_eq_true rfl) (sX12_taker v0 v1 v2 v3 v4 v5 h0 w)
