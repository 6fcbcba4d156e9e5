abbrev gJ0_coder_7d493 : zMth := (yJ0_coder_7d493, cJ0_coder_7d493, 1, (some .byte), 1, zE0)
theorem cbJ0_coder_7d493 : zCbV yJ0_coder_7d493 cJ0_coder_7d493 1 (some .byte) 0 := ⟨zw682, zw683, zw92, zw684, by decide, by decide, by decide +kernel⟩
set_option maxHeartbeats 4000000 in
set_option maxRecDepth 100000 in
theorem sJ0_coder_7d493_14 (s0 : Int32) (w : zWd) : zS gJ0_coder_7d493 zEi 14 [] [.int s0] w (mJ0_coder_7d493_14 s0 w) := by
  unfold mJ0_coder_7d493_14
  exact zS_retn dJ0_coder_7d493_14 rfl

set_option maxHeartbeats 4000000 in
set_option maxRecDepth 100000 in
theorem sJ0_coder_7d493 (v0 : Nat) (h0 : zTS v0) (w : zWd) : zS gJ0_coder_7d493 zEi 0 [(0, .ref v0)] [] w (mJ0_coder_7d493 v0 w) := by
  unfold mJ0_coder_7d493
  refine zS_getC 3 rfl dJ0_coder_7d493_0 zw685 ?_
  refine zS_if_eq 13 6 rfl dJ0_coder_7d493_3 (by decide) ?_ ?_
  · refine zS_iconst 14 rfl (1 : Int32) (by decide) dJ0_coder_7d493_13 ?_
    refine zS_sub [] (show _ = [] from rfl) ?_
    exact sJ0_coder_7d493_14 _ _
  · refine zS_aload_n 7 rfl 0 rfl dJ0_coder_7d493_6 ?_
    refine zS_scod 10 rfl h0 dJ0_coder_7d493_7 zw1513 ?_
    refine zS_goto 14 dJ0_coder_7d493_10 (by decide) ?_
    refine zS_sub [] (show _ = [] from rfl) ?_
    exact sJ0_coder_7d493_14 _ _

theorem okJ0_coder_7d493 (v0 : Nat) (w : zWd) (h0 : zTS v0) : zOk gJ0_coder_7d493 zEi [.ref v0] w (mJ0_coder_7d493 v0 w) := zOk_of (by decide) rfl (Nat.le_of_ble_eq_true rfl) (sJ0_coder_7d493 v0 h0 w)
abbrev gJ0_length_8abf5 : zMth := (yJ0_length_8abf5, cJ0_length_8abf5, 1, (some .int), 2, zE0)
theorem cbJ0_length_8abf5 : zCbV yJ0_length_8abf5 cJ0_length_8abf5 1 (some .int) 0 := ⟨zw678, zw679, zw92, zw680, by decide, by decide, by decide +kernel⟩
set_option maxHeartbeats 4000000 in
set_option maxRecDepth 100000 in
theorem sJ0_length_8abf5 (v0 : Nat) (h0 : zTS v0) (w : zWd) : zS gJ0_length_8abf5 zEi 0 [(0, .ref v0)] [] w (mJ0_length_8abf5 v0 w) := by
  unfold mJ0_length_8abf5
  refine zS_aload_n 1 rfl 0 rfl dJ0_length_8abf5_0 ?_
  refine zS_sval 4 rfl h0 dJ0_length_8abf5_1 zw1512 ?_
  refine zS_sarl 5 rfl (zTS_B h0) dJ0_length_8abf5_4 ?_
  refine zS_aload_n 6 rfl 0 rfl dJ0_length_8abf5_5 ?_
  refine zS_cTi (as := []) (st := [.int _]) (g' := gJ0_coder_7d493) 9 rfl (okJ0_coder_7d493 _ _ h0) dJ0_length_8abf5_6 rfl h0 zw681 cbJ0_coder_7d493 rfl rfl (by decide) (Nat.le_of_ble_eq_true rfl) (fun r1 w2 => ?_)
  refine zS_ishr 10 rfl dJ0_length_8abf5_9 ?_
  exact zS_reti dJ0_length_8abf5_10 rfl

theorem okJ0_length_8abf5 (v0 : Nat) (w : zWd) (h0 : zTS v0) : zOk gJ0_length_8abf5 zEi [.ref v0] w (mJ0_length_8abf5 v0 w) := zOk_of (by decide) rfl (Nat.le_of_ble_eq_true rfl) (sJ0_length_8abf5 v0 h0 w)
abbrev gJ0_isLatin1_aae02 : zMth := (yJ0_isLatin1_aae02, cJ0_isLatin1_aae02, 1, (some .boolean), 1, zE0)
theorem cbJ0_isLatin1_aae02 : zCbV yJ0_isLatin1_aae02 cJ0_isLatin1_aae02 1 (some .boolean) 0 := ⟨zw692, zw693, zw92, zw694, by decide, by decide, by decide +kernel⟩
set_option maxHeartbeats 4000000 in
set_option maxRecDepth 100000 in
theorem sJ0_isLatin1_aae02_18 (s0 : Int32) (w : zWd) : zS gJ0_isLatin1_aae02 zEi 18 [] [.int s0] w (mJ0_isLatin1_aae02_18 s0 w) := by
  unfold mJ0_isLatin1_aae02_18
  exact zS_retb dJ0_isLatin1_aae02_18 rfl

set_option maxHeartbeats 4000000 in
set_option maxRecDepth 100000 in
theorem sJ0_isLatin1_aae02_17 (w : zWd) : zS gJ0_isLatin1_aae02 zEi 17 [] [] w (mJ0_isLatin1_aae02_17 w) := by
  unfold mJ0_isLatin1_aae02_17
  refine zS_iconst 18 rfl (0 : Int32) (by decide) dJ0_isLatin1_aae02_17 ?_
  exact sJ0_isLatin1_aae02_18 _ _

set_option maxHeartbeats 4000000 in
set_option maxRecDepth 100000 in
theorem sJ0_isLatin1_aae02 (v0 : Nat) (h0 : zTS v0) (w : zWd) : zS gJ0_isLatin1_aae02 zEi 0 [(0, .ref v0)] [] w (mJ0_isLatin1_aae02 v0 w) := by
  unfold mJ0_isLatin1_aae02
  refine zS_getC 3 rfl dJ0_isLatin1_aae02_0 zw685 ?_
  refine zS_if_eq 17 6 rfl dJ0_isLatin1_aae02_3 (by decide) ?_ ?_
  · refine zS_sub [] (show _ = [] from rfl) ?_
    exact sJ0_isLatin1_aae02_17 _
  · refine zS_aload_n 7 rfl 0 rfl dJ0_isLatin1_aae02_6 ?_
    refine zS_scod 10 rfl h0 dJ0_isLatin1_aae02_7 zw1513 ?_
    refine zS_if_ne 17 13 rfl dJ0_isLatin1_aae02_10 (by decide) ?_ ?_
    · refine zS_iconst 14 rfl (1 : Int32) (by decide) dJ0_isLatin1_aae02_13 ?_
      refine zS_goto 18 dJ0_isLatin1_aae02_14 (by decide) ?_
      refine zS_sub [] (show _ = [] from rfl) ?_
      exact sJ0_isLatin1_aae02_18 _ _
    · refine zS_sub [] (show _ = [] from rfl) ?_
      exact sJ0_isLatin1_aae02_17 _

theorem okJ0_isLatin1_aae02 (v0 : Nat) (w : zWd) (h0 : zTS v0) : zOk gJ0_isLatin1_aae02 zEi [.ref v0] w (mJ0_isLatin1_aae02 v0 w) := zOk_of (by decide) rfl (Nat.le_of_ble_eq_true rfl) (sJ0_isLatin1_aae02 v0 h0 w)
abbrev gJ3_checkIndex_8e157 : zMth := (yJ3_checkIndex_8e157, cJ3_checkIndex_8e157, 3, (some .int), 1, zE0)
theorem cbJ3_checkIndex_8e157 : zCbS yJ3_checkIndex_8e157 cJ3_checkIndex_8e157 3 (some .int) 3 := ⟨zw704, zw94, zw705, by decide, by decide, by decide +kernel⟩
set_option maxHeartbeats 4000000 in
set_option maxRecDepth 100000 in
theorem sJ3_checkIndex_8e157_9 (v0 : Int32) (v1 : Int32) (v2 : UInt32) (w : zWd) : zS gJ3_checkIndex_8e157 zEi 9 [(0, .int v0), (1, .int v1), (2, .float v2)] [] w (mJ3_checkIndex_8e157_9 v0 v1 v2 w) := by
  unfold mJ3_checkIndex_8e157_9
  exact zS_no

set_option maxHeartbeats 4000000 in
set_option maxRecDepth 100000 in
theorem sJ3_checkIndex_8e157 (v0 : Int32) (v1 : Int32) (v2 : UInt32) (w : zWd) : zS gJ3_checkIndex_8e157 zEi 0 [(0, .int v0), (1, .int v1), (2, .float v2)] [] w (mJ3_checkIndex_8e157 v0 v1 v2 w) := by
  unfold mJ3_checkIndex_8e157
  refine zS_iload_n 1 rfl 0 rfl dJ3_checkIndex_8e157_0 ?_
  refine zS_if_lt 9 4 rfl dJ3_checkIndex_8e157_1 (by decide) ?_ ?_
  · exact sJ3_checkIndex_8e157_9 _ _ _ _
  · refine zS_iload_n 5 rfl 0 rfl dJ3_checkIndex_8e157_4 ?_
    refine zS_iload_n 6 rfl 1 rfl dJ3_checkIndex_8e157_5 ?_
    refine zS_icmp_lt 16 9 rfl dJ3_checkIndex_8e157_6 (by decide) ?_ ?_
    · refine zS_iload_n 17 rfl 0 rfl dJ3_checkIndex_8e157_16 ?_
      exact zS_reti dJ3_checkIndex_8e157_17 rfl
    · exact sJ3_checkIndex_8e157_9 _ _ _ _

theorem okJ3_checkIndex_8e157 (v0 : Int32) (v1 : Int32) (v2 : UInt32) (w : zWd) : zOk gJ3_checkIndex_8e157 zEi [.int v0, .int v1, .float v2] w (mJ3_checkIndex_8e157 v0 v1 v2 w) := zOk_of (by decide) rfl (Nat.le_of_ble_eq_true rfl) (sJ3_checkIndex_8e157 v0 v1 v2 w)
abbrev gJ0_checkIndex_df160 : zMth := (yJ0_checkIndex_df160, cJ0_checkIndex_df160, 2, none, 2, zE0)
theorem cbJ0_checkIndex_df160 : zCbS yJ0_checkIndex_df160 cJ0_checkIndex_df160 2 none 2 := ⟨zw699, zw92, zw700, by decide, by decide, by decide +kernel⟩
set_option maxHeartbeats 4000000 in
set_option maxRecDepth 100000 in
theorem sJ0_checkIndex_df160 (v0 : Int32) (v1 : Int32) (w : zWd) : zS gJ0_checkIndex_df160 zEv 0 [(0, .int v0), (1, .int v1)] [] w (mJ0_checkIndex_df160 v0 v1 w) := by
  unfold mJ0_checkIndex_df160
  refine zS_iload_n 1 rfl 0 rfl dJ0_checkIndex_df160_0 ?_
  refine zS_iload_n 2 rfl 1 rfl dJ0_checkIndex_df160_1 ?_
  refine zS_getF 5 rfl dJ0_checkIndex_df160_2 zw701 ?_
  refine zS_cSi (as := [.int _, .int _, .float _]) (st := []) (g' := gJ3_checkIndex_8e157) 8 rfl (okJ3_checkIndex_8e157 _ _ _ _) dJ0_checkIndex_df160_5 zw703 cbJ3_checkIndex_8e157 rfl rfl (by decide) (Nat.le_of_ble_eq_true rfl) (fun r1 w2 => ?_)
  refine zS_pop 9 rfl rfl dJ0_checkIndex_df160_8 ?_
  exact zS_retv dJ0_checkIndex_df160_9 rfl

theorem okJ0_checkIndex_df160 (v0 : Int32) (v1 : Int32) (w : zWd) : zOk gJ0_checkIndex_df160 zEv [.int v0, .int v1] w (mJ0_checkIndex_df160 v0 v1 w) := zOk_of (by decide) rfl (Nat.le_of_ble_eq_true rfl) (sJ0_checkIndex_df160 v0 v1 w)
abbrev gJ1_charAt_3b067 : zMth := (yJ1_charAt_3b067, cJ1_charAt_3b067, 2, (some .char), 3, zE0)
theorem cbJ1_charAt_3b067 : zCbS yJ1_charAt_3b067 cJ1_charAt_3b067 2 (some .char) 2 := ⟨zw696, zw93, zw697, by decide, by decide, by decide +kernel⟩
set_option maxHeartbeats 4000000 in
set_option maxRecDepth 100000 in
theorem sJ1_charAt_3b067 (v0 : Nat) (v1 : Int32) (h0 : zTB v0) (w : zWd) : zS gJ1_charAt_3b067 zEi 0 [(0, .ref v0), (1, .int v1)] [] w (mJ1_charAt_3b067 v0 v1 w) := by
  unfold mJ1_charAt_3b067
  refine zS_iload_n 1 rfl 1 rfl dJ1_charAt_3b067_0 ?_
  refine zS_aload_n 2 rfl 0 rfl dJ1_charAt_3b067_1 ?_
  refine zS_sarl 3 rfl h0 dJ1_charAt_3b067_2 ?_
  refine zS_cSv (as := [.int _, .int _]) (st := []) (g' := gJ0_checkIndex_df160) 6 rfl (okJ0_checkIndex_df160 _ _ _) dJ1_charAt_3b067_3 zw698 cbJ0_checkIndex_df160 rfl rfl (by decide) (Nat.le_of_ble_eq_true rfl) (fun r1 w2 => ?_)
  refine zS_aload_n 7 rfl 0 rfl dJ1_charAt_3b067_6 ?_
  refine zS_iload_n 8 rfl 1 rfl dJ1_charAt_3b067_7 ?_
  refine zS_sbal 9 rfl h0 dJ1_charAt_3b067_8 ?_
  refine zS_sipush 12 rfl (255 : Int32) (by decide) dJ1_charAt_3b067_9 ?_
  refine zS_iand 13 rfl dJ1_charAt_3b067_12 ?_
  refine zS_i2c 14 rfl dJ1_charAt_3b067_13 ?_
  exact zS_retn dJ1_charAt_3b067_14 rfl

theorem okJ1_charAt_3b067 (v0 : Nat) (v1 : Int32) (w : zWd) (h0 : zTB v0) : zOk gJ1_charAt_3b067 zEi [.ref v0, .int v1] w (mJ1_charAt_3b067 v0 v1 w) := zOk_of (by decide) rfl (Nat.le_of_ble_eq_true rfl) (sJ1_charAt_3b067 v0 v1 h0 w)
abbrev gJ0_charAt_5068e : zMth := (yJ0_charAt_5068e, cJ0_charAt_5068e, 2, (some .char), 4, zE0)
theorem cbJ0_charAt_5068e : zCbV yJ0_charAt_5068e cJ0_charAt_5068e 2 (some .char) 1 := ⟨zw688, zw689, zw92, zw690, by decide, by decide, by decide +kernel⟩
set_option maxHeartbeats 4000000 in
set_option maxRecDepth 100000 in
theorem sJ0_charAt_5068e (v0 : Nat) (v1 : Int32) (h0 : zTS v0) (w : zWd) : zS gJ0_charAt_5068e zEi 0 [(0, .ref v0), (1, .int v1)] [] w (mJ0_charAt_5068e v0 v1 w) := by
  unfold mJ0_charAt_5068e
  refine zS_aload_n 1 rfl 0 rfl dJ0_charAt_5068e_0 ?_
  refine zS_cTi (as := []) (st := []) (g' := gJ0_isLatin1_aae02) 4 rfl (okJ0_isLatin1_aae02 _ _ h0) dJ0_charAt_5068e_1 rfl h0 zw691 cbJ0_isLatin1_aae02 rfl rfl (by decide) (Nat.le_of_ble_eq_true rfl) (fun r1 w2 => ?_)
  refine zS_if_eq 16 7 rfl dJ0_charAt_5068e_4 (by decide) ?_ ?_
  · refine zS_aload_n 17 rfl 0 rfl dJ0_charAt_5068e_16 ?_
    refine zS_sval 20 rfl h0 dJ0_charAt_5068e_17 zw1512 ?_
    refine zS_iload_n 21 rfl 1 rfl dJ0_charAt_5068e_20 ?_
    exact zS_no
  · refine zS_aload_n 8 rfl 0 rfl dJ0_charAt_5068e_7 ?_
    refine zS_sval 11 rfl h0 dJ0_charAt_5068e_8 zw1512 ?_
    refine zS_iload_n 12 rfl 1 rfl dJ0_charAt_5068e_11 ?_
    refine zS_cSi (as := [.ref _, .int _]) (st := []) (g' := gJ1_charAt_3b067) 15 rfl (okJ1_charAt_3b067 _ _ _ (zTS_B h0)) dJ0_charAt_5068e_12 zw695 cbJ1_charAt_3b067 rfl rfl (by decide) (Nat.le_of_ble_eq_true rfl) (fun r3 w4 => ?_)
    exact zS_retn dJ0_charAt_5068e_15 rfl

theorem okJ0_charAt_5068e (v0 : Nat) (v1 : Int32) (w : zWd) (h0 : zTS v0) : zOk gJ0_charAt_5068e zEi [.ref v0, .int v1] w (mJ0_charAt_5068e v0 v1 w) := zOk_of (by decide) rfl (Nat.le_of_ble_eq_true rfl) (sJ0_charAt_5068e v0 v1 h0 w)
abbrev gX4_countSame : zMth := (yX4_countSame, cX4_countSame, 3, (some .int), 5, zE0)
theorem cbX4_countSame : zCbV yX4_countSame cX4_countSame 3 (some .int) 1 := ⟨zw675, zw12, zw85, zw676, by decide, by decide, by decide +kernel⟩
set_option maxHeartbeats 4000000 in
set_option maxRecDepth 100000 in
theorem sX4_countSame_48 (v2 : Int32) (w : zWd) : zS gX4_countSame zEi 48 [(2, .int v2)] [] w (mX4_countSame_48 v2 w) := by
  unfold mX4_countSame_48
  refine zS_iload_n 49 rfl 0 rfl dX4_countSame_48 ?_
  exact zS_reti dX4_countSame_49 rfl

set_option maxHeartbeats 4000000 in
set_option maxRecDepth 100000 in
theorem sX4_countSame_2b (v0 : Nat) (v1 : Nat) (k2 : Int32 × zWd → Option (Int32 × zWd)) (v2 : Int32) (hk2 : ∀ (v2 : Int32) (w : zWd), zS gX4_countSame zEi 2 [(0, .ref v0), (1, .ref v1), (2, .int v2)] [] w (k2 (v2, w))) (h0 : zShp v0 = (4, 4)) (h1 : zTS v1) (w : zWd) : zS gX4_countSame zEi 2 [(0, .ref v0), (1, .ref v1), (2, .int v2)] [] w (mX4_countSame_2b v0 v1 k2 v2 w) := by
  unfold mX4_countSame_2b
  refine zS_iload_n 3 rfl 2 rfl dX4_countSame_2 ?_
  refine zS_aload_n 4 rfl 1 rfl dX4_countSame_3 ?_
  refine zS_cTi (as := []) (st := [.int _]) (g' := gJ0_length_8abf5) 7 rfl (okJ0_length_8abf5 _ _ h1) dX4_countSame_4 rfl h1 zw677 cbJ0_length_8abf5 rfl rfl (by decide) (Nat.le_of_ble_eq_true rfl) (fun r1 w2 => ?_)
  refine zS_icmp_ge 56 10 rfl dX4_countSame_7 (by decide) ?_ ?_
  · refine zS_aload_n 57 rfl 1 rfl dX4_countSame_56 ?_
    refine zS_cTi (as := []) (st := []) (g' := gJ0_length_8abf5) 60 rfl (okJ0_length_8abf5 _ _ h1) dX4_countSame_57 rfl h1 zw677 cbJ0_length_8abf5 rfl rfl (by decide) (Nat.le_of_ble_eq_true rfl) (fun r3 w4 => ?_)
    exact zS_reti dX4_countSame_60 rfl
  · refine zS_aload_n 11 rfl 0 rfl dX4_countSame_10 ?_
    refine zS_getfi 14 rfl 2 dX4_countSame_11 zC4 zw379 (by decide) rfl h0 ?_
    refine zS_iload_n 15 rfl 2 rfl dX4_countSame_14 ?_
    refine zS_iadd 16 rfl dX4_countSame_15 ?_
    refine zS_aload_n 17 rfl 0 rfl dX4_countSame_16 ?_
    refine zS_getfd 20 rfl 0 dX4_countSame_17 zC4 zw377 (by decide) rfl h0 ?_
    refine zS_gd (fun g5 => ?_)
    refine zS_getfi 23 rfl 0 dX4_countSame_20 zC9 zw172 (by decide) rfl g5 ?_
    refine zS_icmp_ge 48 26 rfl dX4_countSame_23 (by decide) ?_ ?_
    · refine zS_sub [2] (show _ = [(2, .int _)] from rfl) ?_
      exact sX4_countSame_48 _ _
    · refine zS_aload_n 27 rfl 0 rfl dX4_countSame_26 ?_
      refine zS_getfd 30 rfl 0 dX4_countSame_27 zC4 zw377 (by decide) rfl h0 ?_
      refine zS_gd (fun g6 => ?_)
      refine zS_getfp 33 rfl 1 dX4_countSame_30 zC9 zw175 (by decide) rfl g6 ?_
      refine zS_aload_n 34 rfl 0 rfl dX4_countSame_33 ?_
      refine zS_getfi 37 rfl 2 dX4_countSame_34 zC4 zw379 (by decide) rfl h0 ?_
      refine zS_iload_n 38 rfl 2 rfl dX4_countSame_37 ?_
      refine zS_iadd 39 rfl dX4_countSame_38 ?_
      refine zS_iald 40 rfl dX4_countSame_39 (zP9_bytes g6) ?_
      refine zS_aload_n 41 rfl 1 rfl dX4_countSame_40 ?_
      refine zS_iload_n 42 rfl 2 rfl dX4_countSame_41 ?_
      refine zS_cTi (as := [.int _]) (st := [.int _]) (g' := gJ0_charAt_5068e) 45 rfl (okJ0_charAt_5068e _ _ _ h1) dX4_countSame_42 rfl h1 zw687 cbJ0_charAt_5068e rfl rfl (by decide) (Nat.le_of_ble_eq_true rfl) (fun r7 w8 => ?_)
      refine zS_icmp_eq 50 48 rfl dX4_countSame_45 (by decide) ?_ ?_
      · refine zS_iinc 53 rfl 2 (_ + (1 : Int32)) dX4_countSame_50 rfl (by show 2 < 3; decide) rfl (show _ = [(2, .int _), (0, .ref _), (1, .ref _)] from rfl) ?_
        refine zS_goto 2 dX4_countSame_53 (by decide) ?_
        refine zS_sub [1, 2, 0] (show _ = [(0, .ref _), (1, .ref _), (2, .int _)] from rfl) ?_
        exact hk2 _ _
      · refine zS_sub [2] (show _ = [(2, .int _)] from rfl) ?_
        exact sX4_countSame_48 _ _

theorem sX4_countSame_2 (v0 : Nat) (v1 : Nat) (v2 : Int32) (h0 : zShp v0 = (4, 4)) (h1 : zTS v1) (w : zWd) : zS gX4_countSame zEi 2 [(0, .ref v0), (1, .ref v1), (2, .int v2)] [] w (mX4_countSame_2 v0 v1 v2 w) :=
  zS_loop (L := fun q : Int32 × zWd => [(0, .ref v0), (1, .ref v1), (2, .int q.1)]) (V := fun q => q.2) (T := fun _ => []) (F := fun k q => mX4_countSame_2b v0 v1 k q.1 q.2) (fun k hk q => sX4_countSame_2b v0 v1 k q.1 (fun a2 w => hk (a2, w)) h0 h1 q.2) zFU (v2, w)
set_option maxHeartbeats 4000000 in
set_option maxRecDepth 100000 in
theorem sX4_countSame (v0 : Nat) (v1 : Nat) (h0 : zShp v0 = (4, 4)) (h1 : zTS v1) (w : zWd) : zS gX4_countSame zEi 0 [(0, .ref v0), (1, .ref v1)] [] w (mX4_countSame v0 v1 w) := by
  unfold mX4_countSame
  refine zS_iconst 1 rfl (0 : Int32) (by decide) dX4_countSame_0 ?_
  refine zS_istore_n 2 rfl dX4_countSame_1 (by show 2 < 3; decide) (show _ = [(2, .int _), (0, .ref _), (1, .ref _)] from rfl) ?_
  refine zS_sub [1, 2, 0] (show _ = [(0, .ref _), (1, .ref _), (2, .int _)] from rfl) ?_
  exact sX4_countSame_2 _ _ _ h0 h1 _

theorem okX4_countSame (v0 : Nat) (v1 : Nat) (w : zWd) (h0 : zShp v0 = (4, 4)) (h1 : zTS v1) : zOk gX4_countSame zEi [.ref v0, .ref v1] w (mX4_countSame v0 v1 w) := zOk_of (by decide) rfl (Nat.le_of_ble_eq_true rfl) (sX4_countSame v0 v1 h0 h1 w)
abbrev gX4_readWord : zMth := (yX4_readWord, cX4_readWord, 5, (some .int), 6, zE0)
theorem cbX4_readWord : zCbV yX4_readWord cX4_readWord 5 (some .int) 0 := ⟨zw662, zw11, zw85, zw663, by decide, by decide, by decide +kernel⟩
set_option maxHeartbeats 4000000 in
set_option maxRecDepth 100000 in
theorem sX4_readWord_4b (v0 : Nat) (k4 : Int32 × Int32 × zWd → Option (Int32 × zWd)) (v1 : Int32) (v2 : Int32) (hk4 : ∀ (v1 : Int32) (v2 : Int32) (w : zWd), zS gX4_readWord zEi 4 [(0, .ref v0), (1, .int v1), (2, .int v2)] [] w (k4 (v1, v2, w))) (h0 : zShp v0 = (4, 4)) (w : zWd) : zS gX4_readWord zEi 4 [(0, .ref v0), (1, .int v1), (2, .int v2)] [] w (mX4_readWord_4b v0 k4 v1 v2 w) := by
  unfold mX4_readWord_4b
  refine zS_iload_n 5 rfl 2 rfl dX4_readWord_4 ?_
  refine zS_bipush 7 rfl (6 : Int32) (by decide) dX4_readWord_5 ?_
  refine zS_icmp_ge 57 10 rfl dX4_readWord_7 (by decide) ?_ ?_
  · refine zS_aload_n 58 rfl 0 rfl dX4_readWord_57 ?_
    refine zS_dup 59 rfl rfl dX4_readWord_58 ?_
    refine zS_getfi 62 rfl 2 dX4_readWord_59 zC4 zw379 (by decide) rfl h0 ?_
    refine zS_iload_n 63 rfl 1 rfl dX4_readWord_62 ?_
    refine zS_iadd 64 rfl dX4_readWord_63 ?_
    refine zS_putfi 67 rfl 2 dX4_readWord_64 zC4 zw379 (by decide) rfl rfl rfl h0 ?_
    refine zS_bnw (fun w1 => ?_)
    refine zS_aload_n 68 rfl 0 rfl dX4_readWord_67 ?_
    refine zS_iconst 69 rfl (1 : Int32) (by decide) dX4_readWord_68 ?_
    refine zS_putfb 72 rfl 3 dX4_readWord_69 zC4 zw380 (by decide) rfl rfl rfl h0 ?_
    refine zS_bnw (fun w2 => ?_)
    refine zS_iconst 73 rfl (-1 : Int32) (by decide) dX4_readWord_72 ?_
    exact zS_reti dX4_readWord_73 rfl
  · refine zS_iload_n 11 rfl 2 rfl dX4_readWord_10 ?_
    refine zS_cSr (as := [.int _]) (st := []) (g' := gX4_lettersOf) 14 rfl (okX4_lettersOf _ _) dX4_readWord_11 zw664 cbX4_lettersOf rfl rfl (by decide) (Nat.le_of_ble_eq_true rfl) (fun r3 w4 => ?_)
    refine zS_gd (fun g5 => ?_)
    refine zS_astore_n 15 rfl dX4_readWord_14 (by show 3 < 5; decide) (show _ = [(3, .ref _), (0, .ref _), (1, .int _), (2, .int _)] from rfl) ?_
    refine zS_aload_n 16 rfl 1 rfl dX4_readWord_15 ?_
    refine zS_aload_n 17 rfl 0 rfl dX4_readWord_16 ?_
    refine zS_cVi (as := [.ref _]) (st := []) (g' := gX4_countSame) 20 rfl (okX4_countSame _ _ _ h0 g5) dX4_readWord_17 zC4 h0 zw673 cbX4_countSame rfl rfl (by decide) (Nat.le_of_ble_eq_true rfl) (fun r6 w7 => ?_)
    refine zS_istore 22 rfl dX4_readWord_20 (by show 4 < 5; decide) (show _ = [(4, .int _), (3, .ref _), (0, .ref _), (1, .int _), (2, .int _)] from rfl) ?_
    refine zS_iload 24 rfl 0 rfl dX4_readWord_22 ?_
    refine zS_aload_n 25 rfl 1 rfl dX4_readWord_24 ?_
    refine zS_cTi (as := []) (st := [.int _]) (g' := gJ0_length_8abf5) 28 rfl (okJ0_length_8abf5 _ _ g5) dX4_readWord_25 rfl g5 zw677 cbJ0_length_8abf5 rfl rfl (by decide) (Nat.le_of_ble_eq_true rfl) (fun r8 w9 => ?_)
    refine zS_icmp_ne 44 31 rfl dX4_readWord_28 (by decide) ?_ ?_
    · refine zS_aload_n 32 rfl 2 rfl dX4_readWord_31 ?_
      refine zS_dup 33 rfl rfl dX4_readWord_32 ?_
      refine zS_getfi 36 rfl 2 dX4_readWord_33 zC4 zw379 (by decide) rfl h0 ?_
      refine zS_iload 38 rfl 0 rfl dX4_readWord_36 ?_
      refine zS_iadd 39 rfl dX4_readWord_38 ?_
      refine zS_putfi 42 rfl 2 dX4_readWord_39 zC4 zw379 (by decide) rfl rfl rfl h0 ?_
      refine zS_bnw (fun w10 => ?_)
      refine zS_iload_n 43 rfl 4 rfl dX4_readWord_42 ?_
      exact zS_reti dX4_readWord_43 rfl
    · refine zS_iload_n 45 rfl 3 rfl dX4_readWord_44 ?_
      refine zS_iload 47 rfl 0 rfl dX4_readWord_45 ?_
      refine zS_mmax 50 rfl dX4_readWord_47 zw725 zw599 zw90 zw600 (by decide) (Nat.le_of_ble_eq_true rfl) ?_
      refine zS_bni (fun x11 => ?_)
      refine zS_istore_n 51 rfl dX4_readWord_50 (by show 1 < 5; decide) (show _ = [(1, .int _), (4, .int _), (3, .ref _), (0, .ref _), (2, .int _)] from rfl) ?_
      refine zS_iinc 54 rfl 4 (_ + (1 : Int32)) dX4_readWord_51 rfl (by show 2 < 5; decide) rfl (show _ = [(2, .int _), (1, .int _), (4, .int _), (3, .ref _), (0, .ref _)] from rfl) ?_
      refine zS_goto 4 dX4_readWord_54 (by decide) ?_
      refine zS_sub [4, 1, 0] (show _ = [(0, .ref _), (1, .int _), (2, .int _)] from rfl) ?_
      exact hk4 _ _ _

theorem sX4_readWord_4 (v0 : Nat) (v1 : Int32) (v2 : Int32) (h0 : zShp v0 = (4, 4)) (w : zWd) : zS gX4_readWord zEi 4 [(0, .ref v0), (1, .int v1), (2, .int v2)] [] w (mX4_readWord_4 v0 v1 v2 w) :=
  zS_loop (L := fun q : Int32 × Int32 × zWd => [(0, .ref v0), (1, .int q.1), (2, .int q.2.1)]) (V := fun q => q.2.2) (T := fun _ => []) (F := fun k q => mX4_readWord_4b v0 k q.1 q.2.1 q.2.2) (fun k hk q => sX4_readWord_4b v0 k q.1 q.2.1 (fun a1 a2 w => hk (a1, a2, w)) h0 q.2.2) zFU (v1, v2, w)
set_option maxHeartbeats 4000000 in
set_option maxRecDepth 100000 in
theorem sX4_readWord (v0 : Nat) (h0 : zShp v0 = (4, 4)) (w : zWd) : zS gX4_readWord zEi 0 [(0, .ref v0)] [] w (mX4_readWord v0 w) := by
  unfold mX4_readWord
  refine zS_iconst 1 rfl (0 : Int32) (by decide) dX4_readWord_0 ?_
  refine zS_istore_n 2 rfl dX4_readWord_1 (by show 1 < 5; decide) (show _ = [(1, .int _), (0, .ref _)] from rfl) ?_
  refine zS_iconst 3 rfl (0 : Int32) (by decide) dX4_readWord_2 ?_
  refine zS_istore_n 4 rfl dX4_readWord_3 (by show 2 < 5; decide) (show _ = [(2, .int _), (1, .int _), (0, .ref _)] from rfl) ?_
  refine zS_sub [2, 1, 0] (show _ = [(0, .ref _), (1, .int _), (2, .int _)] from rfl) ?_
  exact sX4_readWord_4 _ _ _ h0 _

theorem okX4_readWord (v0 : Nat) (w : zWd) (h0 : zShp v0 = (4, 4)) : zOk gX4_readWord zEi [.ref v0] w (mX4_readWord v0 w) := zOk_of (by decide) rfl (Nat.le_of_ble_eq_true rfl) (sX4_readWord v0 h0 w)
abbrev gX4_take : zMth := (yX4_take, cX4_take, 2, (some .boolean), 1, zE0)
theorem cbX4_take : zCbV yX4_take cX4_take 2 (some .boolean) 1 := ⟨zw732, zw14, zw85, zw733, by decide, by decide, by decide +kernel⟩
set_option maxHeartbeats 4000000 in
set_option maxRecDepth 100000 in
theorem sX4_take_37 (w : zWd) : zS gX4_take zEi 37 [] [] w (mX4_take_37 w) := by
  unfold mX4_take_37
  refine zS_iconst 38 rfl (0 : Int32) (by decide) dX4_take_37 ?_
  exact zS_retb dX4_take_38 rfl

set_option maxHeartbeats 4000000 in
set_option maxRecDepth 100000 in
theorem sX4_take (v0 : Nat) (v1 : Int32) (h0 : zShp v0 = (4, 4)) (w : zWd) : zS gX4_take zEi 0 [(0, .ref v0), (1, .int v1)] [] w (mX4_take v0 v1 w) := by
  unfold mX4_take
  refine zS_aload_n 1 rfl 0 rfl dX4_take_0 ?_
  refine zS_getfi 4 rfl 3 dX4_take_1 zC4 zw380 (by decide) rfl h0 ?_
  refine zS_if_ne 37 7 rfl dX4_take_4 (by decide) ?_ ?_
  · refine zS_aload_n 8 rfl 0 rfl dX4_take_7 ?_
    refine zS_getfi 11 rfl 2 dX4_take_8 zC4 zw379 (by decide) rfl h0 ?_
    refine zS_aload_n 12 rfl 0 rfl dX4_take_11 ?_
    refine zS_getfd 15 rfl 0 dX4_take_12 zC4 zw377 (by decide) rfl h0 ?_
    refine zS_gd (fun g1 => ?_)
    refine zS_getfi 18 rfl 0 dX4_take_15 zC9 zw172 (by decide) rfl g1 ?_
    refine zS_icmp_ge 37 21 rfl dX4_take_18 (by decide) ?_ ?_
    · refine zS_sub [] (show _ = [] from rfl) ?_
      exact sX4_take_37 _
    · refine zS_aload_n 22 rfl 0 rfl dX4_take_21 ?_
      refine zS_getfd 25 rfl 0 dX4_take_22 zC4 zw377 (by decide) rfl h0 ?_
      refine zS_gd (fun g2 => ?_)
      refine zS_getfp 28 rfl 1 dX4_take_25 zC9 zw175 (by decide) rfl g2 ?_
      refine zS_aload_n 29 rfl 0 rfl dX4_take_28 ?_
      refine zS_getfi 32 rfl 2 dX4_take_29 zC4 zw379 (by decide) rfl h0 ?_
      refine zS_iald 33 rfl dX4_take_32 (zP9_bytes g2) ?_
      refine zS_iload_n 34 rfl 1 rfl dX4_take_33 ?_
      refine zS_icmp_eq 39 37 rfl dX4_take_34 (by decide) ?_ ?_
      · refine zS_aload_n 40 rfl 0 rfl dX4_take_39 ?_
        refine zS_dup 41 rfl rfl dX4_take_40 ?_
        refine zS_getfi 44 rfl 2 dX4_take_41 zC4 zw379 (by decide) rfl h0 ?_
        refine zS_iconst 45 rfl (1 : Int32) (by decide) dX4_take_44 ?_
        refine zS_iadd 46 rfl dX4_take_45 ?_
        refine zS_putfi 49 rfl 2 dX4_take_46 zC4 zw379 (by decide) rfl rfl rfl h0 ?_
        refine zS_bnw (fun w3 => ?_)
        refine zS_iconst 50 rfl (1 : Int32) (by decide) dX4_take_49 ?_
        exact zS_retb dX4_take_50 rfl
      · refine zS_sub [] (show _ = [] from rfl) ?_
        exact sX4_take_37 _
  · refine zS_sub [] (show _ = [] from rfl) ?_
    exact sX4_take_37 _

theorem okX4_take (v0 : Nat) (v1 : Int32) (w : zWd) (h0 : zShp v0 = (4, 4)) : zOk gX4_take zEi [.ref v0, .int v1] w (mX4_take v0 v1 w) := zOk_of (by decide) rfl (Nat.le_of_ble_eq_true rfl) (sX4_take v0 v1 h0 w)
abbrev gX4_need : zMth := (yX4_need, cX4_need, 2, none, 2, zE0)
theorem cbX4_need : zCbV yX4_need cX4_need 2 none 1 := ⟨zw728, zw13, zw85, zw729, by decide, by decide, by decide +kernel⟩
set_option maxHeartbeats 4000000 in
set_option maxRecDepth 100000 in
theorem sX4_need_13 (w : zWd) : zS gX4_need zEv 13 [] [] w (mX4_need_13 w) := by
  unfold mX4_need_13
  exact zS_retv dX4_need_13 rfl

set_option maxHeartbeats 4000000 in
set_option maxRecDepth 100000 in
theorem sX4_need (v0 : Nat) (v1 : Int32) (h0 : zShp v0 = (4, 4)) (w : zWd) : zS gX4_need zEv 0 [(0, .ref v0), (1, .int v1)] [] w (mX4_need v0 v1 w) := by
  unfold mX4_need
  refine zS_aload_n 1 rfl 0 rfl dX4_need_0 ?_
  refine zS_iload_n 2 rfl 1 rfl dX4_need_1 ?_
  refine zS_cVi (as := [.int _]) (st := []) (g' := gX4_take) 5 rfl (okX4_take _ _ _ h0) dX4_need_2 zC4 h0 zw730 cbX4_take rfl rfl (by decide) (Nat.le_of_ble_eq_true rfl) (fun r1 w2 => ?_)
  refine zS_if_ne 13 8 rfl dX4_need_5 (by decide) ?_ ?_
  · refine zS_aload_n 9 rfl 0 rfl dX4_need_8 ?_
    refine zS_iconst 10 rfl (1 : Int32) (by decide) dX4_need_9 ?_
    refine zS_putfb 13 rfl 3 dX4_need_10 zC4 zw380 (by decide) rfl rfl rfl h0 ?_
    refine zS_bnw (fun w3 => ?_)
    refine zS_sub [] (show _ = [] from rfl) ?_
    exact sX4_need_13 _
  · refine zS_sub [] (show _ = [] from rfl) ?_
    exact sX4_need_13 _

theorem okX4_need (v0 : Nat) (v1 : Int32) (w : zWd) (h0 : zShp v0 = (4, 4)) : zOk gX4_need zEv [.ref v0, .int v1] w (mX4_need v0 v1 w) := zOk_of (by decide) rfl (Nat.le_of_ble_eq_true rfl) (sX4_need v0 v1 h0 w)
abbrev gX4_now : zMth := (yX4_now, cX4_now, 1, (some .int), 1, zE0)
theorem cbX4_now : zCbV yX4_now cX4_now 1 (some .int) 0 := ⟨zw740, zw16, zw85, zw741, by decide, by decide, by decide +kernel⟩
set_option maxHeartbeats 4000000 in
set_option maxRecDepth 100000 in
theorem sX4_now_37 (s0 : Int32) (w : zWd) : zS gX4_now zEi 37 [] [.int s0] w (mX4_now_37 s0 w) := by
  unfold mX4_now_37
  exact zS_reti dX4_now_37 rfl

set_option maxHeartbeats 4000000 in
set_option maxRecDepth 100000 in
theorem sX4_now_21 (w : zWd) : zS gX4_now zEi 21 [] [] w (mX4_now_21 w) := by
  unfold mX4_now_21
  refine zS_iconst 22 rfl (-1 : Int32) (by decide) dX4_now_21 ?_
  refine zS_goto 37 dX4_now_22 (by decide) ?_
  exact sX4_now_37 _ _

set_option maxHeartbeats 4000000 in
set_option maxRecDepth 100000 in
theorem sX4_now (v0 : Nat) (h0 : zShp v0 = (4, 4)) (w : zWd) : zS gX4_now zEi 0 [(0, .ref v0)] [] w (mX4_now v0 w) := by
  unfold mX4_now
  refine zS_aload_n 1 rfl 0 rfl dX4_now_0 ?_
  refine zS_getfi 4 rfl 3 dX4_now_1 zC4 zw380 (by decide) rfl h0 ?_
  refine zS_if_ne 21 7 rfl dX4_now_4 (by decide) ?_ ?_
  · refine zS_aload_n 8 rfl 0 rfl dX4_now_7 ?_
    refine zS_getfi 11 rfl 2 dX4_now_8 zC4 zw379 (by decide) rfl h0 ?_
    refine zS_aload_n 12 rfl 0 rfl dX4_now_11 ?_
    refine zS_getfd 15 rfl 0 dX4_now_12 zC4 zw377 (by decide) rfl h0 ?_
    refine zS_gd (fun g1 => ?_)
    refine zS_getfi 18 rfl 0 dX4_now_15 zC9 zw172 (by decide) rfl g1 ?_
    refine zS_icmp_lt 25 21 rfl dX4_now_18 (by decide) ?_ ?_
    · refine zS_aload_n 26 rfl 0 rfl dX4_now_25 ?_
      refine zS_getfd 29 rfl 0 dX4_now_26 zC4 zw377 (by decide) rfl h0 ?_
      refine zS_gd (fun g2 => ?_)
      refine zS_getfp 32 rfl 1 dX4_now_29 zC9 zw175 (by decide) rfl g2 ?_
      refine zS_aload_n 33 rfl 0 rfl dX4_now_32 ?_
      refine zS_getfi 36 rfl 2 dX4_now_33 zC4 zw379 (by decide) rfl h0 ?_
      refine zS_iald 37 rfl dX4_now_36 (zP9_bytes g2) ?_
      refine zS_sub [] (show _ = [] from rfl) ?_
      exact sX4_now_37 _ _
    · refine zS_sub [] (show _ = [] from rfl) ?_
      exact sX4_now_21 _
  · refine zS_sub [] (show _ = [] from rfl) ?_
    exact sX4_now_21 _

theorem okX4_now (v0 : Nat) (w : zWd) (h0 : zShp v0 = (4, 4)) : zOk gX4_now zEi [.ref v0] w (mX4_now v0 w) := zOk_of (by decide) rfl (Nat.le_of_ble_eq_true rfl) (sX4_now v0 h0 w)
abbrev gX4_readShare : zMth := (yX4_readShare, cX4_readShare, 2, (some .int), 2, zE0)
theorem cbX4_readShare : zCbV yX4_readShare cX4_readShare 2 (some .int) 0 := ⟨zw736, zw15, zw85, zw737, by decide, by decide, by decide +kernel⟩
set_option maxHeartbeats 4000000 in
set_option maxRecDepth 100000 in
theorem sX4_readShare_17 (v0 : Nat) (h0 : zShp v0 = (4, 4)) (w : zWd) : zS gX4_readShare zEi 17 [(0, .ref v0)] [] w (mX4_readShare_17 v0 w) := by
  unfold mX4_readShare_17
  refine zS_aload_n 18 rfl 0 rfl dX4_readShare_17 ?_
  refine zS_iconst 19 rfl (1 : Int32) (by decide) dX4_readShare_18 ?_
  refine zS_putfb 22 rfl 3 dX4_readShare_19 zC4 zw380 (by decide) rfl rfl rfl h0 ?_
  refine zS_bnw (fun w3 => ?_)
  refine zS_iconst 23 rfl (0 : Int32) (by decide) dX4_readShare_22 ?_
  exact zS_reti dX4_readShare_23 rfl

set_option maxHeartbeats 4000000 in
set_option maxRecDepth 100000 in
theorem sX4_readShare (v0 : Nat) (h0 : zShp v0 = (4, 4)) (w : zWd) : zS gX4_readShare zEi 0 [(0, .ref v0)] [] w (mX4_readShare v0 w) := by
  unfold mX4_readShare
  refine zS_aload_n 1 rfl 0 rfl dX4_readShare_0 ?_
  refine zS_cVi (as := []) (st := []) (g' := gX4_now) 4 rfl (okX4_now _ _ h0) dX4_readShare_1 zC4 h0 zw738 cbX4_now rfl rfl (by decide) (Nat.le_of_ble_eq_true rfl) (fun r1 w2 => ?_)
  refine zS_istore_n 5 rfl dX4_readShare_4 (by show 1 < 2; decide) (show _ = [(1, .int _), (0, .ref _)] from rfl) ?_
  refine zS_iload_n 6 rfl 0 rfl dX4_readShare_5 ?_
  refine zS_bipush 8 rfl (48 : Int32) (by decide) dX4_readShare_6 ?_
  refine zS_icmp_lt 17 11 rfl dX4_readShare_8 (by decide) ?_ ?_
  · refine zS_sub [1] (show _ = [(0, .ref _)] from rfl) ?_
    exact sX4_readShare_17 _ h0 _
  · refine zS_iload_n 12 rfl 0 rfl dX4_readShare_11 ?_
    refine zS_bipush 14 rfl (50 : Int32) (by decide) dX4_readShare_12 ?_
    refine zS_icmp_le 24 17 rfl dX4_readShare_14 (by decide) ?_ ?_
    · refine zS_aload_n 25 rfl 1 rfl dX4_readShare_24 ?_
      refine zS_dup 26 rfl rfl dX4_readShare_25 ?_
      refine zS_getfi 29 rfl 2 dX4_readShare_26 zC4 zw379 (by decide) rfl h0 ?_
      refine zS_iconst 30 rfl (1 : Int32) (by decide) dX4_readShare_29 ?_
      refine zS_iadd 31 rfl dX4_readShare_30 ?_
      refine zS_putfi 34 rfl 2 dX4_readShare_31 zC4 zw379 (by decide) rfl rfl rfl h0 ?_
      refine zS_bnw (fun w4 => ?_)
      refine zS_iload_n 35 rfl 0 rfl dX4_readShare_34 ?_
      refine zS_bipush 37 rfl (48 : Int32) (by decide) dX4_readShare_35 ?_
      refine zS_isub 38 rfl dX4_readShare_37 ?_
      exact zS_reti dX4_readShare_38 rfl
    · refine zS_sub [1] (show _ = [(0, .ref _)] from rfl) ?_
      exact sX4_readShare_17 _ h0 _

theorem okX4_readShare (v0 : Nat) (w : zWd) (h0 : zShp v0 = (4, 4)) : zOk gX4_readShare zEi [.ref v0] w (mX4_readShare v0 w) := zOk_of (by decide) rfl (Nat.le_of_ble_eq_true rfl) (sX4_readShare v0 h0 w)
abbrev gX4_readNumber : zMth := (yX4_readNumber, cX4_readNumber, 4, (some .int), 2, zE0)
theorem cbX4_readNumber : zCbV yX4_readNumber cX4_readNumber 4 (some .int) 0 := ⟨zw744, zw17, zw85, zw745, by decide, by decide, by decide +kernel⟩
set_option maxHeartbeats 4000000 in
set_option maxRecDepth 100000 in
theorem sX4_readNumber_43 (v1 : Int32) (s0 : Int32) (s1 : Nat) (t1 : zShp s1 = (4, 4)) (w : zWd) : zS gX4_readNumber zEi 43 [(1, .int v1)] [.int s0, .ref s1] w (mX4_readNumber_43 v1 s0 s1 w) := by
  unfold mX4_readNumber_43
  refine zS_putfb 46 rfl 3 dX4_readNumber_43 zC4 zw380 (by decide) rfl rfl rfl t1 ?_
  refine zS_bnw (fun w3 => ?_)
  refine zS_iload_n 47 rfl 0 rfl dX4_readNumber_46 ?_
  exact zS_reti dX4_readNumber_47 rfl

set_option maxHeartbeats 4000000 in
set_option maxRecDepth 100000 in
theorem sX4_readNumber_38 (v1 : Int32) (s0 : Nat) (t0 : zShp s0 = (4, 4)) (w : zWd) : zS gX4_readNumber zEi 38 [(1, .int v1)] [.ref s0] w (mX4_readNumber_38 v1 s0 w) := by
  unfold mX4_readNumber_38
  refine zS_iconst 39 rfl (1 : Int32) (by decide) dX4_readNumber_38 ?_
  refine zS_goto 43 dX4_readNumber_39 (by decide) ?_
  exact sX4_readNumber_43 _ _ _ t0 _

set_option maxHeartbeats 4000000 in
set_option maxRecDepth 100000 in
theorem sX4_readNumber_26 (v0 : Nat) (v1 : Int32) (v2 : Int32) (h0 : zShp v0 = (4, 4)) (w : zWd) : zS gX4_readNumber zEi 26 [(0, .ref v0), (1, .int v1), (2, .int v2)] [] w (mX4_readNumber_26 v0 v1 v2 w) := by
  unfold mX4_readNumber_26
  refine zS_aload_n 27 rfl 0 rfl dX4_readNumber_26 ?_
  refine zS_aload_n 28 rfl 0 rfl dX4_readNumber_27 ?_
  refine zS_getfi 31 rfl 3 dX4_readNumber_28 zC4 zw380 (by decide) rfl h0 ?_
  refine zS_if_ne 38 34 rfl dX4_readNumber_31 (by decide) ?_ ?_
  · refine zS_iload_n 35 rfl 2 rfl dX4_readNumber_34 ?_
    refine zS_if_ne 42 38 rfl dX4_readNumber_35 (by decide) ?_ ?_
    · refine zS_sub [1] (show _ = [(1, .int _)] from rfl) ?_
      exact sX4_readNumber_38 _ _ h0 _
    · refine zS_iconst 43 rfl (0 : Int32) (by decide) dX4_readNumber_42 ?_
      refine zS_sub [1] (show _ = [(1, .int _)] from rfl) ?_
      exact sX4_readNumber_43 _ _ _ h0 _
  · refine zS_sub [1] (show _ = [(1, .int _)] from rfl) ?_
    exact sX4_readNumber_38 _ _ h0 _

set_option maxHeartbeats 4000000 in
set_option maxRecDepth 100000 in
theorem sX4_readNumber_4b (v0 : Nat) (k4 : Int32 × Int32 × zWd → Option (Int32 × zWd)) (v1 : Int32) (v2 : Int32) (hk4 : ∀ (v1 : Int32) (v2 : Int32) (w : zWd), zS gX4_readNumber zEi 4 [(0, .ref v0), (1, .int v1), (2, .int v2)] [] w (k4 (v1, v2, w))) (h0 : zShp v0 = (4, 4)) (w : zWd) : zS gX4_readNumber zEi 4 [(0, .ref v0), (1, .int v1), (2, .int v2)] [] w (mX4_readNumber_4b v0 k4 v1 v2 w) := by
  unfold mX4_readNumber_4b
  refine zS_iload_n 5 rfl 2 rfl dX4_readNumber_4 ?_
  refine zS_iconst 6 rfl (3 : Int32) (by decide) dX4_readNumber_5 ?_
  refine zS_icmp_ge 80 9 rfl dX4_readNumber_6 (by decide) ?_ ?_
  · refine zS_iload_n 81 rfl 1 rfl dX4_readNumber_80 ?_
    exact zS_reti dX4_readNumber_81 rfl
  · refine zS_aload_n 10 rfl 0 rfl dX4_readNumber_9 ?_
    refine zS_cVi (as := []) (st := []) (g' := gX4_now) 13 rfl (okX4_now _ _ h0) dX4_readNumber_10 zC4 h0 zw738 cbX4_now rfl rfl (by decide) (Nat.le_of_ble_eq_true rfl) (fun r1 w2 => ?_)
    refine zS_istore_n 14 rfl dX4_readNumber_13 (by show 3 < 4; decide) (show _ = [(3, .int _), (0, .ref _), (1, .int _), (2, .int _)] from rfl) ?_
    refine zS_iload_n 15 rfl 0 rfl dX4_readNumber_14 ?_
    refine zS_bipush 17 rfl (48 : Int32) (by decide) dX4_readNumber_15 ?_
    refine zS_icmp_lt 26 20 rfl dX4_readNumber_17 (by decide) ?_ ?_
    · refine zS_sub [1, 2, 3] (show _ = [(0, .ref _), (1, .int _), (2, .int _)] from rfl) ?_
      exact sX4_readNumber_26 _ _ _ h0 _
    · refine zS_iload_n 21 rfl 0 rfl dX4_readNumber_20 ?_
      refine zS_bipush 23 rfl (57 : Int32) (by decide) dX4_readNumber_21 ?_
      refine zS_icmp_le 48 26 rfl dX4_readNumber_23 (by decide) ?_ ?_
      · refine zS_aload_n 49 rfl 1 rfl dX4_readNumber_48 ?_
        refine zS_dup 50 rfl rfl dX4_readNumber_49 ?_
        refine zS_getfi 53 rfl 2 dX4_readNumber_50 zC4 zw379 (by decide) rfl h0 ?_
        refine zS_iconst 54 rfl (1 : Int32) (by decide) dX4_readNumber_53 ?_
        refine zS_iadd 55 rfl dX4_readNumber_54 ?_
        refine zS_putfi 58 rfl 2 dX4_readNumber_55 zC4 zw379 (by decide) rfl rfl rfl h0 ?_
        refine zS_bnw (fun w4 => ?_)
        refine zS_iload_n 59 rfl 2 rfl dX4_readNumber_58 ?_
        refine zS_bipush 61 rfl (10 : Int32) (by decide) dX4_readNumber_59 ?_
        refine zS_imul 62 rfl dX4_readNumber_61 ?_
        refine zS_iload_n 63 rfl 0 rfl dX4_readNumber_62 ?_
        refine zS_iadd 64 rfl dX4_readNumber_63 ?_
        refine zS_bipush 66 rfl (48 : Int32) (by decide) dX4_readNumber_64 ?_
        refine zS_isub 67 rfl dX4_readNumber_66 ?_
        refine zS_bni (fun x5 => ?_)
        refine zS_istore_n 68 rfl dX4_readNumber_67 (by show 1 < 4; decide) (show _ = [(1, .int _), (3, .int _), (0, .ref _), (2, .int _)] from rfl) ?_
        refine zS_iload_n 69 rfl 0 rfl dX4_readNumber_68 ?_
        refine zS_if_ne 74 72 rfl dX4_readNumber_69 (by decide) ?_ ?_
        · refine zS_iconst 73 rfl (0 : Int32) (by decide) dX4_readNumber_72 ?_
          exact zS_reti dX4_readNumber_73 rfl
        · refine zS_iinc 77 rfl 3 (_ + (1 : Int32)) dX4_readNumber_74 rfl (by show 2 < 4; decide) rfl (show _ = [(2, .int _), (1, .int _), (3, .int _), (0, .ref _)] from rfl) ?_
          refine zS_goto 4 dX4_readNumber_77 (by decide) ?_
          refine zS_sub [3, 1, 0] (show _ = [(0, .ref _), (1, .int _), (2, .int _)] from rfl) ?_
          exact hk4 _ _ _
      · refine zS_sub [1, 2, 3] (show _ = [(0, .ref _), (1, .int _), (2, .int _)] from rfl) ?_
        exact sX4_readNumber_26 _ _ _ h0 _

theorem sX4_readNumber_4 (v0 : Nat) (v1 : Int32) (v2 : Int32) (h0 : zShp v0 = (4, 4)) (w : zWd) : zS gX4_readNumber zEi 4 [(0, .ref v0), (1, .int v1), (2, .int v2)] [] w (mX4_readNumber_4 v0 v1 v2 w) :=
  zS_loop (L := fun q : Int32 × Int32 × zWd => [(0, .ref v0), (1, .int q.1), (2, .int q.2.1)]) (V := fun q => q.2.2) (T := fun _ => []) (F := fun k q => mX4_readNumber_4b v0 k q.1 q.2.1 q.2.2) (fun k hk q => sX4_readNumber_4b v0 k q.1 q.2.1 (fun a1 a2 w => hk (a1, a2, w)) h0 q.2.2) zFU (v1, v2, w)
set_option maxHeartbeats 4000000 in
set_option maxRecDepth 100000 in
theorem sX4_readNumber (v0 : Nat) (h0 : zShp v0 = (4, 4)) (w : zWd) : zS gX4_readNumber zEi 0 [(0, .ref v0)] [] w (mX4_readNumber v0 w) := by
  unfold mX4_readNumber
  refine zS_iconst 1 rfl (0 : Int32) (by decide) dX4_readNumber_0 ?_
  refine zS_istore_n 2 rfl dX4_readNumber_1 (by show 1 < 4; decide) (show _ = [(1, .int _), (0, .ref _)] from rfl) ?_
  refine zS_iconst 3 rfl (0 : Int32) (by decide) dX4_readNumber_2 ?_
  refine zS_istore_n 4 rfl dX4_readNumber_3 (by show 2 < 4; decide) (show _ = [(2, .int _), (1, .int _), (0, .ref _)] from rfl) ?_
  refine zS_sub [2, 1, 0] (show _ = [(0, .ref _), (1, .int _), (2, .int _)] from rfl) ?_
  exact sX4_readNumber_4 _ _ _ h0 _

theorem okX4_readNumber (v0 : Nat) (w : zWd) (h0 : zShp v0 = (4, 4)) : zOk gX4_readNumber zEi [.ref v0] w (mX4_readNumber v0 w) := zOk_of (by decide) rfl (Nat.le_of_ble_eq_true rfl) (sX4_readNumber v0 h0 w)
abbrev gX4_readTest : zMth := (yX4_readTest, cX4_readTest, 2, none, 3, zE0)
theorem cbX4_readTest : zCbV yX4_readTest cX4_readTest 2 none 0 := ⟨zw756, zw20, zw85, zw757, by decide, by decide, by decide +kernel⟩
set_option maxHeartbeats 4000000 in
set_option maxRecDepth 100000 in
theorem sX4_readTest_149 (v0 : Nat) (v1 : Int32) (h0 : zShp v0 = (4, 4)) (w : zWd) : zS gX4_readTest zEv 149 [(0, .ref v0), (1, .int v1)] [] w (mX4_readTest_149 v0 v1 w) := by
  unfold mX4_readTest_149
  refine zS_aload_n 150 rfl 0 rfl dX4_readTest_149 ?_
  refine zS_getfd 153 rfl 1 dX4_readTest_150 zC4 zw378 (by decide) rfl h0 ?_
  refine zS_gd (fun g8 => ?_)
  refine zS_iload_n 154 rfl 1 rfl dX4_readTest_153 ?_
  refine zS_aload_n 155 rfl 0 rfl dX4_readTest_154 ?_
  refine zS_cVi (as := []) (st := [.int _, .ref _]) (g' := gX4_readNumber) 158 rfl (okX4_readNumber _ _ h0) dX4_readTest_155 zC4 h0 zw742 cbX4_readNumber rfl rfl (by decide) (Nat.le_of_ble_eq_true rfl) (fun r9 w10 => ?_)
  refine zS_cVv (as := [.int _, .int _]) (st := []) (g' := gX2_addStep) 161 rfl (okX2_addStep _ _ _ _ g8) dX4_readTest_158 zC2 g8 zw758 cbX2_addStep rfl rfl (by decide) (Nat.le_of_ble_eq_true rfl) (fun r11 w12 => ?_)
  exact zS_retv dX4_readTest_161 rfl

set_option maxHeartbeats 4000000 in
set_option maxRecDepth 100000 in
theorem sX4_readTest_104 (v0 : Nat) (v1 : Int32) (h0 : zShp v0 = (4, 4)) (w : zWd) : zS gX4_readTest zEv 104 [(0, .ref v0), (1, .int v1)] [] w (mX4_readTest_104 v0 v1 w) := by
  unfold mX4_readTest_104
  refine zS_aload_n 105 rfl 0 rfl dX4_readTest_104 ?_
  refine zS_dup 106 rfl rfl dX4_readTest_105 ?_
  refine zS_getfi 109 rfl 2 dX4_readTest_106 zC4 zw379 (by decide) rfl h0 ?_
  refine zS_iconst 110 rfl (1 : Int32) (by decide) dX4_readTest_109 ?_
  refine zS_iadd 111 rfl dX4_readTest_110 ?_
  refine zS_putfi 114 rfl 2 dX4_readTest_111 zC4 zw379 (by decide) rfl rfl rfl h0 ?_
  refine zS_bnw (fun w3 => ?_)
  refine zS_iload_n 115 rfl 1 rfl dX4_readTest_114 ?_
  refine zS_iconst 116 rfl (2 : Int32) (by decide) dX4_readTest_115 ?_
  refine zS_icmp_ge 128 119 rfl dX4_readTest_116 (by decide) ?_ ?_
  · refine zS_aload_n 129 rfl 0 rfl dX4_readTest_128 ?_
    refine zS_bipush 131 rfl (62 : Int32) (by decide) dX4_readTest_129 ?_
    refine zS_cVi (as := [.int _]) (st := []) (g' := gX4_take) 134 rfl (okX4_take _ _ _ h0) dX4_readTest_131 zC4 h0 zw730 cbX4_take rfl rfl (by decide) (Nat.le_of_ble_eq_true rfl) (fun r4 w5 => ?_)
    refine zS_if_eq 143 137 rfl dX4_readTest_134 (by decide) ?_ ?_
    · refine zS_aload_n 144 rfl 0 rfl dX4_readTest_143 ?_
      refine zS_bipush 146 rfl (60 : Int32) (by decide) dX4_readTest_144 ?_
      refine zS_cVv (as := [.int _]) (st := []) (g' := gX4_need) 149 rfl (okX4_need _ _ _ h0) dX4_readTest_146 zC4 h0 zw726 cbX4_need rfl rfl (by decide) (Nat.le_of_ble_eq_true rfl) (fun r6 w7 => ?_)
      exact sX4_readTest_149 _ _ h0 _
    · refine zS_iinc 140 rfl 1 (_ + (1 : Int32)) dX4_readTest_137 rfl (by show 1 < 2; decide) rfl (show _ = [(1, .int _), (0, .ref _)] from rfl) ?_
      refine zS_goto 149 dX4_readTest_140 (by decide) ?_
      refine zS_sub [1, 0] (show _ = [(0, .ref _), (1, .int _)] from rfl) ?_
      exact sX4_readTest_149 _ _ h0 _
  · refine zS_aload_n 120 rfl 0 rfl dX4_readTest_119 ?_
    refine zS_bipush 122 rfl (61 : Int32) (by decide) dX4_readTest_120 ?_
    refine zS_cVv (as := [.int _]) (st := []) (g' := gX4_need) 125 rfl (okX4_need _ _ _ h0) dX4_readTest_122 zC4 h0 zw726 cbX4_need rfl rfl (by decide) (Nat.le_of_ble_eq_true rfl) (fun r13 w14 => ?_)
    refine zS_goto 149 dX4_readTest_125 (by decide) ?_
    exact sX4_readTest_149 _ _ h0 _

set_option maxHeartbeats 4000000 in
set_option maxRecDepth 100000 in
theorem sX4_readTest_98 (v0 : Nat) (h0 : zShp v0 = (4, 4)) (w : zWd) : zS gX4_readTest zEv 98 [(0, .ref v0)] [] w (mX4_readTest_98 v0 w) := by
  unfold mX4_readTest_98
  refine zS_aload_n 99 rfl 0 rfl dX4_readTest_98 ?_
  refine zS_iconst 100 rfl (1 : Int32) (by decide) dX4_readTest_99 ?_
  refine zS_putfb 103 rfl 3 dX4_readTest_100 zC4 zw380 (by decide) rfl rfl rfl h0 ?_
  refine zS_bnw (fun w15 => ?_)
  exact zS_retv dX4_readTest_103 rfl

set_option maxHeartbeats 4000000 in
set_option maxRecDepth 100000 in
theorem sX4_readTest (v0 : Nat) (h0 : zShp v0 = (4, 4)) (w : zWd) : zS gX4_readTest zEv 0 [(0, .ref v0)] [] w (mX4_readTest v0 w) := by
  unfold mX4_readTest
  refine zS_iconst 1 rfl (0 : Int32) (by decide) dX4_readTest_0 ?_
  refine zS_istore_n 2 rfl dX4_readTest_1 (by show 1 < 2; decide) (show _ = [(1, .int _), (0, .ref _)] from rfl) ?_
  refine zS_aload_n 3 rfl 1 rfl dX4_readTest_2 ?_
  refine zS_cVi (as := []) (st := []) (g' := gX4_now) 6 rfl (okX4_now _ _ h0) dX4_readTest_3 zC4 h0 zw738 cbX4_now rfl rfl (by decide) (Nat.le_of_ble_eq_true rfl) (fun r1 w2 => ?_)
  refine zS_tsw (lo := 104) ?_
  refine zSw_in (c0 := (104 : Int32)) 0 92 dX4_readTest_6 (by decide) (by decide) rfl (by decide) ?_ ?_
  · refine zS_bipush 94 rfl (6 : Int32) (by decide) dX4_readTest_92 ?_
    refine zS_istore_n 95 rfl dX4_readTest_94 (by show 1 < 2; decide) (show _ = [(1, .int _), (0, .ref _)] from rfl) ?_
    refine zS_goto 104 dX4_readTest_95 (by decide) ?_
    refine zS_sub [1, 0] (show _ = [(0, .ref _), (1, .int _)] from rfl) ?_
    exact sX4_readTest_104 _ _ h0 _
  refine zSw_in (c0 := (105 : Int32)) 1 98 dX4_readTest_6 (by decide) (by decide) rfl (by decide) ?_ ?_
  · refine zS_sub [1] (show _ = [(0, .ref _)] from rfl) ?_
    exact sX4_readTest_98 _ h0 _
  refine zSw_in (c0 := (106 : Int32)) 2 98 dX4_readTest_6 (by decide) (by decide) rfl (by decide) ?_ ?_
  · refine zS_sub [1] (show _ = [(0, .ref _)] from rfl) ?_
    exact sX4_readTest_98 _ h0 _
  refine zSw_in (c0 := (107 : Int32)) 3 72 dX4_readTest_6 (by decide) (by decide) rfl (by decide) ?_ ?_
  · refine zS_iconst 73 rfl (0 : Int32) (by decide) dX4_readTest_72 ?_
    refine zS_istore_n 74 rfl dX4_readTest_73 (by show 1 < 2; decide) (show _ = [(1, .int _), (0, .ref _)] from rfl) ?_
    refine zS_goto 104 dX4_readTest_74 (by decide) ?_
    refine zS_sub [1, 0] (show _ = [(0, .ref _), (1, .int _)] from rfl) ?_
    exact sX4_readTest_104 _ _ h0 _
  refine zSw_in (c0 := (108 : Int32)) 4 98 dX4_readTest_6 (by decide) (by decide) rfl (by decide) ?_ ?_
  · refine zS_sub [1] (show _ = [(0, .ref _)] from rfl) ?_
    exact sX4_readTest_98 _ h0 _
  refine zSw_in (c0 := (109 : Int32)) 5 98 dX4_readTest_6 (by decide) (by decide) rfl (by decide) ?_ ?_
  · refine zS_sub [1] (show _ = [(0, .ref _)] from rfl) ?_
    exact sX4_readTest_98 _ h0 _
  refine zSw_in (c0 := (110 : Int32)) 6 82 dX4_readTest_6 (by decide) (by decide) rfl (by decide) ?_ ?_
  · refine zS_iconst 83 rfl (2 : Int32) (by decide) dX4_readTest_82 ?_
    refine zS_istore_n 84 rfl dX4_readTest_83 (by show 1 < 2; decide) (show _ = [(1, .int _), (0, .ref _)] from rfl) ?_
    refine zS_goto 104 dX4_readTest_84 (by decide) ?_
    refine zS_sub [1, 0] (show _ = [(0, .ref _), (1, .int _)] from rfl) ?_
    exact sX4_readTest_104 _ _ h0 _
  refine zSw_in (c0 := (111 : Int32)) 7 98 dX4_readTest_6 (by decide) (by decide) rfl (by decide) ?_ ?_
  · refine zS_sub [1] (show _ = [(0, .ref _)] from rfl) ?_
    exact sX4_readTest_98 _ h0 _
  refine zSw_in (c0 := (112 : Int32)) 8 98 dX4_readTest_6 (by decide) (by decide) rfl (by decide) ?_ ?_
  · refine zS_sub [1] (show _ = [(0, .ref _)] from rfl) ?_
    exact sX4_readTest_98 _ h0 _
  refine zSw_in (c0 := (113 : Int32)) 9 98 dX4_readTest_6 (by decide) (by decide) rfl (by decide) ?_ ?_
  · refine zS_sub [1] (show _ = [(0, .ref _)] from rfl) ?_
    exact sX4_readTest_98 _ h0 _
  refine zSw_in (c0 := (114 : Int32)) 10 98 dX4_readTest_6 (by decide) (by decide) rfl (by decide) ?_ ?_
  · refine zS_sub [1] (show _ = [(0, .ref _)] from rfl) ?_
    exact sX4_readTest_98 _ h0 _
  refine zSw_in (c0 := (115 : Int32)) 11 87 dX4_readTest_6 (by decide) (by decide) rfl (by decide) ?_ ?_
  · refine zS_iconst 88 rfl (4 : Int32) (by decide) dX4_readTest_87 ?_
    refine zS_istore_n 89 rfl dX4_readTest_88 (by show 1 < 2; decide) (show _ = [(1, .int _), (0, .ref _)] from rfl) ?_
    refine zS_goto 104 dX4_readTest_89 (by decide) ?_
    refine zS_sub [1, 0] (show _ = [(0, .ref _), (1, .int _)] from rfl) ?_
    exact sX4_readTest_104 _ _ h0 _
  refine zSw_in (c0 := (116 : Int32)) 12 77 dX4_readTest_6 (by decide) (by decide) rfl (by decide) ?_ ?_
  · refine zS_iconst 78 rfl (1 : Int32) (by decide) dX4_readTest_77 ?_
    refine zS_istore_n 79 rfl dX4_readTest_78 (by show 1 < 2; decide) (show _ = [(1, .int _), (0, .ref _)] from rfl) ?_
    refine zS_goto 104 dX4_readTest_79 (by decide) ?_
    refine zS_sub [1, 0] (show _ = [(0, .ref _), (1, .int _)] from rfl) ?_
    exact sX4_readTest_104 _ _ h0 _
  refine zSw_out 98 dX4_readTest_6 (by decide) (by decide) ?_
  · refine zS_sub [1] (show _ = [(0, .ref _)] from rfl) ?_
    exact sX4_readTest_98 _ h0 _

theorem okX4_readTest (v0 : Nat) (w : zWd) (h0 : zShp v0 = (4, 4)) : zOk gX4_readTest zEv [.ref v0] w (mX4_readTest v0 w) := zOk_of (by decide) rfl (Nat.le_of_ble_eq_true rfl) (sX4_readTest v0 h0 w)
abbrev gX4_readEither (n : Nat) : zMth := (yX4_readEither, cX4_readEither, 4, none, 4 + n, zE0)
theorem cbX4_readEither : zCbV yX4_readEither cX4_readEither 4 none 1 := ⟨zw748, zw18, zw85, zw749, by decide, by decide, by decide +kernel⟩
abbrev gX4_readPart (n : Nat) : zMth := (yX4_readPart, cX4_readPart, 3, none, 4 + n, zE0)
theorem cbX4_readPart : zCbV yX4_readPart cX4_readPart 3 none 1 := ⟨zw752, zw19, zw85, zw753, by decide, by decide, by decide +kernel⟩
set_option maxHeartbeats 4000000 in
set_option maxRecDepth 100000 in
theorem sX4_readEither_92 (c_X4_readEither : Nat → Int32 → zWd → Option (Unit × zWd)) (c_X4_readPart : Nat → Int32 → zWd → Option (Unit × zWd)) (dd : Nat) (hc_X4_readEither : ∀ (a0 : Nat) (a1 : Int32) (w : zWd), zShp a0 = (4, 4) → zOk (gX4_readEither dd) zEv [.ref a0, .int a1] w (c_X4_readEither a0 a1 w)) (hc_X4_readPart : ∀ (a0 : Nat) (a1 : Int32) (w : zWd), zShp a0 = (4, 4) → zOk (gX4_readPart dd) zEv [.ref a0, .int a1] w (c_X4_readPart a0 a1 w)) (w : zWd) : zS (gX4_readEither (dd + 1)) zEv 92 [] [] w (mX4_readEither_92 c_X4_readEither c_X4_readPart w) := by
  unfold mX4_readEither_92
  exact zS_retv dX4_readEither_92 rfl

set_option maxHeartbeats 4000000 in
set_option maxRecDepth 100000 in
theorem sX4_readEither_78 (c_X4_readEither : Nat → Int32 → zWd → Option (Unit × zWd)) (c_X4_readPart : Nat → Int32 → zWd → Option (Unit × zWd)) (dd : Nat) (hc_X4_readEither : ∀ (a0 : Nat) (a1 : Int32) (w : zWd), zShp a0 = (4, 4) → zOk (gX4_readEither dd) zEv [.ref a0, .int a1] w (c_X4_readEither a0 a1 w)) (hc_X4_readPart : ∀ (a0 : Nat) (a1 : Int32) (w : zWd), zShp a0 = (4, 4) → zOk (gX4_readPart dd) zEv [.ref a0, .int a1] w (c_X4_readPart a0 a1 w)) (v0 : Nat) (v2 : Int32) (h0 : zShp v0 = (4, 4)) (w : zWd) : zS (gX4_readEither (dd + 1)) zEv 78 [(0, .ref v0), (2, .int v2)] [] w (mX4_readEither_78 c_X4_readEither c_X4_readPart v0 v2 w) := by
  unfold mX4_readEither_78
  refine zS_iload_n 79 rfl 1 rfl dX4_readEither_78 ?_
  refine zS_if_eq 92 82 rfl dX4_readEither_79 (by decide) ?_ ?_
  · refine zS_sub [] (show _ = [] from rfl) ?_
    exact sX4_readEither_92 c_X4_readEither c_X4_readPart dd hc_X4_readEither hc_X4_readPart _
  · refine zS_aload_n 83 rfl 0 rfl dX4_readEither_82 ?_
    refine zS_getfd 86 rfl 1 dX4_readEither_83 zC4 zw378 (by decide) rfl h0 ?_
    refine zS_gd (fun g3 => ?_)
    refine zS_bipush 88 rfl (10 : Int32) (by decide) dX4_readEither_86 ?_
    refine zS_iconst 89 rfl (0 : Int32) (by decide) dX4_readEither_88 ?_
    refine zS_cVv (as := [.int _, .int _]) (st := []) (g' := gX2_addStep) 92 rfl (okX2_addStep _ _ _ _ g3) dX4_readEither_89 zC2 g3 zw758 cbX2_addStep rfl rfl ⟨(by show 1 + 1 ≤ 4 + (dd + 1); omega), (by decide)⟩ (Nat.le_of_ble_eq_true rfl) (fun r4 w5 => ?_)
    refine zS_sub [] (show _ = [] from rfl) ?_
    exact sX4_readEither_92 c_X4_readEither c_X4_readPart dd hc_X4_readEither hc_X4_readPart _

set_option maxHeartbeats 4000000 in
set_option maxRecDepth 100000 in
theorem sX4_readEither_72 (c_X4_readEither : Nat → Int32 → zWd → Option (Unit × zWd)) (c_X4_readPart : Nat → Int32 → zWd → Option (Unit × zWd)) (dd : Nat) (hc_X4_readEither : ∀ (a0 : Nat) (a1 : Int32) (w : zWd), zShp a0 = (4, 4) → zOk (gX4_readEither dd) zEv [.ref a0, .int a1] w (c_X4_readEither a0 a1 w)) (hc_X4_readPart : ∀ (a0 : Nat) (a1 : Int32) (w : zWd), zShp a0 = (4, 4) → zOk (gX4_readPart dd) zEv [.ref a0, .int a1] w (c_X4_readPart a0 a1 w)) (k9 : Int32 × Int32 × zWd → Option (Unit × zWd)) (v0 : Nat) (v1 : Int32) (v2 : Int32) (v3 : Int32) (hk9 : ∀ (v2 : Int32) (v3 : Int32) (w : zWd), zS (gX4_readEither (dd + 1)) zEv 9 [(0, .ref v0), (1, .int v1), (2, .int v2), (3, .int v3)] [] w (k9 (v2, v3, w))) (h0 : zShp v0 = (4, 4)) (w : zWd) : zS (gX4_readEither (dd + 1)) zEv 72 [(0, .ref v0), (1, .int v1), (2, .int v2), (3, .int v3)] [] w (mX4_readEither_72 c_X4_readEither c_X4_readPart k9 v0 v1 v2 v3 w) := by
  unfold mX4_readEither_72
  refine zS_iinc 75 rfl 3 (_ + (1 : Int32)) dX4_readEither_72 rfl (by show 3 < 4; decide) rfl (show _ = [(3, .int _), (0, .ref _), (1, .int _), (2, .int _)] from rfl) ?_
  refine zS_goto 9 dX4_readEither_75 (by decide) ?_
  refine zS_sub [1, 2, 3, 0] (show _ = [(0, .ref _), (1, .int _), (2, .int _), (3, .int _)] from rfl) ?_
  exact hk9 _ _ _

set_option maxHeartbeats 4000000 in
set_option maxRecDepth 100000 in
theorem sX4_readEither_65 (c_X4_readEither : Nat → Int32 → zWd → Option (Unit × zWd)) (c_X4_readPart : Nat → Int32 → zWd → Option (Unit × zWd)) (dd : Nat) (hc_X4_readEither : ∀ (a0 : Nat) (a1 : Int32) (w : zWd), zShp a0 = (4, 4) → zOk (gX4_readEither dd) zEv [.ref a0, .int a1] w (c_X4_readEither a0 a1 w)) (hc_X4_readPart : ∀ (a0 : Nat) (a1 : Int32) (w : zWd), zShp a0 = (4, 4) → zOk (gX4_readPart dd) zEv [.ref a0, .int a1] w (c_X4_readPart a0 a1 w)) (k9 : Int32 × Int32 × zWd → Option (Unit × zWd)) (v0 : Nat) (v1 : Int32) (v3 : Int32) (hk9 : ∀ (v2 : Int32) (v3 : Int32) (w : zWd), zS (gX4_readEither (dd + 1)) zEv 9 [(0, .ref v0), (1, .int v1), (2, .int v2), (3, .int v3)] [] w (k9 (v2, v3, w))) (h0 : zShp v0 = (4, 4)) (w : zWd) : zS (gX4_readEither (dd + 1)) zEv 65 [(0, .ref v0), (1, .int v1), (3, .int v3)] [] w (mX4_readEither_65 c_X4_readEither c_X4_readPart k9 v0 v1 v3 w) := by
  unfold mX4_readEither_65
  refine zS_iconst 66 rfl (1 : Int32) (by decide) dX4_readEither_65 ?_
  refine zS_istore_n 67 rfl dX4_readEither_66 (by show 2 < 4; decide) (show _ = [(2, .int _), (0, .ref _), (1, .int _), (3, .int _)] from rfl) ?_
  refine zS_aload_n 68 rfl 1 rfl dX4_readEither_67 ?_
  refine zS_iload_n 69 rfl 2 rfl dX4_readEither_68 ?_
  refine zS_cVv (as := [.int _]) (st := []) (g' := (gX4_readPart dd)) 72 rfl (hc_X4_readPart _ _ _ h0) dX4_readEither_69 zC4 h0 zw750 cbX4_readPart rfl rfl ⟨(by show 4 + dd + 1 ≤ 4 + (dd + 1); omega), (by show 3 ≤ 40; decide)⟩ (Nat.le_of_ble_eq_true rfl) (fun r10 w11 => ?_)
  refine zS_sub [1, 2, 0, 3] (show _ = [(0, .ref _), (1, .int _), (2, .int _), (3, .int _)] from rfl) ?_
  exact sX4_readEither_72 c_X4_readEither c_X4_readPart dd hc_X4_readEither hc_X4_readPart k9 _ _ _ _ hk9 h0 _

set_option maxHeartbeats 4000000 in
set_option maxRecDepth 100000 in
theorem sX4_readEither_9b (c_X4_readEither : Nat → Int32 → zWd → Option (Unit × zWd)) (c_X4_readPart : Nat → Int32 → zWd → Option (Unit × zWd)) (dd : Nat) (hc_X4_readEither : ∀ (a0 : Nat) (a1 : Int32) (w : zWd), zShp a0 = (4, 4) → zOk (gX4_readEither dd) zEv [.ref a0, .int a1] w (c_X4_readEither a0 a1 w)) (hc_X4_readPart : ∀ (a0 : Nat) (a1 : Int32) (w : zWd), zShp a0 = (4, 4) → zOk (gX4_readPart dd) zEv [.ref a0, .int a1] w (c_X4_readPart a0 a1 w)) (v0 : Nat) (v1 : Int32) (k9 : Int32 × Int32 × zWd → Option (Unit × zWd)) (v2 : Int32) (v3 : Int32) (hk9 : ∀ (v2 : Int32) (v3 : Int32) (w : zWd), zS (gX4_readEither (dd + 1)) zEv 9 [(0, .ref v0), (1, .int v1), (2, .int v2), (3, .int v3)] [] w (k9 (v2, v3, w))) (h0 : zShp v0 = (4, 4)) (w : zWd) : zS (gX4_readEither (dd + 1)) zEv 9 [(0, .ref v0), (1, .int v1), (2, .int v2), (3, .int v3)] [] w (mX4_readEither_9b c_X4_readEither c_X4_readPart v0 v1 k9 v2 v3 w) := by
  unfold mX4_readEither_9b
  refine zS_iload_n 10 rfl 3 rfl dX4_readEither_9 ?_
  refine zS_bipush 12 rfl (120 : Int32) (by decide) dX4_readEither_10 ?_
  refine zS_icmp_ge 78 15 rfl dX4_readEither_12 (by decide) ?_ ?_
  · refine zS_sub [0, 2] (show _ = [(0, .ref _), (2, .int _)] from rfl) ?_
    exact sX4_readEither_78 c_X4_readEither c_X4_readPart dd hc_X4_readEither hc_X4_readPart _ _ h0 _
  · refine zS_aload_n 16 rfl 0 rfl dX4_readEither_15 ?_
    refine zS_bipush 18 rfl (38 : Int32) (by decide) dX4_readEither_16 ?_
    refine zS_cVi (as := [.int _]) (st := []) (g' := gX4_take) 21 rfl (okX4_take _ _ _ h0) dX4_readEither_18 zC4 h0 zw730 cbX4_take rfl rfl ⟨(by show 1 + 1 ≤ 4 + (dd + 1); omega), (by decide)⟩ (Nat.le_of_ble_eq_true rfl) (fun r6 w7 => ?_)
    refine zS_if_eq 42 24 rfl dX4_readEither_21 (by decide) ?_ ?_
    · refine zS_aload_n 43 rfl 0 rfl dX4_readEither_42 ?_
      refine zS_bipush 45 rfl (124 : Int32) (by decide) dX4_readEither_43 ?_
      refine zS_cVi (as := [.int _]) (st := []) (g' := gX4_take) 48 rfl (okX4_take _ _ _ h0) dX4_readEither_45 zC4 h0 zw730 cbX4_take rfl rfl ⟨(by show 1 + 1 ≤ 4 + (dd + 1); omega), (by decide)⟩ (Nat.le_of_ble_eq_true rfl) (fun r8 w9 => ?_)
      refine zS_if_eq 78 51 rfl dX4_readEither_48 (by decide) ?_ ?_
      · refine zS_sub [0, 2] (show _ = [(0, .ref _), (2, .int _)] from rfl) ?_
        exact sX4_readEither_78 c_X4_readEither c_X4_readPart dd hc_X4_readEither hc_X4_readPart _ _ h0 _
      · refine zS_iload_n 52 rfl 2 rfl dX4_readEither_51 ?_
        refine zS_if_eq 65 55 rfl dX4_readEither_52 (by decide) ?_ ?_
        · refine zS_sub [0, 1, 3] (show _ = [(0, .ref _), (1, .int _), (3, .int _)] from rfl) ?_
          exact sX4_readEither_65 c_X4_readEither c_X4_readPart dd hc_X4_readEither hc_X4_readPart k9 _ _ _ hk9 h0 _
        · refine zS_aload_n 56 rfl 0 rfl dX4_readEither_55 ?_
          refine zS_getfd 59 rfl 1 dX4_readEither_56 zC4 zw378 (by decide) rfl h0 ?_
          refine zS_gd (fun g12 => ?_)
          refine zS_bipush 61 rfl (10 : Int32) (by decide) dX4_readEither_59 ?_
          refine zS_iconst 62 rfl (0 : Int32) (by decide) dX4_readEither_61 ?_
          refine zS_cVv (as := [.int _, .int _]) (st := []) (g' := gX2_addStep) 65 rfl (okX2_addStep _ _ _ _ g12) dX4_readEither_62 zC2 g12 zw758 cbX2_addStep rfl rfl ⟨(by show 1 + 1 ≤ 4 + (dd + 1); omega), (by decide)⟩ (Nat.le_of_ble_eq_true rfl) (fun r13 w14 => ?_)
          refine zS_sub [0, 1, 3] (show _ = [(0, .ref _), (1, .int _), (3, .int _)] from rfl) ?_
          exact sX4_readEither_65 c_X4_readEither c_X4_readPart dd hc_X4_readEither hc_X4_readPart k9 _ _ _ hk9 h0 _
    · refine zS_aload_n 25 rfl 0 rfl dX4_readEither_24 ?_
      refine zS_iload_n 26 rfl 1 rfl dX4_readEither_25 ?_
      refine zS_cVv (as := [.int _]) (st := []) (g' := (gX4_readPart dd)) 29 rfl (hc_X4_readPart _ _ _ h0) dX4_readEither_26 zC4 h0 zw750 cbX4_readPart rfl rfl ⟨(by show 4 + dd + 1 ≤ 4 + (dd + 1); omega), (by show 3 ≤ 40; decide)⟩ (Nat.le_of_ble_eq_true rfl) (fun r15 w16 => ?_)
      refine zS_aload_n 30 rfl 0 rfl dX4_readEither_29 ?_
      refine zS_getfd 33 rfl 1 dX4_readEither_30 zC4 zw378 (by decide) rfl h0 ?_
      refine zS_gd (fun g17 => ?_)
      refine zS_bipush 35 rfl (9 : Int32) (by decide) dX4_readEither_33 ?_
      refine zS_iconst 36 rfl (0 : Int32) (by decide) dX4_readEither_35 ?_
      refine zS_cVv (as := [.int _, .int _]) (st := []) (g' := gX2_addStep) 39 rfl (okX2_addStep _ _ _ _ g17) dX4_readEither_36 zC2 g17 zw758 cbX2_addStep rfl rfl ⟨(by show 1 + 1 ≤ 4 + (dd + 1); omega), (by decide)⟩ (Nat.le_of_ble_eq_true rfl) (fun r18 w19 => ?_)
      refine zS_goto 72 dX4_readEither_39 (by decide) ?_
      exact sX4_readEither_72 c_X4_readEither c_X4_readPart dd hc_X4_readEither hc_X4_readPart k9 _ _ _ _ hk9 h0 _

theorem sX4_readEither_9 (c_X4_readEither : Nat → Int32 → zWd → Option (Unit × zWd)) (c_X4_readPart : Nat → Int32 → zWd → Option (Unit × zWd)) (dd : Nat) (hc_X4_readEither : ∀ (a0 : Nat) (a1 : Int32) (w : zWd), zShp a0 = (4, 4) → zOk (gX4_readEither dd) zEv [.ref a0, .int a1] w (c_X4_readEither a0 a1 w)) (hc_X4_readPart : ∀ (a0 : Nat) (a1 : Int32) (w : zWd), zShp a0 = (4, 4) → zOk (gX4_readPart dd) zEv [.ref a0, .int a1] w (c_X4_readPart a0 a1 w)) (v0 : Nat) (v1 : Int32) (v2 : Int32) (v3 : Int32) (h0 : zShp v0 = (4, 4)) (w : zWd) : zS (gX4_readEither (dd + 1)) zEv 9 [(0, .ref v0), (1, .int v1), (2, .int v2), (3, .int v3)] [] w (mX4_readEither_9 c_X4_readEither c_X4_readPart v0 v1 v2 v3 w) :=
  zS_loop (L := fun q : Int32 × Int32 × zWd => [(0, .ref v0), (1, .int v1), (2, .int q.1), (3, .int q.2.1)]) (V := fun q => q.2.2) (T := fun _ => []) (F := fun k q => mX4_readEither_9b c_X4_readEither c_X4_readPart v0 v1 k q.1 q.2.1 q.2.2) (fun k hk q => sX4_readEither_9b c_X4_readEither c_X4_readPart dd hc_X4_readEither hc_X4_readPart v0 v1 k q.1 q.2.1 (fun a2 a3 w => hk (a2, a3, w)) h0 q.2.2) zFU (v2, v3, w)
set_option maxHeartbeats 4000000 in
set_option maxRecDepth 100000 in
theorem sX4_readEitherb (c_X4_readEither : Nat → Int32 → zWd → Option (Unit × zWd)) (c_X4_readPart : Nat → Int32 → zWd → Option (Unit × zWd)) (dd : Nat) (hc_X4_readEither : ∀ (a0 : Nat) (a1 : Int32) (w : zWd), zShp a0 = (4, 4) → zOk (gX4_readEither dd) zEv [.ref a0, .int a1] w (c_X4_readEither a0 a1 w)) (hc_X4_readPart : ∀ (a0 : Nat) (a1 : Int32) (w : zWd), zShp a0 = (4, 4) → zOk (gX4_readPart dd) zEv [.ref a0, .int a1] w (c_X4_readPart a0 a1 w)) (v0 : Nat) (v1 : Int32) (h0 : zShp v0 = (4, 4)) (w : zWd) : zS (gX4_readEither (dd + 1)) zEv 0 [(0, .ref v0), (1, .int v1)] [] w (mX4_readEitherb c_X4_readEither c_X4_readPart v0 v1 w) := by
  unfold mX4_readEitherb
  refine zS_aload_n 1 rfl 0 rfl dX4_readEither_0 ?_
  refine zS_iload_n 2 rfl 1 rfl dX4_readEither_1 ?_
  refine zS_cVv (as := [.int _]) (st := []) (g' := (gX4_readPart dd)) 5 rfl (hc_X4_readPart _ _ _ h0) dX4_readEither_2 zC4 h0 zw750 cbX4_readPart rfl rfl ⟨(by show 4 + dd + 1 ≤ 4 + (dd + 1); omega), (by show 3 ≤ 40; decide)⟩ (Nat.le_of_ble_eq_true rfl) (fun r1 w2 => ?_)
  refine zS_iconst 6 rfl (0 : Int32) (by decide) dX4_readEither_5 ?_
  refine zS_istore_n 7 rfl dX4_readEither_6 (by show 2 < 4; decide) (show _ = [(2, .int _), (0, .ref _), (1, .int _)] from rfl) ?_
  refine zS_iconst 8 rfl (0 : Int32) (by decide) dX4_readEither_7 ?_
  refine zS_istore_n 9 rfl dX4_readEither_8 (by show 3 < 4; decide) (show _ = [(3, .int _), (2, .int _), (0, .ref _), (1, .int _)] from rfl) ?_
  refine zS_sub [2, 3, 1, 0] (show _ = [(0, .ref _), (1, .int _), (2, .int _), (3, .int _)] from rfl) ?_
  exact sX4_readEither_9 c_X4_readEither c_X4_readPart dd hc_X4_readEither hc_X4_readPart _ _ _ _ h0 _

set_option maxHeartbeats 4000000 in
set_option maxRecDepth 100000 in
theorem sX4_readPart_82 (c_X4_readEither : Nat → Int32 → zWd → Option (Unit × zWd)) (c_X4_readPart : Nat → Int32 → zWd → Option (Unit × zWd)) (dd : Nat) (hc_X4_readEither : ∀ (a0 : Nat) (a1 : Int32) (w : zWd), zShp a0 = (4, 4) → zOk (gX4_readEither dd) zEv [.ref a0, .int a1] w (c_X4_readEither a0 a1 w)) (hc_X4_readPart : ∀ (a0 : Nat) (a1 : Int32) (w : zWd), zShp a0 = (4, 4) → zOk (gX4_readPart dd) zEv [.ref a0, .int a1] w (c_X4_readPart a0 a1 w)) (w : zWd) : zS (gX4_readPart (dd + 1)) zEv 82 [] [] w (mX4_readPart_82 c_X4_readEither c_X4_readPart w) := by
  unfold mX4_readPart_82
  exact zS_retv dX4_readPart_82 rfl

set_option maxHeartbeats 4000000 in
set_option maxRecDepth 100000 in
theorem sX4_readPart_22 (c_X4_readEither : Nat → Int32 → zWd → Option (Unit × zWd)) (c_X4_readPart : Nat → Int32 → zWd → Option (Unit × zWd)) (dd : Nat) (hc_X4_readEither : ∀ (a0 : Nat) (a1 : Int32) (w : zWd), zShp a0 = (4, 4) → zOk (gX4_readEither dd) zEv [.ref a0, .int a1] w (c_X4_readEither a0 a1 w)) (hc_X4_readPart : ∀ (a0 : Nat) (a1 : Int32) (w : zWd), zShp a0 = (4, 4) → zOk (gX4_readPart dd) zEv [.ref a0, .int a1] w (c_X4_readPart a0 a1 w)) (v0 : Nat) (v1 : Int32) (v2 : Int32) (h0 : zShp v0 = (4, 4)) (w : zWd) : zS (gX4_readPart (dd + 1)) zEv 22 [(0, .ref v0), (1, .int v1), (2, .int v2)] [] w (mX4_readPart_22 c_X4_readEither c_X4_readPart v0 v1 v2 w) := by
  unfold mX4_readPart_22
  refine zS_iload_n 23 rfl 1 rfl dX4_readPart_22 ?_
  refine zS_iconst 24 rfl (5 : Int32) (by decide) dX4_readPart_23 ?_
  refine zS_icmp_lt 33 27 rfl dX4_readPart_24 (by decide) ?_ ?_
  · refine zS_aload_n 34 rfl 0 rfl dX4_readPart_33 ?_
    refine zS_dup 35 rfl rfl dX4_readPart_34 ?_
    refine zS_getfi 38 rfl 2 dX4_readPart_35 zC4 zw379 (by decide) rfl h0 ?_
    refine zS_iconst 39 rfl (1 : Int32) (by decide) dX4_readPart_38 ?_
    refine zS_iadd 40 rfl dX4_readPart_39 ?_
    refine zS_putfi 43 rfl 2 dX4_readPart_40 zC4 zw379 (by decide) rfl rfl rfl h0 ?_
    refine zS_bnw (fun w3 => ?_)
    refine zS_iload_n 44 rfl 2 rfl dX4_readPart_43 ?_
    refine zS_bipush 46 rfl (33 : Int32) (by decide) dX4_readPart_44 ?_
    refine zS_icmp_ne 69 49 rfl dX4_readPart_46 (by decide) ?_ ?_
    · refine zS_aload_n 50 rfl 0 rfl dX4_readPart_49 ?_
      refine zS_iload_n 51 rfl 1 rfl dX4_readPart_50 ?_
      refine zS_iconst 52 rfl (1 : Int32) (by decide) dX4_readPart_51 ?_
      refine zS_iadd 53 rfl dX4_readPart_52 ?_
      refine zS_cVv (as := [.int _]) (st := []) (g' := (gX4_readPart dd)) 56 rfl (hc_X4_readPart _ _ _ h0) dX4_readPart_53 zC4 h0 zw750 cbX4_readPart rfl rfl ⟨(by show 4 + dd + 1 ≤ 4 + (dd + 1); omega), (by show 3 ≤ 40; decide)⟩ (Nat.le_of_ble_eq_true rfl) (fun r4 w5 => ?_)
      refine zS_aload_n 57 rfl 0 rfl dX4_readPart_56 ?_
      refine zS_getfd 60 rfl 1 dX4_readPart_57 zC4 zw378 (by decide) rfl h0 ?_
      refine zS_gd (fun g6 => ?_)
      refine zS_bipush 62 rfl (8 : Int32) (by decide) dX4_readPart_60 ?_
      refine zS_iconst 63 rfl (0 : Int32) (by decide) dX4_readPart_62 ?_
      refine zS_cVv (as := [.int _, .int _]) (st := []) (g' := gX2_addStep) 66 rfl (okX2_addStep _ _ _ _ g6) dX4_readPart_63 zC2 g6 zw758 cbX2_addStep rfl rfl ⟨(by show 1 + 1 ≤ 4 + (dd + 1); omega), (by decide)⟩ (Nat.le_of_ble_eq_true rfl) (fun r7 w8 => ?_)
      refine zS_goto 82 dX4_readPart_66 (by decide) ?_
      refine zS_sub [] (show _ = [] from rfl) ?_
      exact sX4_readPart_82 c_X4_readEither c_X4_readPart dd hc_X4_readEither hc_X4_readPart _
    · refine zS_aload_n 70 rfl 0 rfl dX4_readPart_69 ?_
      refine zS_iload_n 71 rfl 1 rfl dX4_readPart_70 ?_
      refine zS_iconst 72 rfl (1 : Int32) (by decide) dX4_readPart_71 ?_
      refine zS_iadd 73 rfl dX4_readPart_72 ?_
      refine zS_cVv (as := [.int _]) (st := []) (g' := (gX4_readEither dd)) 76 rfl (hc_X4_readEither _ _ _ h0) dX4_readPart_73 zC4 h0 zw746 cbX4_readEither rfl rfl ⟨(by show 4 + dd + 1 ≤ 4 + (dd + 1); omega), (by show 4 ≤ 40; decide)⟩ (Nat.le_of_ble_eq_true rfl) (fun r9 w10 => ?_)
      refine zS_aload_n 77 rfl 0 rfl dX4_readPart_76 ?_
      refine zS_bipush 79 rfl (41 : Int32) (by decide) dX4_readPart_77 ?_
      refine zS_cVv (as := [.int _]) (st := []) (g' := gX4_need) 82 rfl (okX4_need _ _ _ h0) dX4_readPart_79 zC4 h0 zw726 cbX4_need rfl rfl ⟨(by show 2 + 1 ≤ 4 + (dd + 1); omega), (by decide)⟩ (Nat.le_of_ble_eq_true rfl) (fun r11 w12 => ?_)
      refine zS_sub [] (show _ = [] from rfl) ?_
      exact sX4_readPart_82 c_X4_readEither c_X4_readPart dd hc_X4_readEither hc_X4_readPart _
  · refine zS_aload_n 28 rfl 0 rfl dX4_readPart_27 ?_
    refine zS_iconst 29 rfl (1 : Int32) (by decide) dX4_readPart_28 ?_
    refine zS_putfb 32 rfl 3 dX4_readPart_29 zC4 zw380 (by decide) rfl rfl rfl h0 ?_
    refine zS_bnw (fun w13 => ?_)
    exact zS_retv dX4_readPart_32 rfl

set_option maxHeartbeats 4000000 in
set_option maxRecDepth 100000 in
theorem sX4_readPartb (c_X4_readEither : Nat → Int32 → zWd → Option (Unit × zWd)) (c_X4_readPart : Nat → Int32 → zWd → Option (Unit × zWd)) (dd : Nat) (hc_X4_readEither : ∀ (a0 : Nat) (a1 : Int32) (w : zWd), zShp a0 = (4, 4) → zOk (gX4_readEither dd) zEv [.ref a0, .int a1] w (c_X4_readEither a0 a1 w)) (hc_X4_readPart : ∀ (a0 : Nat) (a1 : Int32) (w : zWd), zShp a0 = (4, 4) → zOk (gX4_readPart dd) zEv [.ref a0, .int a1] w (c_X4_readPart a0 a1 w)) (v0 : Nat) (v1 : Int32) (h0 : zShp v0 = (4, 4)) (w : zWd) : zS (gX4_readPart (dd + 1)) zEv 0 [(0, .ref v0), (1, .int v1)] [] w (mX4_readPartb c_X4_readEither c_X4_readPart v0 v1 w) := by
  unfold mX4_readPartb
  refine zS_aload_n 1 rfl 0 rfl dX4_readPart_0 ?_
  refine zS_cVi (as := []) (st := []) (g' := gX4_now) 4 rfl (okX4_now _ _ h0) dX4_readPart_1 zC4 h0 zw738 cbX4_now rfl rfl ⟨(by show 1 + 1 ≤ 4 + (dd + 1); omega), (by decide)⟩ (Nat.le_of_ble_eq_true rfl) (fun r1 w2 => ?_)
  refine zS_istore_n 5 rfl dX4_readPart_4 (by show 2 < 3; decide) (show _ = [(2, .int _), (0, .ref _), (1, .int _)] from rfl) ?_
  refine zS_iload_n 6 rfl 0 rfl dX4_readPart_5 ?_
  refine zS_bipush 8 rfl (33 : Int32) (by decide) dX4_readPart_6 ?_
  refine zS_icmp_eq 22 11 rfl dX4_readPart_8 (by decide) ?_ ?_
  · refine zS_sub [1, 2, 0] (show _ = [(0, .ref _), (1, .int _), (2, .int _)] from rfl) ?_
    exact sX4_readPart_22 c_X4_readEither c_X4_readPart dd hc_X4_readEither hc_X4_readPart _ _ _ h0 _
  · refine zS_iload_n 12 rfl 0 rfl dX4_readPart_11 ?_
    refine zS_bipush 14 rfl (40 : Int32) (by decide) dX4_readPart_12 ?_
    refine zS_icmp_eq 22 17 rfl dX4_readPart_14 (by decide) ?_ ?_
    · refine zS_sub [1, 2, 0] (show _ = [(0, .ref _), (1, .int _), (2, .int _)] from rfl) ?_
      exact sX4_readPart_22 c_X4_readEither c_X4_readPart dd hc_X4_readEither hc_X4_readPart _ _ _ h0 _
    · refine zS_aload_n 18 rfl 1 rfl dX4_readPart_17 ?_
      refine zS_cVv (as := []) (st := []) (g' := gX4_readTest) 21 rfl (okX4_readTest _ _ h0) dX4_readPart_18 zC4 h0 zw754 cbX4_readTest rfl rfl ⟨(by show 3 + 1 ≤ 4 + (dd + 1); omega), (by decide)⟩ (Nat.le_of_ble_eq_true rfl) (fun r14 w15 => ?_)
      exact zS_retv dX4_readPart_21 rfl

theorem okGR : ∀ dd : Nat, (∀ (v0 : Nat) (v1 : Int32) (w : zWd), zShp v0 = (4, 4) → zOk (gX4_readEither dd) zEv [.ref v0, .int v1] w (mGR dd 0 v0 v1 w)) ∧ (∀ (v0 : Nat) (v1 : Int32) (w : zWd), zShp v0 = (4, 4) → zOk (gX4_readPart dd) zEv [.ref v0, .int v1] w (mGR dd 1 v0 v1 w)) := by
  intro dd
  induction dd with
  | zero => exact ⟨fun _ _ _ _ _ _ h => by simp [mGR] at h, fun _ _ _ _ _ _ h => by simp [mGR] at h⟩
  | succ dd ih =>
    obtain ⟨i0, i1⟩ := ih
    exact ⟨fun v0 v1 w h0 => zOk_of (by show plainName RX4 = true; decide) rfl (Nat.le_of_ble_eq_true rfl) (sX4_readEitherb (mGR dd 0) (mGR dd 1) dd i0 i1 v0 v1 h0 w), fun v0 v1 w h0 => zOk_of (by show plainName RX4 = true; decide) rfl (Nat.le_of_ble_eq_true rfl) (sX4_readPartb (mGR dd 0) (mGR dd 1) dd i0 i1 v0 v1 h0 w)⟩
theorem okX4_readEither (v0 : Nat) (v1 : Int32) (w : zWd) (h0 : zShp v0 = (4, 4)) : zOk (gX4_readEither 40) zEv [.ref v0, .int v1] w (mX4_readEither v0 v1 w) := (okGR 40).1 v0 v1 w h0
theorem okX4_readPart (v0 : Nat) (v1 : Int32) (w : zWd) (h0 : zShp v0 = (4, 4)) : zOk (gX4_readPart 40) zEv [.ref v0, .int v1] w (mX4_readPart v0 v1 w) := (okGR 40).2 v0 v1 w h0

abbrev gX4_read : zMth := (yX4_read, cX4_read, 8, (some .int), 45, zE0)
theorem cbX4_read : zCbV yX4_read cX4_read 8 (some .int) 3 := ⟨zw653, zw654, zw85, zw655, by decide, by decide, by decide +kernel⟩
set_option maxHeartbeats 4000000 in
set_option maxRecDepth 100000 in
theorem sX4_read_171 (v0 : Nat) (s0 : Int32) (h0 : zShp v0 = (4, 4)) (w : zWd) : zS gX4_read zEi 171 [(0, .ref v0)] [.int s0] w (mX4_read_171 v0 s0 w) := by
  unfold mX4_read_171
  refine zS_istore 173 rfl dX4_read_171 (by show 4 < 8; decide) (show _ = [(4, .int _), (0, .ref _)] from rfl) ?_
  refine zS_aload_n 174 rfl 1 rfl dX4_read_173 ?_
  refine zS_getfd 177 rfl 0 dX4_read_174 zC4 zw377 (by decide) rfl h0 ?_
  refine zS_gd (fun g9 => ?_)
  refine zS_iconst 178 rfl (0 : Int32) (by decide) dX4_read_177 ?_
  refine zS_putfi 181 rfl 0 dX4_read_178 zC9 zw172 (by decide) rfl rfl rfl g9 ?_
  refine zS_bnw (fun w10 => ?_)
  refine zS_iload 183 rfl 0 rfl dX4_read_181 ?_
  exact zS_reti dX4_read_183 rfl

set_option maxHeartbeats 4000000 in
set_option maxRecDepth 100000 in
theorem sX4_read_163 (v0 : Nat) (h0 : zShp v0 = (4, 4)) (w : zWd) : zS gX4_read zEi 163 [(0, .ref v0)] [] w (mX4_read_163 v0 w) := by
  unfold mX4_read_163
  refine zS_aload_n 164 rfl 0 rfl dX4_read_163 ?_
  refine zS_getfi 167 rfl 2 dX4_read_164 zC4 zw379 (by decide) rfl h0 ?_
  refine zS_goto 171 dX4_read_167 (by decide) ?_
  exact sX4_read_171 _ _ h0 _

set_option maxHeartbeats 4000000 in
set_option maxRecDepth 100000 in
theorem sX4_read_142 (v0 : Nat) (h0 : zShp v0 = (4, 4)) (w : zWd) : zS gX4_read zEi 142 [(0, .ref v0)] [] w (mX4_read_142 v0 w) := by
  unfold mX4_read_142
  refine zS_aload_n 143 rfl 0 rfl dX4_read_142 ?_
  refine zS_getfi 146 rfl 3 dX4_read_143 zC4 zw380 (by decide) rfl h0 ?_
  refine zS_if_ne 163 149 rfl dX4_read_146 (by decide) ?_ ?_
  · refine zS_aload_n 150 rfl 0 rfl dX4_read_149 ?_
    refine zS_getfi 153 rfl 2 dX4_read_150 zC4 zw379 (by decide) rfl h0 ?_
    refine zS_aload_n 154 rfl 0 rfl dX4_read_153 ?_
    refine zS_getfd 157 rfl 0 dX4_read_154 zC4 zw377 (by decide) rfl h0 ?_
    refine zS_gd (fun g8 => ?_)
    refine zS_getfi 160 rfl 0 dX4_read_157 zC9 zw172 (by decide) rfl g8 ?_
    refine zS_icmp_ge 170 163 rfl dX4_read_160 (by decide) ?_ ?_
    · refine zS_iconst 171 rfl (-1 : Int32) (by decide) dX4_read_170 ?_
      exact sX4_read_171 _ _ h0 _
    · exact sX4_read_163 _ h0 _
  · exact sX4_read_163 _ h0 _

set_option maxHeartbeats 4000000 in
set_option maxRecDepth 100000 in
theorem sX4_read_94 (k31 : Int32 × zWd → Option (Int32 × zWd)) (v0 : Nat) (v4 : Int32) (v5 : Int32) (v6 : Int32) (v7 : Int32) (hk31 : ∀ (v4 : Int32) (w : zWd), zS gX4_read zEi 31 [(0, .ref v0), (4, .int v4)] [] w (k31 (v4, w))) (h0 : zShp v0 = (4, 4)) (w : zWd) : zS gX4_read zEi 94 [(0, .ref v0), (4, .int v4), (5, .int v5), (6, .int v6), (7, .int v7)] [] w (mX4_read_94 k31 v0 v4 v5 v6 v7 w) := by
  unfold mX4_read_94
  refine zS_aload_n 95 rfl 0 rfl dX4_read_94 ?_
  refine zS_getfi 98 rfl 3 dX4_read_95 zC4 zw380 (by decide) rfl h0 ?_
  refine zS_if_eq 104 101 rfl dX4_read_98 (by decide) ?_ ?_
  · refine zS_aload_n 105 rfl 0 rfl dX4_read_104 ?_
    refine zS_getfd 108 rfl 1 dX4_read_105 zC4 zw378 (by decide) rfl h0 ?_
    refine zS_gd (fun g23 => ?_)
    refine zS_iload 110 rfl 2 rfl dX4_read_108 ?_
    refine zS_iload 112 rfl 3 rfl dX4_read_110 ?_
    refine zS_iload 114 rfl 4 rfl dX4_read_112 ?_
    refine zS_cVv (as := [.int _, .int _, .int _]) (st := []) (g' := gX2_addClause) 117 rfl (okX2_addClause _ _ _ _ _ g23) dX4_read_114 zC2 g23 zw762 cbX2_addClause rfl rfl (by decide) (Nat.le_of_ble_eq_true rfl) (fun r24 w25 => ?_)
    refine zS_iload 119 rfl 1 rfl dX4_read_117 ?_
    refine zS_bipush 121 rfl (7 : Int32) (by decide) dX4_read_119 ?_
    refine zS_icmp_eq 142 124 rfl dX4_read_121 (by decide) ?_ ?_
    · refine zS_sub [0] (show _ = [(0, .ref _)] from rfl) ?_
      exact sX4_read_142 _ h0 _
    · refine zS_aload_n 125 rfl 0 rfl dX4_read_124 ?_
      refine zS_bipush 127 rfl (59 : Int32) (by decide) dX4_read_125 ?_
      refine zS_cVi (as := [.int _]) (st := []) (g' := gX4_take) 130 rfl (okX4_take _ _ _ h0) dX4_read_127 zC4 h0 zw730 cbX4_take rfl rfl (by decide) (Nat.le_of_ble_eq_true rfl) (fun r26 w27 => ?_)
      refine zS_if_ne 136 133 rfl dX4_read_130 (by decide) ?_ ?_
      · refine zS_goto 142 dX4_read_133 (by decide) ?_
        refine zS_sub [0] (show _ = [(0, .ref _)] from rfl) ?_
        exact sX4_read_142 _ h0 _
      · refine zS_iinc 139 rfl 1 (_ + (1 : Int32)) dX4_read_136 rfl (by show 4 < 8; decide) rfl (show _ = [(4, .int _), (0, .ref _), (5, .int _), (6, .int _), (7, .int _)] from rfl) ?_
        refine zS_goto 31 dX4_read_139 (by decide) ?_
        refine zS_sub [1, 0] (show _ = [(0, .ref _), (4, .int _)] from rfl) ?_
        exact hk31 _ _
  · refine zS_goto 142 dX4_read_101 (by decide) ?_
    refine zS_sub [0] (show _ = [(0, .ref _)] from rfl) ?_
    exact sX4_read_142 _ h0 _

set_option maxHeartbeats 4000000 in
set_option maxRecDepth 100000 in
theorem sX4_read_67 (k31 : Int32 × zWd → Option (Int32 × zWd)) (v0 : Nat) (v4 : Int32) (v5 : Int32) (s0 : Int32) (hk31 : ∀ (v4 : Int32) (w : zWd), zS gX4_read zEi 31 [(0, .ref v0), (4, .int v4)] [] w (k31 (v4, w))) (h0 : zShp v0 = (4, 4)) (w : zWd) : zS gX4_read zEi 67 [(0, .ref v0), (4, .int v4), (5, .int v5)] [.int s0] w (mX4_read_67 k31 v0 v4 v5 s0 w) := by
  unfold mX4_read_67
  refine zS_istore 69 rfl dX4_read_67 (by show 6 < 8; decide) (show _ = [(6, .int _), (0, .ref _), (4, .int _), (5, .int _)] from rfl) ?_
  refine zS_aload_n 70 rfl 1 rfl dX4_read_69 ?_
  refine zS_getfd 73 rfl 1 dX4_read_70 zC4 zw378 (by decide) rfl h0 ?_
  refine zS_gd (fun g17 => ?_)
  refine zS_getfi 76 rfl 6 dX4_read_73 zC2 zw202 (by decide) rfl g17 ?_
  refine zS_bni (fun x18 => ?_)
  refine zS_istore 78 rfl dX4_read_76 (by show 7 < 8; decide) (show _ = [(7, .int _), (6, .int _), (0, .ref _), (4, .int _), (5, .int _)] from rfl) ?_
  refine zS_iload 80 rfl 4 rfl dX4_read_78 ?_
  refine zS_if_ne 94 83 rfl dX4_read_80 (by decide) ?_ ?_
  · refine zS_aload_n 84 rfl 2 rfl dX4_read_83 ?_
    refine zS_bipush 86 rfl (32 : Int32) (by decide) dX4_read_84 ?_
    refine zS_cVv (as := [.int _]) (st := []) (g' := gX4_need) 89 rfl (okX4_need _ _ _ h0) dX4_read_86 zC4 h0 zw726 cbX4_need rfl rfl (by decide) (Nat.le_of_ble_eq_true rfl) (fun r19 w20 => ?_)
    refine zS_aload_n 90 rfl 2 rfl dX4_read_89 ?_
    refine zS_iconst 91 rfl (0 : Int32) (by decide) dX4_read_90 ?_
    refine zS_cVv (as := [.int _]) (st := []) (g' := (gX4_readEither 40)) 94 rfl (okX4_readEither _ _ _ h0) dX4_read_91 zC4 h0 zw746 cbX4_readEither rfl rfl (by decide) (Nat.le_of_ble_eq_true rfl) (fun r21 w22 => ?_)
    refine zS_sub [2, 3, 4, 1, 0] (show _ = [(0, .ref _), (4, .int _), (5, .int _), (6, .int _), (7, .int _)] from rfl) ?_
    exact sX4_read_94 k31 _ _ _ _ _ hk31 h0 _
  · refine zS_sub [2, 3, 4, 1, 0] (show _ = [(0, .ref _), (4, .int _), (5, .int _), (6, .int _), (7, .int _)] from rfl) ?_
    exact sX4_read_94 k31 _ _ _ _ _ hk31 h0 _

set_option maxHeartbeats 4000000 in
set_option maxRecDepth 100000 in
theorem sX4_read_31b (v0 : Nat) (k31 : Int32 × zWd → Option (Int32 × zWd)) (v4 : Int32) (hk31 : ∀ (v4 : Int32) (w : zWd), zS gX4_read zEi 31 [(0, .ref v0), (4, .int v4)] [] w (k31 (v4, w))) (h0 : zShp v0 = (4, 4)) (w : zWd) : zS gX4_read zEi 31 [(0, .ref v0), (4, .int v4)] [] w (mX4_read_31b v0 k31 v4 w) := by
  unfold mX4_read_31b
  refine zS_iload 33 rfl 1 rfl dX4_read_31 ?_
  refine zS_bipush 35 rfl (8 : Int32) (by decide) dX4_read_33 ?_
  refine zS_icmp_ge 142 38 rfl dX4_read_35 (by decide) ?_ ?_
  · refine zS_sub [0] (show _ = [(0, .ref _)] from rfl) ?_
    exact sX4_read_142 _ h0 _
  · refine zS_aload_n 39 rfl 0 rfl dX4_read_38 ?_
    refine zS_cVi (as := []) (st := []) (g' := gX4_readWord) 42 rfl (okX4_readWord _ _ h0) dX4_read_39 zC4 h0 zw660 cbX4_readWord rfl rfl (by decide) (Nat.le_of_ble_eq_true rfl) (fun r11 w12 => ?_)
    refine zS_istore 44 rfl dX4_read_42 (by show 5 < 8; decide) (show _ = [(5, .int _), (0, .ref _), (4, .int _)] from rfl) ?_
    refine zS_aload_n 45 rfl 1 rfl dX4_read_44 ?_
    refine zS_bipush 47 rfl (32 : Int32) (by decide) dX4_read_45 ?_
    refine zS_cVv (as := [.int _]) (st := []) (g' := gX4_need) 50 rfl (okX4_need _ _ _ h0) dX4_read_47 zC4 h0 zw726 cbX4_need rfl rfl (by decide) (Nat.le_of_ble_eq_true rfl) (fun r13 w14 => ?_)
    refine zS_iload 52 rfl 0 rfl dX4_read_50 ?_
    refine zS_iconst 53 rfl (5 : Int32) (by decide) dX4_read_52 ?_
    refine zS_icmp_ne 63 56 rfl dX4_read_53 (by decide) ?_ ?_
    · refine zS_aload_n 57 rfl 1 rfl dX4_read_56 ?_
      refine zS_cVi (as := []) (st := []) (g' := gX4_readShare) 60 rfl (okX4_readShare _ _ h0) dX4_read_57 zC4 h0 zw734 cbX4_readShare rfl rfl (by decide) (Nat.le_of_ble_eq_true rfl) (fun r15 w16 => ?_)
      refine zS_goto 67 dX4_read_60 (by decide) ?_
      refine zS_sub [1, 2, 0] (show _ = [(0, .ref _), (4, .int _), (5, .int _)] from rfl) ?_
      exact sX4_read_67 k31 _ _ _ _ hk31 h0 _
    · refine zS_aload_n 64 rfl 1 rfl dX4_read_63 ?_
      refine zS_cVi (as := []) (st := []) (g' := gX4_readNumber) 67 rfl (okX4_readNumber _ _ h0) dX4_read_64 zC4 h0 zw742 cbX4_readNumber rfl rfl (by decide) (Nat.le_of_ble_eq_true rfl) (fun r28 w29 => ?_)
      refine zS_sub [1, 2, 0] (show _ = [(0, .ref _), (4, .int _), (5, .int _)] from rfl) ?_
      exact sX4_read_67 k31 _ _ _ _ hk31 h0 _

theorem sX4_read_31 (v0 : Nat) (v4 : Int32) (h0 : zShp v0 = (4, 4)) (w : zWd) : zS gX4_read zEi 31 [(0, .ref v0), (4, .int v4)] [] w (mX4_read_31 v0 v4 w) :=
  zS_loop (L := fun q : Int32 × zWd => [(0, .ref v0), (4, .int q.1)]) (V := fun q => q.2) (T := fun _ => []) (F := fun k q => mX4_read_31b v0 k q.1 q.2) (fun k hk q => sX4_read_31b v0 k q.1 (fun a4 w => hk (a4, w)) h0 q.2) zFU (v4, w)
set_option maxHeartbeats 4000000 in
set_option maxRecDepth 100000 in
theorem sX4_read (v0 : Nat) (v1 : Nat) (v2 : Nat) (v3 : Int32) (h0 : zShp v0 = (4, 4)) (h1 : zShp v1 = (9, 2)) (h2 : zShp v2 = (2, 8)) (w : zWd) : zS gX4_read zEi 0 [(0, .ref v0), (1, .ref v1), (2, .ref v2), (3, .int v3)] [] w (mX4_read v0 v1 v2 v3 w) := by
  unfold mX4_read
  refine zS_aload_n 1 rfl 0 rfl dX4_read_0 ?_
  refine zS_aload_n 2 rfl 1 rfl dX4_read_1 ?_
  refine zS_putfd (n := "HotSprings$Tape") 5 rfl 0 dX4_read_2 zC4 zw377 (by decide) rfl rfl (Or.inl rfl) (zNe0 h1 (by decide)) (zShp_lt h1 (by decide)) h0 ?_
  refine zS_bnw (fun w1 => ?_)
  refine zS_aload_n 6 rfl 0 rfl dX4_read_5 ?_
  refine zS_aload_n 7 rfl 2 rfl dX4_read_6 ?_
  refine zS_putfd (n := "HotSprings$Order") 10 rfl 1 dX4_read_7 zC4 zw378 (by decide) rfl rfl (Or.inl rfl) (zNe0 h2 (by decide)) (zShp_lt h2 (by decide)) h0 ?_
  refine zS_bnw (fun w2 => ?_)
  refine zS_aload_n 11 rfl 0 rfl dX4_read_10 ?_
  refine zS_iconst 12 rfl (0 : Int32) (by decide) dX4_read_11 ?_
  refine zS_putfi 15 rfl 2 dX4_read_12 zC4 zw379 (by decide) rfl rfl rfl h0 ?_
  refine zS_bnw (fun w3 => ?_)
  refine zS_aload_n 16 rfl 0 rfl dX4_read_15 ?_
  refine zS_iconst 17 rfl (0 : Int32) (by decide) dX4_read_16 ?_
  refine zS_putfb 20 rfl 3 dX4_read_17 zC4 zw380 (by decide) rfl rfl rfl h0 ?_
  refine zS_bnw (fun w4 => ?_)
  refine zS_aload_n 21 rfl 0 rfl dX4_read_20 ?_
  refine zS_getfd 24 rfl 1 dX4_read_21 zC4 zw378 (by decide) rfl h0 ?_
  refine zS_gd (fun g5 => ?_)
  refine zS_iload_n 25 rfl 3 rfl dX4_read_24 ?_
  refine zS_cVv (as := [.int _]) (st := []) (g' := gX2_clear) 28 rfl (okX2_clear _ _ _ g5) dX4_read_25 zC2 g5 zw656 cbX2_clear rfl rfl (by decide) (Nat.le_of_ble_eq_true rfl) (fun r6 w7 => ?_)
  refine zS_iconst 29 rfl (0 : Int32) (by decide) dX4_read_28 ?_
  refine zS_istore 31 rfl dX4_read_29 (by show 4 < 8; decide) (show _ = [(4, .int _), (0, .ref _), (1, .ref _), (2, .ref _), (3, .int _)] from rfl) ?_
  refine zS_sub [1, 0] (show _ = [(0, .ref _), (4, .int _)] from rfl) ?_
  exact sX4_read_31 _ _ h0 _

theorem okX4_read (v0 : Nat) (v1 : Nat) (v2 : Nat) (v3 : Int32) (w : zWd) (h0 : zShp v0 = (4, 4)) (h1 : zShp v1 = (9, 2)) (h2 : zShp v2 = (2, 8)) : zOk gX4_read zEi [.ref v0, .ref v1, .ref v2, .int v3] w (mX4_read v0 v1 v2 v3 w) := zOk_of (by decide) rfl (Nat.le_of_ble_eq_true rfl) (sX4_read v0 v1 v2 v3 h0 h1 h2 w)
abbrev gX5_isAhead : zMth := (yX5_isAhead, cX5_isAhead, 4, (some .boolean), 1, zE0)
theorem cbX5_isAhead : zCbV yX5_isAhead cX5_isAhead 4 (some .boolean) 3 := ⟨zw818, zw24, zw86, zw819, by decide, by decide, by decide +kernel⟩
set_option maxHeartbeats 4000000 in
set_option maxRecDepth 100000 in
theorem sX5_isAhead_58 (s0 : Int32) (w : zWd) : zS gX5_isAhead zEi 58 [] [.int s0] w (mX5_isAhead_58 s0 w) := by
  unfold mX5_isAhead_58
  exact zS_retb dX5_isAhead_58 rfl

set_option maxHeartbeats 4000000 in
set_option maxRecDepth 100000 in
theorem sX5_isAhead (v0 : Nat) (v1 : Nat) (v2 : Int32) (v3 : Int32) (h0 : zShp v0 = (5, 3)) (h1 : zShp v1 = (8, 13)) (w : zWd) : zS gX5_isAhead zEi 0 [(0, .ref v0), (1, .ref v1), (2, .int v2), (3, .int v3)] [] w (mX5_isAhead v0 v1 v2 v3 w) := by
  unfold mX5_isAhead
  refine zS_aload_n 1 rfl 0 rfl dX5_isAhead_0 ?_
  refine zS_getfp 4 rfl 1 dX5_isAhead_1 zC5 zw399 (by decide) rfl h0 ?_
  refine zS_iload_n 5 rfl 2 rfl dX5_isAhead_4 ?_
  refine zS_iald 6 rfl dX5_isAhead_5 (zP5_rank h0) ?_
  refine zS_aload_n 7 rfl 0 rfl dX5_isAhead_6 ?_
  refine zS_getfp 10 rfl 1 dX5_isAhead_7 zC5 zw399 (by decide) rfl h0 ?_
  refine zS_iload_n 11 rfl 3 rfl dX5_isAhead_10 ?_
  refine zS_iald 12 rfl dX5_isAhead_11 (zP5_rank h0) ?_
  refine zS_icmp_eq 38 15 rfl dX5_isAhead_12 (by decide) ?_ ?_
  · refine zS_aload_n 39 rfl 1 rfl dX5_isAhead_38 ?_
    refine zS_getfp 42 rfl 5 dX5_isAhead_39 zC8 zw252 (by decide) rfl h1 ?_
    refine zS_iload_n 43 rfl 2 rfl dX5_isAhead_42 ?_
    refine zS_iald 44 rfl dX5_isAhead_43 (zP8_since h1) ?_
    refine zS_aload_n 45 rfl 1 rfl dX5_isAhead_44 ?_
    refine zS_getfp 48 rfl 5 dX5_isAhead_45 zC8 zw252 (by decide) rfl h1 ?_
    refine zS_iload_n 49 rfl 3 rfl dX5_isAhead_48 ?_
    refine zS_iald 50 rfl dX5_isAhead_49 (zP8_since h1) ?_
    refine zS_icmp_ge 57 53 rfl dX5_isAhead_50 (by decide) ?_ ?_
    · refine zS_iconst 58 rfl (0 : Int32) (by decide) dX5_isAhead_57 ?_
      refine zS_sub [] (show _ = [] from rfl) ?_
      exact sX5_isAhead_58 _ _
    · refine zS_iconst 54 rfl (1 : Int32) (by decide) dX5_isAhead_53 ?_
      refine zS_goto 58 dX5_isAhead_54 (by decide) ?_
      refine zS_sub [] (show _ = [] from rfl) ?_
      exact sX5_isAhead_58 _ _
  · refine zS_aload_n 16 rfl 0 rfl dX5_isAhead_15 ?_
    refine zS_getfp 19 rfl 1 dX5_isAhead_16 zC5 zw399 (by decide) rfl h0 ?_
    refine zS_iload_n 20 rfl 2 rfl dX5_isAhead_19 ?_
    refine zS_iald 21 rfl dX5_isAhead_20 (zP5_rank h0) ?_
    refine zS_aload_n 22 rfl 0 rfl dX5_isAhead_21 ?_
    refine zS_getfp 25 rfl 1 dX5_isAhead_22 zC5 zw399 (by decide) rfl h0 ?_
    refine zS_iload_n 26 rfl 3 rfl dX5_isAhead_25 ?_
    refine zS_iald 27 rfl dX5_isAhead_26 (zP5_rank h0) ?_
    refine zS_icmp_ge 34 30 rfl dX5_isAhead_27 (by decide) ?_ ?_
    · refine zS_iconst 35 rfl (0 : Int32) (by decide) dX5_isAhead_34 ?_
      refine zS_goto 58 dX5_isAhead_35 (by decide) ?_
      refine zS_sub [] (show _ = [] from rfl) ?_
      exact sX5_isAhead_58 _ _
    · refine zS_iconst 31 rfl (1 : Int32) (by decide) dX5_isAhead_30 ?_
      refine zS_goto 58 dX5_isAhead_31 (by decide) ?_
      refine zS_sub [] (show _ = [] from rfl) ?_
      exact sX5_isAhead_58 _ _

theorem okX5_isAhead (v0 : Nat) (v1 : Nat) (v2 : Int32) (v3 : Int32) (w : zWd) (h0 : zShp v0 = (5, 3)) (h1 : zShp v1 = (8, 13)) : zOk gX5_isAhead zEi [.ref v0, .ref v1, .int v2, .int v3] w (mX5_isAhead v0 v1 v2 v3 w) := zOk_of (by decide) rfl (Nat.le_of_ble_eq_true rfl) (sX5_isAhead v0 v1 v2 v3 h0 h1 w)
abbrev gX5_insert : zMth := (yX5_insert, cX5_insert, 4, none, 2, zE0)
theorem cbX5_insert : zCbV yX5_insert cX5_insert 4 none 2 := ⟨zw814, zw23, zw86, zw815, by decide, by decide, by decide +kernel⟩
set_option maxHeartbeats 4000000 in
set_option maxRecDepth 100000 in
theorem sX5_insert_43 (v0 : Nat) (v2 : Int32) (v3 : Int32) (h0 : zShp v0 = (5, 3)) (w : zWd) : zS gX5_insert zEv 43 [(0, .ref v0), (2, .int v2), (3, .int v3)] [] w (mX5_insert_43 v0 v2 v3 w) := by
  unfold mX5_insert_43
  refine zS_aload_n 44 rfl 0 rfl dX5_insert_43 ?_
  refine zS_getfp 47 rfl 2 dX5_insert_44 zC5 zw401 (by decide) rfl h0 ?_
  refine zS_iload_n 48 rfl 2 rfl dX5_insert_47 ?_
  refine zS_iload_n 49 rfl 1 rfl dX5_insert_48 ?_
  refine zS_iast 50 rfl dX5_insert_49 (zP5_order h0) ?_
  refine zS_bnw (fun w1 => ?_)
  exact zS_retv dX5_insert_50 rfl

set_option maxHeartbeats 4000000 in
set_option maxRecDepth 100000 in
theorem sX5_insert_2b (v0 : Nat) (v1 : Nat) (v2 : Int32) (k2 : Int32 × zWd → Option (Unit × zWd)) (v3 : Int32) (hk2 : ∀ (v3 : Int32) (w : zWd), zS gX5_insert zEv 2 [(0, .ref v0), (1, .ref v1), (2, .int v2), (3, .int v3)] [] w (k2 (v3, w))) (h0 : zShp v0 = (5, 3)) (h1 : zShp v1 = (8, 13)) (w : zWd) : zS gX5_insert zEv 2 [(0, .ref v0), (1, .ref v1), (2, .int v2), (3, .int v3)] [] w (mX5_insert_2b v0 v1 v2 k2 v3 w) := by
  unfold mX5_insert_2b
  refine zS_iload_n 3 rfl 3 rfl dX5_insert_2 ?_
  refine zS_if_le 43 6 rfl dX5_insert_3 (by decide) ?_ ?_
  · refine zS_sub [0, 2, 3] (show _ = [(0, .ref _), (2, .int _), (3, .int _)] from rfl) ?_
    exact sX5_insert_43 _ _ _ h0 _
  · refine zS_aload_n 7 rfl 0 rfl dX5_insert_6 ?_
    refine zS_aload_n 8 rfl 1 rfl dX5_insert_7 ?_
    refine zS_iload_n 9 rfl 2 rfl dX5_insert_8 ?_
    refine zS_aload_n 10 rfl 0 rfl dX5_insert_9 ?_
    refine zS_getfp 13 rfl 2 dX5_insert_10 zC5 zw401 (by decide) rfl h0 ?_
    refine zS_iload_n 14 rfl 3 rfl dX5_insert_13 ?_
    refine zS_iconst 15 rfl (1 : Int32) (by decide) dX5_insert_14 ?_
    refine zS_isub 16 rfl dX5_insert_15 ?_
    refine zS_iald 17 rfl dX5_insert_16 (zP5_order h0) ?_
    refine zS_cVi (as := [.ref _, .int _, .int _]) (st := []) (g' := gX5_isAhead) 20 rfl (okX5_isAhead _ _ _ _ _ h0 h1) dX5_insert_17 zC5 h0 zw816 cbX5_isAhead rfl rfl (by decide) (Nat.le_of_ble_eq_true rfl) (fun r2 w3 => ?_)
    refine zS_if_eq 43 23 rfl dX5_insert_20 (by decide) ?_ ?_
    · refine zS_sub [0, 2, 3] (show _ = [(0, .ref _), (2, .int _), (3, .int _)] from rfl) ?_
      exact sX5_insert_43 _ _ _ h0 _
    · refine zS_aload_n 24 rfl 0 rfl dX5_insert_23 ?_
      refine zS_getfp 27 rfl 2 dX5_insert_24 zC5 zw401 (by decide) rfl h0 ?_
      refine zS_iload_n 28 rfl 3 rfl dX5_insert_27 ?_
      refine zS_aload_n 29 rfl 0 rfl dX5_insert_28 ?_
      refine zS_getfp 32 rfl 2 dX5_insert_29 zC5 zw401 (by decide) rfl h0 ?_
      refine zS_iload_n 33 rfl 3 rfl dX5_insert_32 ?_
      refine zS_iconst 34 rfl (1 : Int32) (by decide) dX5_insert_33 ?_
      refine zS_isub 35 rfl dX5_insert_34 ?_
      refine zS_iald 36 rfl dX5_insert_35 (zP5_order h0) ?_
      refine zS_iast 37 rfl dX5_insert_36 (zP5_order h0) ?_
      refine zS_bnw (fun w4 => ?_)
      refine zS_iinc 40 rfl 3 (_ + (-1 : Int32)) dX5_insert_37 rfl (by show 3 < 4; decide) rfl (show _ = [(3, .int _), (0, .ref _), (1, .ref _), (2, .int _)] from rfl) ?_
      refine zS_goto 2 dX5_insert_40 (by decide) ?_
      refine zS_sub [1, 2, 3, 0] (show _ = [(0, .ref _), (1, .ref _), (2, .int _), (3, .int _)] from rfl) ?_
      exact hk2 _ _

theorem sX5_insert_2 (v0 : Nat) (v1 : Nat) (v2 : Int32) (v3 : Int32) (h0 : zShp v0 = (5, 3)) (h1 : zShp v1 = (8, 13)) (w : zWd) : zS gX5_insert zEv 2 [(0, .ref v0), (1, .ref v1), (2, .int v2), (3, .int v3)] [] w (mX5_insert_2 v0 v1 v2 v3 w) :=
  zS_loop (L := fun q : Int32 × zWd => [(0, .ref v0), (1, .ref v1), (2, .int v2), (3, .int q.1)]) (V := fun q => q.2) (T := fun _ => []) (F := fun k q => mX5_insert_2b v0 v1 v2 k q.1 q.2) (fun k hk q => sX5_insert_2b v0 v1 v2 k q.1 (fun a3 w => hk (a3, w)) h0 h1 q.2) zFU (v3, w)
set_option maxHeartbeats 4000000 in
set_option maxRecDepth 100000 in
theorem sX5_insert (v0 : Nat) (v1 : Nat) (v2 : Int32) (h0 : zShp v0 = (5, 3)) (h1 : zShp v1 = (8, 13)) (w : zWd) : zS gX5_insert zEv 0 [(0, .ref v0), (1, .ref v1), (2, .int v2)] [] w (mX5_insert v0 v1 v2 w) := by
  unfold mX5_insert
  refine zS_iload_n 1 rfl 2 rfl dX5_insert_0 ?_
  refine zS_istore_n 2 rfl dX5_insert_1 (by show 3 < 4; decide) (show _ = [(3, .int _), (0, .ref _), (1, .ref _), (2, .int _)] from rfl) ?_
  refine zS_sub [1, 2, 3, 0] (show _ = [(0, .ref _), (1, .ref _), (2, .int _), (3, .int _)] from rfl) ?_
  exact sX5_insert_2 _ _ _ _ h0 h1 _

theorem okX5_insert (v0 : Nat) (v1 : Nat) (v2 : Int32) (w : zWd) (h0 : zShp v0 = (5, 3)) (h1 : zShp v1 = (8, 13)) : zOk gX5_insert zEv [.ref v0, .ref v1, .int v2] w (mX5_insert v0 v1 v2 w) := zOk_of (by decide) rfl (Nat.le_of_ble_eq_true rfl) (sX5_insert v0 v1 v2 h0 h1 w)
abbrev gX5_form : zMth := (yX5_form, cX5_form, 7, none, 5, zE0)
theorem cbX5_form : zCbV yX5_form cX5_form 7 none 3 := ⟨zw807, zw808, zw86, zw809, by decide, by decide, by decide +kernel⟩
set_option maxHeartbeats 4000000 in
set_option maxRecDepth 100000 in
theorem sX5_form_50 (k11 : Int32 × zWd → Option (Unit × zWd)) (v0 : Nat) (v1 : Nat) (v2 : Nat) (v3 : Int32) (v4 : Int32) (s0 : Int32) (hk11 : ∀ (v4 : Int32) (w : zWd), zS gX5_form zEv 11 [(0, .ref v0), (1, .ref v1), (2, .ref v2), (3, .int v3), (4, .int v4)] [] w (k11 (v4, w))) (h0 : zShp v0 = (5, 3)) (h1 : zShp v1 = (3, 2)) (h2 : zShp v2 = (8, 13)) (w : zWd) : zS gX5_form zEv 50 [(0, .ref v0), (1, .ref v1), (2, .ref v2), (3, .int v3), (4, .int v4)] [.int s0] w (mX5_form_50 k11 v0 v1 v2 v3 v4 s0 w) := by
  unfold mX5_form_50
  refine zS_istore 52 rfl dX5_form_50 (by show 6 < 7; decide) (show _ = [(6, .int _), (0, .ref _), (1, .ref _), (2, .ref _), (3, .int _), (4, .int _)] from rfl) ?_
  refine zS_aload_n 53 rfl 1 rfl dX5_form_52 ?_
  refine zS_getfp 56 rfl 1 dX5_form_53 zC5 zw399 (by decide) rfl h0 ?_
  refine zS_iload 58 rfl 5 rfl dX5_form_56 ?_
  refine zS_aload_n 59 rfl 2 rfl dX5_form_58 ?_
  refine zS_aload_n 60 rfl 2 rfl dX5_form_59 ?_
  refine zS_iconst 61 rfl (0 : Int32) (by decide) dX5_form_60 ?_
  refine zS_aload_n 62 rfl 3 rfl dX5_form_61 ?_
  refine zS_iload 64 rfl 5 rfl dX5_form_62 ?_
  refine zS_iload_n 65 rfl 4 rfl dX5_form_64 ?_
  refine zS_cVi (as := [.int _, .ref _, .int _, .int _]) (st := [.ref _, .int _, .ref _]) (g' := gX3_ruling) 68 rfl (okX3_ruling _ _ _ _ _ _ h1 h2) dX5_form_65 zC3 h1 zw810 cbX3_ruling rfl rfl (by decide) (Nat.le_of_ble_eq_true rfl) (fun r3 w4 => ?_)
  refine zS_iconst 69 rfl (0 : Int32) (by decide) dX5_form_68 ?_
  refine zS_cVi (as := [.int _, .int _]) (st := [.int _, .ref _]) (g' := gX3_numberBy) 72 rfl (okX3_numberBy _ _ _ _ h1) dX5_form_69 zC3 h1 zw811 cbX3_numberBy rfl rfl (by decide) (Nat.le_of_ble_eq_true rfl) (fun r5 w6 => ?_)
  refine zS_iload 74 rfl 0 rfl dX5_form_72 ?_
  refine zS_isub 75 rfl dX5_form_74 ?_
  refine zS_iast 76 rfl dX5_form_75 (zP5_rank h0) ?_
  refine zS_bnw (fun w7 => ?_)
  refine zS_aload_n 77 rfl 1 rfl dX5_form_76 ?_
  refine zS_aload_n 78 rfl 3 rfl dX5_form_77 ?_
  refine zS_iload 80 rfl 5 rfl dX5_form_78 ?_
  refine zS_cVv (as := [.ref _, .int _]) (st := []) (g' := gX5_insert) 83 rfl (okX5_insert _ _ _ _ h0 h2) dX5_form_80 zC5 h0 zw812 cbX5_insert rfl rfl (by decide) (Nat.le_of_ble_eq_true rfl) (fun r8 w9 => ?_)
  refine zS_iinc 86 rfl 5 (_ + (1 : Int32)) dX5_form_83 rfl (by show 4 < 7; decide) rfl (show _ = [(4, .int _), (6, .int _), (0, .ref _), (1, .ref _), (2, .ref _), (3, .int _)] from rfl) ?_
  refine zS_goto 11 dX5_form_86 (by decide) ?_
  refine zS_sub [2, 3, 4, 5, 0] (show _ = [(0, .ref _), (1, .ref _), (2, .ref _), (3, .int _), (4, .int _)] from rfl) ?_
  exact hk11 _ _

set_option maxHeartbeats 4000000 in
set_option maxRecDepth 100000 in
theorem sX5_form_11b (v0 : Nat) (v1 : Nat) (v2 : Nat) (v3 : Int32) (k11 : Int32 × zWd → Option (Unit × zWd)) (v4 : Int32) (hk11 : ∀ (v4 : Int32) (w : zWd), zS gX5_form zEv 11 [(0, .ref v0), (1, .ref v1), (2, .ref v2), (3, .int v3), (4, .int v4)] [] w (k11 (v4, w))) (h0 : zShp v0 = (5, 3)) (h1 : zShp v1 = (3, 2)) (h2 : zShp v2 = (8, 13)) (w : zWd) : zS gX5_form zEv 11 [(0, .ref v0), (1, .ref v1), (2, .ref v2), (3, .int v3), (4, .int v4)] [] w (mX5_form_11b v0 v1 v2 v3 k11 v4 w) := by
  unfold mX5_form_11b
  refine zS_iload 13 rfl 4 rfl dX5_form_11 ?_
  refine zS_aload_n 14 rfl 0 rfl dX5_form_13 ?_
  refine zS_getfi 17 rfl 0 dX5_form_14 zC5 zw396 (by decide) rfl h0 ?_
  refine zS_icmp_ge 89 20 rfl dX5_form_17 (by decide) ?_ ?_
  · exact zS_retv dX5_form_89 rfl
  · refine zS_aload_n 21 rfl 2 rfl dX5_form_20 ?_
    refine zS_getfp 24 rfl 1 dX5_form_21 zC8 zw240 (by decide) rfl h2 ?_
    refine zS_iload 26 rfl 4 rfl dX5_form_24 ?_
    refine zS_iald 27 rfl dX5_form_26 (zP8_kind h2) ?_
    refine zS_bni (fun x2 => ?_)
    refine zS_istore 29 rfl dX5_form_27 (by show 5 < 7; decide) (show _ = [(5, .int _), (0, .ref _), (1, .ref _), (2, .ref _), (3, .int _), (4, .int _)] from rfl) ?_
    refine zS_iload 31 rfl 0 rfl dX5_form_29 ?_
    refine zS_iconst 32 rfl (4 : Int32) (by decide) dX5_form_31 ?_
    refine zS_icmp_ne 39 35 rfl dX5_form_32 (by decide) ?_ ?_
    · refine zS_iconst 36 rfl (1 : Int32) (by decide) dX5_form_35 ?_
      refine zS_goto 50 dX5_form_36 (by decide) ?_
      refine zS_sub [1, 2, 3, 4, 5] (show _ = [(0, .ref _), (1, .ref _), (2, .ref _), (3, .int _), (4, .int _)] from rfl) ?_
      exact sX5_form_50 k11 _ _ _ _ _ _ hk11 h0 h1 h2 _
    · refine zS_iload 41 rfl 0 rfl dX5_form_39 ?_
      refine zS_iconst 42 rfl (5 : Int32) (by decide) dX5_form_41 ?_
      refine zS_icmp_ne 49 45 rfl dX5_form_42 (by decide) ?_ ?_
      · refine zS_iconst 46 rfl (2 : Int32) (by decide) dX5_form_45 ?_
        refine zS_goto 50 dX5_form_46 (by decide) ?_
        refine zS_sub [1, 2, 3, 4, 5] (show _ = [(0, .ref _), (1, .ref _), (2, .ref _), (3, .int _), (4, .int _)] from rfl) ?_
        exact sX5_form_50 k11 _ _ _ _ _ _ hk11 h0 h1 h2 _
      · refine zS_iconst 50 rfl (0 : Int32) (by decide) dX5_form_49 ?_
        refine zS_sub [1, 2, 3, 4, 5] (show _ = [(0, .ref _), (1, .ref _), (2, .ref _), (3, .int _), (4, .int _)] from rfl) ?_
        exact sX5_form_50 k11 _ _ _ _ _ _ hk11 h0 h1 h2 _

theorem sX5_form_11 (v0 : Nat) (v1 : Nat) (v2 : Nat) (v3 : Int32) (v4 : Int32) (h0 : zShp v0 = (5, 3)) (h1 : zShp v1 = (3, 2)) (h2 : zShp v2 = (8, 13)) (w : zWd) : zS gX5_form zEv 11 [(0, .ref v0), (1, .ref v1), (2, .ref v2), (3, .int v3), (4, .int v4)] [] w (mX5_form_11 v0 v1 v2 v3 v4 w) :=
  zS_loop (L := fun q : Int32 × zWd => [(0, .ref v0), (1, .ref v1), (2, .ref v2), (3, .int v3), (4, .int q.1)]) (V := fun q => q.2) (T := fun _ => []) (F := fun k q => mX5_form_11b v0 v1 v2 v3 k q.1 q.2) (fun k hk q => sX5_form_11b v0 v1 v2 v3 k q.1 (fun a4 w => hk (a4, w)) h0 h1 h2 q.2) zFU (v4, w)
set_option maxHeartbeats 4000000 in
set_option maxRecDepth 100000 in
theorem sX5_form (v0 : Nat) (v1 : Nat) (v2 : Nat) (v3 : Int32) (h0 : zShp v0 = (5, 3)) (h1 : zShp v1 = (3, 2)) (h2 : zShp v2 = (8, 13)) (w : zWd) : zS gX5_form zEv 0 [(0, .ref v0), (1, .ref v1), (2, .ref v2), (3, .int v3)] [] w (mX5_form v0 v1 v2 v3 w) := by
  unfold mX5_form
  refine zS_aload_n 1 rfl 0 rfl dX5_form_0 ?_
  refine zS_aload_n 2 rfl 2 rfl dX5_form_1 ?_
  refine zS_getfi 5 rfl 0 dX5_form_2 zC8 zw236 (by decide) rfl h2 ?_
  refine zS_putfi 8 rfl 0 dX5_form_5 zC5 zw396 (by decide) rfl rfl rfl h0 ?_
  refine zS_bnw (fun w1 => ?_)
  refine zS_iconst 9 rfl (0 : Int32) (by decide) dX5_form_8 ?_
  refine zS_istore 11 rfl dX5_form_9 (by show 4 < 7; decide) (show _ = [(4, .int _), (0, .ref _), (1, .ref _), (2, .ref _), (3, .int _)] from rfl) ?_
  refine zS_sub [1, 2, 3, 4, 0] (show _ = [(0, .ref _), (1, .ref _), (2, .ref _), (3, .int _), (4, .int _)] from rfl) ?_
  exact sX5_form_11 _ _ _ _ _ h0 h1 h2 _

theorem okX5_form (v0 : Nat) (v1 : Nat) (v2 : Nat) (v3 : Int32) (w : zWd) (h0 : zShp v0 = (5, 3)) (h1 : zShp v1 = (3, 2)) (h2 : zShp v2 = (8, 13)) : zOk gX5_form zEv [.ref v0, .ref v1, .ref v2, .int v3] w (mX5_form v0 v1 v2 v3 w) := zOk_of (by decide) rfl (Nat.le_of_ble_eq_true rfl) (sX5_form v0 v1 v2 v3 h0 h1 h2 w)
abbrev gX5_placeOf : zMth := (yX5_placeOf, cX5_placeOf, 3, (some .int), 1, zE0)
theorem cbX5_placeOf : zCbV yX5_placeOf cX5_placeOf 3 (some .int) 1 := ⟨zw821, zw822, zw86, zw823, by decide, by decide, by decide +kernel⟩
set_option maxHeartbeats 4000000 in
set_option maxRecDepth 100000 in
theorem sX5_placeOf_2b (v0 : Nat) (v1 : Int32) (k2 : Int32 × zWd → Option (Int32 × zWd)) (v2 : Int32) (hk2 : ∀ (v2 : Int32) (w : zWd), zS gX5_placeOf zEi 2 [(0, .ref v0), (1, .int v1), (2, .int v2)] [] w (k2 (v2, w))) (h0 : zShp v0 = (5, 3)) (w : zWd) : zS gX5_placeOf zEi 2 [(0, .ref v0), (1, .int v1), (2, .int v2)] [] w (mX5_placeOf_2b v0 v1 k2 v2 w) := by
  unfold mX5_placeOf_2b
  refine zS_iload_n 3 rfl 2 rfl dX5_placeOf_2 ?_
  refine zS_aload_n 4 rfl 0 rfl dX5_placeOf_3 ?_
  refine zS_getfi 7 rfl 0 dX5_placeOf_4 zC5 zw396 (by decide) rfl h0 ?_
  refine zS_icmp_ge 28 10 rfl dX5_placeOf_7 (by decide) ?_ ?_
  · refine zS_iconst 29 rfl (-1 : Int32) (by decide) dX5_placeOf_28 ?_
    exact zS_reti dX5_placeOf_29 rfl
  · refine zS_aload_n 11 rfl 0 rfl dX5_placeOf_10 ?_
    refine zS_getfp 14 rfl 2 dX5_placeOf_11 zC5 zw401 (by decide) rfl h0 ?_
    refine zS_iload_n 15 rfl 2 rfl dX5_placeOf_14 ?_
    refine zS_iald 16 rfl dX5_placeOf_15 (zP5_order h0) ?_
    refine zS_iload_n 17 rfl 1 rfl dX5_placeOf_16 ?_
    refine zS_icmp_ne 22 20 rfl dX5_placeOf_17 (by decide) ?_ ?_
    · refine zS_iload_n 21 rfl 2 rfl dX5_placeOf_20 ?_
      exact zS_reti dX5_placeOf_21 rfl
    · refine zS_iinc 25 rfl 2 (_ + (1 : Int32)) dX5_placeOf_22 rfl (by show 2 < 3; decide) rfl (show _ = [(2, .int _), (0, .ref _), (1, .int _)] from rfl) ?_
      refine zS_goto 2 dX5_placeOf_25 (by decide) ?_
      refine zS_sub [1, 2, 0] (show _ = [(0, .ref _), (1, .int _), (2, .int _)] from rfl) ?_
      exact hk2 _ _

theorem sX5_placeOf_2 (v0 : Nat) (v1 : Int32) (v2 : Int32) (h0 : zShp v0 = (5, 3)) (w : zWd) : zS gX5_placeOf zEi 2 [(0, .ref v0), (1, .int v1), (2, .int v2)] [] w (mX5_placeOf_2 v0 v1 v2 w) :=
  zS_loop (L := fun q : Int32 × zWd => [(0, .ref v0), (1, .int v1), (2, .int q.1)]) (V := fun q => q.2) (T := fun _ => []) (F := fun k q => mX5_placeOf_2b v0 v1 k q.1 q.2) (fun k hk q => sX5_placeOf_2b v0 v1 k q.1 (fun a2 w => hk (a2, w)) h0 q.2) zFU (v2, w)
set_option maxHeartbeats 4000000 in
set_option maxRecDepth 100000 in
theorem sX5_placeOf (v0 : Nat) (v1 : Int32) (h0 : zShp v0 = (5, 3)) (w : zWd) : zS gX5_placeOf zEi 0 [(0, .ref v0), (1, .int v1)] [] w (mX5_placeOf v0 v1 w) := by
  unfold mX5_placeOf
  refine zS_iconst 1 rfl (0 : Int32) (by decide) dX5_placeOf_0 ?_
  refine zS_istore_n 2 rfl dX5_placeOf_1 (by show 2 < 3; decide) (show _ = [(2, .int _), (0, .ref _), (1, .int _)] from rfl) ?_
  refine zS_sub [1, 2, 0] (show _ = [(0, .ref _), (1, .int _), (2, .int _)] from rfl) ?_
  exact sX5_placeOf_2 _ _ _ h0 _

theorem okX5_placeOf (v0 : Nat) (v1 : Int32) (w : zWd) (h0 : zShp v0 = (5, 3)) : zOk gX5_placeOf zEi [.ref v0, .int v1] w (mX5_placeOf v0 v1 w) := zOk_of (by decide) rfl (Nat.le_of_ble_eq_true rfl) (sX5_placeOf v0 v1 h0 w)
abbrev gX6_copyFrom : zMth := (yX6_copyFrom, cX6_copyFrom, 2, none, 1, zE0)
theorem cbX6_copyFrom : zCbV yX6_copyFrom cX6_copyFrom 2 none 1 := ⟨zw1091, zw1092, zw84, zw1093, by decide, by decide, by decide +kernel⟩
set_option maxHeartbeats 4000000 in
set_option maxRecDepth 100000 in
theorem sX6_copyFrom (v0 : Nat) (v1 : Nat) (h0 : zShp v0 = (6, 12)) (h1 : zShp v1 = (6, 12)) (w : zWd) : zS gX6_copyFrom zEv 0 [(0, .ref v0), (1, .ref v1)] [] w (mX6_copyFrom v0 v1 w) := by
  unfold mX6_copyFrom
  refine zS_aload_n 1 rfl 0 rfl dX6_copyFrom_0 ?_
  refine zS_aload_n 2 rfl 1 rfl dX6_copyFrom_1 ?_
  refine zS_getfi 5 rfl 0 dX6_copyFrom_2 zC6 zw297 (by decide) rfl h1 ?_
  refine zS_putfi 8 rfl 0 dX6_copyFrom_5 zC6 zw297 (by decide) rfl rfl rfl h0 ?_
  refine zS_bnw (fun w1 => ?_)
  refine zS_aload_n 9 rfl 1 rfl dX6_copyFrom_8 ?_
  refine zS_getfp 12 rfl 1 dX6_copyFrom_9 zC6 zw299 (by decide) rfl h1 ?_
  refine zS_iconst 13 rfl (0 : Int32) (by decide) dX6_copyFrom_12 ?_
  refine zS_aload_n 14 rfl 0 rfl dX6_copyFrom_13 ?_
  refine zS_getfp 17 rfl 1 dX6_copyFrom_14 zC6 zw299 (by decide) rfl h0 ?_
  refine zS_iconst 18 rfl (0 : Int32) (by decide) dX6_copyFrom_17 ?_
  refine zS_bipush 20 rfl (60 : Int32) (by decide) dX6_copyFrom_18 ?_
  refine zS_copy 23 rfl dX6_copyFrom_20 zw1094 zw611 zw610 zw91 (zP6_lookTap h1) (zP6_lookTap h0) (by decide) (Nat.le_of_ble_eq_true rfl) zNfw ?_
  refine zS_bnw (fun w2 => ?_)
  refine zS_aload_n 24 rfl 1 rfl dX6_copyFrom_23 ?_
  refine zS_getfp 27 rfl 2 dX6_copyFrom_24 zC6 zw301 (by decide) rfl h1 ?_
  refine zS_iconst 28 rfl (0 : Int32) (by decide) dX6_copyFrom_27 ?_
  refine zS_aload_n 29 rfl 0 rfl dX6_copyFrom_28 ?_
  refine zS_getfp 32 rfl 2 dX6_copyFrom_29 zC6 zw301 (by decide) rfl h0 ?_
  refine zS_iconst 33 rfl (0 : Int32) (by decide) dX6_copyFrom_32 ?_
  refine zS_bipush 35 rfl (60 : Int32) (by decide) dX6_copyFrom_33 ?_
  refine zS_copy 38 rfl dX6_copyFrom_35 zw1094 zw611 zw610 zw91 (zP6_lookDay h1) (zP6_lookDay h0) (by decide) (Nat.le_of_ble_eq_true rfl) zNfw ?_
  refine zS_bnw (fun w3 => ?_)
  refine zS_aload_n 39 rfl 1 rfl dX6_copyFrom_38 ?_
  refine zS_getfp 42 rfl 3 dX6_copyFrom_39 zC6 zw303 (by decide) rfl h1 ?_
  refine zS_iconst 43 rfl (0 : Int32) (by decide) dX6_copyFrom_42 ?_
  refine zS_aload_n 44 rfl 0 rfl dX6_copyFrom_43 ?_
  refine zS_getfp 47 rfl 3 dX6_copyFrom_44 zC6 zw303 (by decide) rfl h0 ?_
  refine zS_iconst 48 rfl (0 : Int32) (by decide) dX6_copyFrom_47 ?_
  refine zS_bipush 50 rfl (60 : Int32) (by decide) dX6_copyFrom_48 ?_
  refine zS_copy 53 rfl dX6_copyFrom_50 zw1094 zw611 zw610 zw91 (zP6_lookGallons h1) (zP6_lookGallons h0) (by decide) (Nat.le_of_ble_eq_true rfl) zNfw ?_
  refine zS_bnw (fun w4 => ?_)
  refine zS_aload_n 54 rfl 1 rfl dX6_copyFrom_53 ?_
  refine zS_getfp 57 rfl 4 dX6_copyFrom_54 zC6 zw305 (by decide) rfl h1 ?_
  refine zS_iconst 58 rfl (0 : Int32) (by decide) dX6_copyFrom_57 ?_
  refine zS_aload_n 59 rfl 0 rfl dX6_copyFrom_58 ?_
  refine zS_getfp 62 rfl 4 dX6_copyFrom_59 zC6 zw305 (by decide) rfl h0 ?_
  refine zS_iconst 63 rfl (0 : Int32) (by decide) dX6_copyFrom_62 ?_
  refine zS_bipush 65 rfl (60 : Int32) (by decide) dX6_copyFrom_63 ?_
  refine zS_copy 68 rfl dX6_copyFrom_65 zw1094 zw611 zw610 zw91 (zP6_lookHeat h1) (zP6_lookHeat h0) (by decide) (Nat.le_of_ble_eq_true rfl) zNfw ?_
  refine zS_bnw (fun w5 => ?_)
  refine zS_aload_n 69 rfl 0 rfl dX6_copyFrom_68 ?_
  refine zS_aload_n 70 rfl 1 rfl dX6_copyFrom_69 ?_
  refine zS_getfi 73 rfl 5 dX6_copyFrom_70 zC6 zw307 (by decide) rfl h1 ?_
  refine zS_putfi 76 rfl 5 dX6_copyFrom_73 zC6 zw307 (by decide) rfl rfl rfl h0 ?_
  refine zS_bnw (fun w6 => ?_)
  refine zS_aload_n 77 rfl 1 rfl dX6_copyFrom_76 ?_
  refine zS_getfp 80 rfl 6 dX6_copyFrom_77 zC6 zw308 (by decide) rfl h1 ?_
  refine zS_iconst 81 rfl (0 : Int32) (by decide) dX6_copyFrom_80 ?_
  refine zS_aload_n 82 rfl 0 rfl dX6_copyFrom_81 ?_
  refine zS_getfp 85 rfl 6 dX6_copyFrom_82 zC6 zw308 (by decide) rfl h0 ?_
  refine zS_iconst 86 rfl (0 : Int32) (by decide) dX6_copyFrom_85 ?_
  refine zS_bipush 88 rfl (12 : Int32) (by decide) dX6_copyFrom_86 ?_
  refine zS_copy 91 rfl dX6_copyFrom_88 zw1094 zw611 zw610 zw91 (zP6_dropOf h1) (zP6_dropOf h0) (by decide) (Nat.le_of_ble_eq_true rfl) zNfw ?_
  refine zS_bnw (fun w7 => ?_)
  refine zS_aload_n 92 rfl 0 rfl dX6_copyFrom_91 ?_
  refine zS_aload_n 93 rfl 1 rfl dX6_copyFrom_92 ?_
  refine zS_getfi 96 rfl 7 dX6_copyFrom_93 zC6 zw310 (by decide) rfl h1 ?_
  refine zS_putfi 99 rfl 7 dX6_copyFrom_96 zC6 zw310 (by decide) rfl rfl rfl h0 ?_
  refine zS_bnw (fun w8 => ?_)
  refine zS_aload_n 100 rfl 1 rfl dX6_copyFrom_99 ?_
  refine zS_getfp 103 rfl 8 dX6_copyFrom_100 zC6 zw311 (by decide) rfl h1 ?_
  refine zS_iconst 104 rfl (0 : Int32) (by decide) dX6_copyFrom_103 ?_
  refine zS_aload_n 105 rfl 0 rfl dX6_copyFrom_104 ?_
  refine zS_getfp 108 rfl 8 dX6_copyFrom_105 zC6 zw311 (by decide) rfl h0 ?_
  refine zS_iconst 109 rfl (0 : Int32) (by decide) dX6_copyFrom_108 ?_
  refine zS_bipush 111 rfl (30 : Int32) (by decide) dX6_copyFrom_109 ?_
  refine zS_copy 114 rfl dX6_copyFrom_111 zw1094 zw611 zw610 zw91 (zP6_changeOf h1) (zP6_changeOf h0) (by decide) (Nat.le_of_ble_eq_true rfl) zNfw ?_
  refine zS_bnw (fun w9 => ?_)
  refine zS_aload_n 115 rfl 0 rfl dX6_copyFrom_114 ?_
  refine zS_aload_n 116 rfl 1 rfl dX6_copyFrom_115 ?_
  refine zS_getfi 119 rfl 9 dX6_copyFrom_116 zC6 zw313 (by decide) rfl h1 ?_
  refine zS_putfi 122 rfl 9 dX6_copyFrom_119 zC6 zw313 (by decide) rfl rfl rfl h0 ?_
  refine zS_bnw (fun w10 => ?_)
  refine zS_aload_n 123 rfl 1 rfl dX6_copyFrom_122 ?_
  refine zS_getfp 126 rfl 10 dX6_copyFrom_123 zC6 zw315 (by decide) rfl h1 ?_
  refine zS_iconst 127 rfl (0 : Int32) (by decide) dX6_copyFrom_126 ?_
  refine zS_aload_n 128 rfl 0 rfl dX6_copyFrom_127 ?_
  refine zS_getfp 131 rfl 10 dX6_copyFrom_128 zC6 zw315 (by decide) rfl h0 ?_
  refine zS_iconst 132 rfl (0 : Int32) (by decide) dX6_copyFrom_131 ?_
  refine zS_bipush 134 rfl (6 : Int32) (by decide) dX6_copyFrom_132 ?_
  refine zS_copy 137 rfl dX6_copyFrom_134 zw1094 zw611 zw610 zw91 (zP6_pushCell h1) (zP6_pushCell h0) (by decide) (Nat.le_of_ble_eq_true rfl) zNfw ?_
  refine zS_bnw (fun w11 => ?_)
  refine zS_aload_n 138 rfl 1 rfl dX6_copyFrom_137 ?_
  refine zS_getfp 141 rfl 11 dX6_copyFrom_138 zC6 zw317 (by decide) rfl h1 ?_
  refine zS_iconst 142 rfl (0 : Int32) (by decide) dX6_copyFrom_141 ?_
  refine zS_aload_n 143 rfl 0 rfl dX6_copyFrom_142 ?_
  refine zS_getfp 146 rfl 11 dX6_copyFrom_143 zC6 zw317 (by decide) rfl h0 ?_
  refine zS_iconst 147 rfl (0 : Int32) (by decide) dX6_copyFrom_146 ?_
  refine zS_bipush 149 rfl (6 : Int32) (by decide) dX6_copyFrom_147 ?_
  refine zS_copy 152 rfl dX6_copyFrom_149 zw1094 zw611 zw610 zw91 (zP6_pushStrength h1) (zP6_pushStrength h0) (by decide) (Nat.le_of_ble_eq_true rfl) zNfw ?_
  refine zS_bnw (fun w12 => ?_)
  exact zS_retv dX6_copyFrom_152 rfl

theorem okX6_copyFrom (v0 : Nat) (v1 : Nat) (w : zWd) (h0 : zShp v0 = (6, 12)) (h1 : zShp v1 = (6, 12)) : zOk gX6_copyFrom zEv [.ref v0, .ref v1] w (mX6_copyFrom v0 v1 w) := zOk_of (by decide) rfl (Nat.le_of_ble_eq_true rfl) (sX6_copyFrom v0 v1 h0 h1 w)
abbrev gX6_addLook : zMth := (yX6_addLook, cX6_addLook, 5, (some .int), 1, zE0)
theorem cbX6_addLook : zCbV yX6_addLook cX6_addLook 5 (some .int) 4 := ⟨zw931, zw932, zw84, zw933, by decide, by decide, by decide +kernel⟩
set_option maxHeartbeats 4000000 in
set_option maxRecDepth 100000 in
theorem sX6_addLook (v0 : Nat) (v1 : Int32) (v2 : Int32) (v3 : Int32) (v4 : Int32) (h0 : zShp v0 = (6, 12)) (w : zWd) : zS gX6_addLook zEi 0 [(0, .ref v0), (1, .int v1), (2, .int v2), (3, .int v3), (4, .int v4)] [] w (mX6_addLook v0 v1 v2 v3 v4 w) := by
  unfold mX6_addLook
  refine zS_aload_n 1 rfl 0 rfl dX6_addLook_0 ?_
  refine zS_getfi 4 rfl 0 dX6_addLook_1 zC6 zw297 (by decide) rfl h0 ?_
  refine zS_bipush 6 rfl (60 : Int32) (by decide) dX6_addLook_4 ?_
  refine zS_icmp_lt 12 9 rfl dX6_addLook_6 (by decide) ?_ ?_
  · refine zS_aload_n 13 rfl 0 rfl dX6_addLook_12 ?_
    refine zS_getfp 16 rfl 1 dX6_addLook_13 zC6 zw299 (by decide) rfl h0 ?_
    refine zS_aload_n 17 rfl 0 rfl dX6_addLook_16 ?_
    refine zS_getfi 20 rfl 0 dX6_addLook_17 zC6 zw297 (by decide) rfl h0 ?_
    refine zS_iload_n 21 rfl 1 rfl dX6_addLook_20 ?_
    refine zS_iast 22 rfl dX6_addLook_21 (zP6_lookTap h0) ?_
    refine zS_bnw (fun w1 => ?_)
    refine zS_aload_n 23 rfl 0 rfl dX6_addLook_22 ?_
    refine zS_getfp 26 rfl 2 dX6_addLook_23 zC6 zw301 (by decide) rfl h0 ?_
    refine zS_aload_n 27 rfl 0 rfl dX6_addLook_26 ?_
    refine zS_getfi 30 rfl 0 dX6_addLook_27 zC6 zw297 (by decide) rfl h0 ?_
    refine zS_iload_n 31 rfl 2 rfl dX6_addLook_30 ?_
    refine zS_iast 32 rfl dX6_addLook_31 (zP6_lookDay h0) ?_
    refine zS_bnw (fun w2 => ?_)
    refine zS_aload_n 33 rfl 0 rfl dX6_addLook_32 ?_
    refine zS_getfp 36 rfl 3 dX6_addLook_33 zC6 zw303 (by decide) rfl h0 ?_
    refine zS_aload_n 37 rfl 0 rfl dX6_addLook_36 ?_
    refine zS_getfi 40 rfl 0 dX6_addLook_37 zC6 zw297 (by decide) rfl h0 ?_
    refine zS_iload_n 41 rfl 3 rfl dX6_addLook_40 ?_
    refine zS_iast 42 rfl dX6_addLook_41 (zP6_lookGallons h0) ?_
    refine zS_bnw (fun w3 => ?_)
    refine zS_aload_n 43 rfl 0 rfl dX6_addLook_42 ?_
    refine zS_getfp 46 rfl 4 dX6_addLook_43 zC6 zw305 (by decide) rfl h0 ?_
    refine zS_aload_n 47 rfl 0 rfl dX6_addLook_46 ?_
    refine zS_getfi 50 rfl 0 dX6_addLook_47 zC6 zw297 (by decide) rfl h0 ?_
    refine zS_iload 52 rfl 4 rfl dX6_addLook_50 ?_
    refine zS_iast 53 rfl dX6_addLook_52 (zP6_lookHeat h0) ?_
    refine zS_bnw (fun w4 => ?_)
    refine zS_aload_n 54 rfl 0 rfl dX6_addLook_53 ?_
    refine zS_dup 55 rfl rfl dX6_addLook_54 ?_
    refine zS_getfi 58 rfl 0 dX6_addLook_55 zC6 zw297 (by decide) rfl h0 ?_
    refine zS_iconst 59 rfl (1 : Int32) (by decide) dX6_addLook_58 ?_
    refine zS_iadd 60 rfl dX6_addLook_59 ?_
    refine zS_putfi 63 rfl 0 dX6_addLook_60 zC6 zw297 (by decide) rfl rfl rfl h0 ?_
    refine zS_bnw (fun w5 => ?_)
    refine zS_aload_n 64 rfl 0 rfl dX6_addLook_63 ?_
    refine zS_getfi 67 rfl 0 dX6_addLook_64 zC6 zw297 (by decide) rfl h0 ?_
    exact zS_reti dX6_addLook_67 rfl
  · refine zS_bipush 11 rfl (-4 : Int32) (by decide) dX6_addLook_9 ?_
    exact zS_reti dX6_addLook_11 rfl

theorem okX6_addLook (v0 : Nat) (v1 : Int32) (v2 : Int32) (v3 : Int32) (v4 : Int32) (w : zWd) (h0 : zShp v0 = (6, 12)) : zOk gX6_addLook zEi [.ref v0, .int v1, .int v2, .int v3, .int v4] w (mX6_addLook v0 v1 v2 v3 v4 w) := zOk_of (by decide) rfl (Nat.le_of_ble_eq_true rfl) (sX6_addLook v0 v1 v2 v3 v4 h0 w)
abbrev gX6_hasDrop : zMth := (yX6_hasDrop, cX6_hasDrop, 2, (some .boolean), 1, zE0)
theorem cbX6_hasDrop : zCbV yX6_hasDrop cX6_hasDrop 2 (some .boolean) 1 := ⟨zw947, zw948, zw84, zw949, by decide, by decide, by decide +kernel⟩
set_option maxHeartbeats 4000000 in
set_option maxRecDepth 100000 in
theorem sX6_hasDrop_16 (s0 : Int32) (w : zWd) : zS gX6_hasDrop zEi 16 [] [.int s0] w (mX6_hasDrop_16 s0 w) := by
  unfold mX6_hasDrop_16
  exact zS_retb dX6_hasDrop_16 rfl

set_option maxHeartbeats 4000000 in
set_option maxRecDepth 100000 in
theorem sX6_hasDrop (v0 : Nat) (v1 : Int32) (h0 : zShp v0 = (6, 12)) (w : zWd) : zS gX6_hasDrop zEi 0 [(0, .ref v0), (1, .int v1)] [] w (mX6_hasDrop v0 v1 w) := by
  unfold mX6_hasDrop
  refine zS_aload_n 1 rfl 0 rfl dX6_hasDrop_0 ?_
  refine zS_getfi 4 rfl 5 dX6_hasDrop_1 zC6 zw307 (by decide) rfl h0 ?_
  refine zS_iload_n 5 rfl 1 rfl dX6_hasDrop_4 ?_
  refine zS_ishr 6 rfl dX6_hasDrop_5 ?_
  refine zS_iconst 7 rfl (1 : Int32) (by decide) dX6_hasDrop_6 ?_
  refine zS_iand 8 rfl dX6_hasDrop_7 ?_
  refine zS_if_eq 15 11 rfl dX6_hasDrop_8 (by decide) ?_ ?_
  · refine zS_iconst 16 rfl (0 : Int32) (by decide) dX6_hasDrop_15 ?_
    refine zS_sub [] (show _ = [] from rfl) ?_
    exact sX6_hasDrop_16 _ _
  · refine zS_iconst 12 rfl (1 : Int32) (by decide) dX6_hasDrop_11 ?_
    refine zS_goto 16 dX6_hasDrop_12 (by decide) ?_
    refine zS_sub [] (show _ = [] from rfl) ?_
    exact sX6_hasDrop_16 _ _

theorem okX6_hasDrop (v0 : Nat) (v1 : Int32) (w : zWd) (h0 : zShp v0 = (6, 12)) : zOk gX6_hasDrop zEi [.ref v0, .int v1] w (mX6_hasDrop v0 v1 w) := zOk_of (by decide) rfl (Nat.le_of_ble_eq_true rfl) (sX6_hasDrop v0 v1 h0 w)
abbrev gJ6_bitCount_0f7a4 : zMth := (yJ6_bitCount_0f7a4, cJ6_bitCount_0f7a4, 1, (some .int), 1, zE0)
theorem cbJ6_bitCount_0f7a4 : zCbS yJ6_bitCount_0f7a4 cJ6_bitCount_0f7a4 1 (some .int) 1 := ⟨zw955, zw96, zw956, by decide, by decide, by decide +kernel⟩
set_option maxHeartbeats 4000000 in
set_option maxRecDepth 100000 in
theorem sJ6_bitCount_0f7a4 (v0 : Int32) (w : zWd) : zS gJ6_bitCount_0f7a4 zEi 0 [(0, .int v0)] [] w (mJ6_bitCount_0f7a4 v0 w) := by
  unfold mJ6_bitCount_0f7a4
  refine zS_iload_n 1 rfl 0 rfl dJ6_bitCount_0f7a4_0 ?_
  refine zS_iload_n 2 rfl 0 rfl dJ6_bitCount_0f7a4_1 ?_
  refine zS_iconst 3 rfl (1 : Int32) (by decide) dJ6_bitCount_0f7a4_2 ?_
  refine zS_iushr 4 rfl dJ6_bitCount_0f7a4_3 ?_
  refine zS_ldcw 7 rfl (1431655765 : Int32) zw957 dJ6_bitCount_0f7a4_4 ?_
  refine zS_iand 8 rfl dJ6_bitCount_0f7a4_7 ?_
  refine zS_isub 9 rfl dJ6_bitCount_0f7a4_8 ?_
  refine zS_bni (fun x1 => ?_)
  refine zS_istore_n 10 rfl dJ6_bitCount_0f7a4_9 (by show 0 < 1; decide) (show _ = [(0, .int _)] from rfl) ?_
  refine zS_iload_n 11 rfl 0 rfl dJ6_bitCount_0f7a4_10 ?_
  refine zS_ldcw 14 rfl (858993459 : Int32) zw958 dJ6_bitCount_0f7a4_11 ?_
  refine zS_iand 15 rfl dJ6_bitCount_0f7a4_14 ?_
  refine zS_iload_n 16 rfl 0 rfl dJ6_bitCount_0f7a4_15 ?_
  refine zS_iconst 17 rfl (2 : Int32) (by decide) dJ6_bitCount_0f7a4_16 ?_
  refine zS_iushr 18 rfl dJ6_bitCount_0f7a4_17 ?_
  refine zS_ldcw 21 rfl (858993459 : Int32) zw958 dJ6_bitCount_0f7a4_18 ?_
  refine zS_iand 22 rfl dJ6_bitCount_0f7a4_21 ?_
  refine zS_iadd 23 rfl dJ6_bitCount_0f7a4_22 ?_
  refine zS_bni (fun x2 => ?_)
  refine zS_istore_n 24 rfl dJ6_bitCount_0f7a4_23 (by show 0 < 1; decide) (show _ = [(0, .int _)] from rfl) ?_
  refine zS_iload_n 25 rfl 0 rfl dJ6_bitCount_0f7a4_24 ?_
  refine zS_iload_n 26 rfl 0 rfl dJ6_bitCount_0f7a4_25 ?_
  refine zS_iconst 27 rfl (4 : Int32) (by decide) dJ6_bitCount_0f7a4_26 ?_
  refine zS_iushr 28 rfl dJ6_bitCount_0f7a4_27 ?_
  refine zS_iadd 29 rfl dJ6_bitCount_0f7a4_28 ?_
  refine zS_ldcw 32 rfl (252645135 : Int32) zw959 dJ6_bitCount_0f7a4_29 ?_
  refine zS_iand 33 rfl dJ6_bitCount_0f7a4_32 ?_
  refine zS_bni (fun x3 => ?_)
  refine zS_istore_n 34 rfl dJ6_bitCount_0f7a4_33 (by show 0 < 1; decide) (show _ = [(0, .int _)] from rfl) ?_
  refine zS_iload_n 35 rfl 0 rfl dJ6_bitCount_0f7a4_34 ?_
  refine zS_iload_n 36 rfl 0 rfl dJ6_bitCount_0f7a4_35 ?_
  refine zS_bipush 38 rfl (8 : Int32) (by decide) dJ6_bitCount_0f7a4_36 ?_
  refine zS_iushr 39 rfl dJ6_bitCount_0f7a4_38 ?_
  refine zS_iadd 40 rfl dJ6_bitCount_0f7a4_39 ?_
  refine zS_bni (fun x4 => ?_)
  refine zS_istore_n 41 rfl dJ6_bitCount_0f7a4_40 (by show 0 < 1; decide) (show _ = [(0, .int _)] from rfl) ?_
  refine zS_iload_n 42 rfl 0 rfl dJ6_bitCount_0f7a4_41 ?_
  refine zS_iload_n 43 rfl 0 rfl dJ6_bitCount_0f7a4_42 ?_
  refine zS_bipush 45 rfl (16 : Int32) (by decide) dJ6_bitCount_0f7a4_43 ?_
  refine zS_iushr 46 rfl dJ6_bitCount_0f7a4_45 ?_
  refine zS_iadd 47 rfl dJ6_bitCount_0f7a4_46 ?_
  refine zS_bni (fun x5 => ?_)
  refine zS_istore_n 48 rfl dJ6_bitCount_0f7a4_47 (by show 0 < 1; decide) (show _ = [(0, .int _)] from rfl) ?_
  refine zS_iload_n 49 rfl 0 rfl dJ6_bitCount_0f7a4_48 ?_
  refine zS_bipush 51 rfl (63 : Int32) (by decide) dJ6_bitCount_0f7a4_49 ?_
  refine zS_iand 52 rfl dJ6_bitCount_0f7a4_51 ?_
  exact zS_reti dJ6_bitCount_0f7a4_52 rfl

theorem okJ6_bitCount_0f7a4 (v0 : Int32) (w : zWd) : zOk gJ6_bitCount_0f7a4 zEi [.int v0] w (mJ6_bitCount_0f7a4 v0 w) := zOk_of (by decide) rfl (Nat.le_of_ble_eq_true rfl) (sJ6_bitCount_0f7a4 v0 w)
abbrev gX6_drops : zMth := (yX6_drops, cX6_drops, 1, (some .int), 2, zE0)
theorem cbX6_drops : zCbV yX6_drops cX6_drops 1 (some .int) 0 := ⟨zw951, zw952, zw84, zw953, by decide, by decide, by decide +kernel⟩
set_option maxHeartbeats 4000000 in
set_option maxRecDepth 100000 in
theorem sX6_drops (v0 : Nat) (h0 : zShp v0 = (6, 12)) (w : zWd) : zS gX6_drops zEi 0 [(0, .ref v0)] [] w (mX6_drops v0 w) := by
  unfold mX6_drops
  refine zS_aload_n 1 rfl 0 rfl dX6_drops_0 ?_
  refine zS_getfi 4 rfl 5 dX6_drops_1 zC6 zw307 (by decide) rfl h0 ?_
  refine zS_cSi (as := [.int _]) (st := []) (g' := gJ6_bitCount_0f7a4) 7 rfl (okJ6_bitCount_0f7a4 _ _) dX6_drops_4 zw954 cbJ6_bitCount_0f7a4 rfl rfl (by decide) (Nat.le_of_ble_eq_true rfl) (fun r1 w2 => ?_)
  exact zS_reti dX6_drops_7 rfl

theorem okX6_drops (v0 : Nat) (w : zWd) (h0 : zShp v0 = (6, 12)) : zOk gX6_drops zEi [.ref v0] w (mX6_drops v0 w) := zOk_of (by decide) rfl (Nat.le_of_ble_eq_true rfl) (sX6_drops v0 h0 w)
abbrev gX6_setDrop : zMth := (yX6_setDrop, cX6_setDrop, 3, (some .int), 3, zE0)
theorem cbX6_setDrop : zCbV yX6_setDrop cX6_setDrop 3 (some .int) 2 := ⟨zw961, zw962, zw84, zw963, by decide, by decide, by decide +kernel⟩
set_option maxHeartbeats 4000000 in
set_option maxRecDepth 100000 in
theorem sX6_setDrop (v0 : Nat) (v1 : Int32) (v2 : Int32) (h0 : zShp v0 = (6, 12)) (w : zWd) : zS gX6_setDrop zEi 0 [(0, .ref v0), (1, .int v1), (2, .int v2)] [] w (mX6_setDrop v0 v1 v2 w) := by
  unfold mX6_setDrop
  refine zS_aload_n 1 rfl 0 rfl dX6_setDrop_0 ?_
  refine zS_dup 2 rfl rfl dX6_setDrop_1 ?_
  refine zS_getfi 5 rfl 5 dX6_setDrop_2 zC6 zw307 (by decide) rfl h0 ?_
  refine zS_iconst 6 rfl (1 : Int32) (by decide) dX6_setDrop_5 ?_
  refine zS_iload_n 7 rfl 1 rfl dX6_setDrop_6 ?_
  refine zS_ishl 8 rfl dX6_setDrop_7 ?_
  refine zS_ior 9 rfl dX6_setDrop_8 ?_
  refine zS_putfi 12 rfl 5 dX6_setDrop_9 zC6 zw307 (by decide) rfl rfl rfl h0 ?_
  refine zS_bnw (fun w1 => ?_)
  refine zS_aload_n 13 rfl 0 rfl dX6_setDrop_12 ?_
  refine zS_getfp 16 rfl 6 dX6_setDrop_13 zC6 zw308 (by decide) rfl h0 ?_
  refine zS_iload_n 17 rfl 1 rfl dX6_setDrop_16 ?_
  refine zS_iload_n 18 rfl 2 rfl dX6_setDrop_17 ?_
  refine zS_iast 19 rfl dX6_setDrop_18 (zP6_dropOf h0) ?_
  refine zS_bnw (fun w2 => ?_)
  refine zS_aload_n 20 rfl 0 rfl dX6_setDrop_19 ?_
  refine zS_cVi (as := []) (st := []) (g' := gX6_drops) 23 rfl (okX6_drops _ _ h0) dX6_setDrop_20 zC6 h0 zw964 cbX6_drops rfl rfl (by decide) (Nat.le_of_ble_eq_true rfl) (fun r3 w4 => ?_)
  exact zS_reti dX6_setDrop_23 rfl

theorem okX6_setDrop (v0 : Nat) (v1 : Int32) (v2 : Int32) (w : zWd) (h0 : zShp v0 = (6, 12)) : zOk gX6_setDrop zEi [.ref v0, .int v1, .int v2] w (mX6_setDrop v0 v1 v2 w) := zOk_of (by decide) rfl (Nat.le_of_ble_eq_true rfl) (sX6_setDrop v0 v1 v2 h0 w)
abbrev gX6_hasChange : zMth := (yX6_hasChange, cX6_hasChange, 2, (some .boolean), 1, zE0)
theorem cbX6_hasChange : zCbV yX6_hasChange cX6_hasChange 2 (some .boolean) 1 := ⟨zw1016, zw1017, zw84, zw1018, by decide, by decide, by decide +kernel⟩
set_option maxHeartbeats 4000000 in
set_option maxRecDepth 100000 in
theorem sX6_hasChange_16 (s0 : Int32) (w : zWd) : zS gX6_hasChange zEi 16 [] [.int s0] w (mX6_hasChange_16 s0 w) := by
  unfold mX6_hasChange_16
  exact zS_retb dX6_hasChange_16 rfl

set_option maxHeartbeats 4000000 in
set_option maxRecDepth 100000 in
theorem sX6_hasChange (v0 : Nat) (v1 : Int32) (h0 : zShp v0 = (6, 12)) (w : zWd) : zS gX6_hasChange zEi 0 [(0, .ref v0), (1, .int v1)] [] w (mX6_hasChange v0 v1 w) := by
  unfold mX6_hasChange
  refine zS_aload_n 1 rfl 0 rfl dX6_hasChange_0 ?_
  refine zS_getfi 4 rfl 7 dX6_hasChange_1 zC6 zw310 (by decide) rfl h0 ?_
  refine zS_iload_n 5 rfl 1 rfl dX6_hasChange_4 ?_
  refine zS_ishr 6 rfl dX6_hasChange_5 ?_
  refine zS_iconst 7 rfl (1 : Int32) (by decide) dX6_hasChange_6 ?_
  refine zS_iand 8 rfl dX6_hasChange_7 ?_
  refine zS_if_eq 15 11 rfl dX6_hasChange_8 (by decide) ?_ ?_
  · refine zS_iconst 16 rfl (0 : Int32) (by decide) dX6_hasChange_15 ?_
    refine zS_sub [] (show _ = [] from rfl) ?_
    exact sX6_hasChange_16 _ _
  · refine zS_iconst 12 rfl (1 : Int32) (by decide) dX6_hasChange_11 ?_
    refine zS_goto 16 dX6_hasChange_12 (by decide) ?_
    refine zS_sub [] (show _ = [] from rfl) ?_
    exact sX6_hasChange_16 _ _

theorem okX6_hasChange (v0 : Nat) (v1 : Int32) (w : zWd) (h0 : zShp v0 = (6, 12)) : zOk gX6_hasChange zEi [.ref v0, .int v1] w (mX6_hasChange v0 v1 w) := zOk_of (by decide) rfl (Nat.le_of_ble_eq_true rfl) (sX6_hasChange v0 v1 h0 w)
abbrev gX6_changes : zMth := (yX6_changes, cX6_changes, 1, (some .int), 2, zE0)
theorem cbX6_changes : zCbV yX6_changes cX6_changes 1 (some .int) 0 := ⟨zw1020, zw1021, zw84, zw1022, by decide, by decide, by decide +kernel⟩
set_option maxHeartbeats 4000000 in
set_option maxRecDepth 100000 in
theorem sX6_changes (v0 : Nat) (h0 : zShp v0 = (6, 12)) (w : zWd) : zS gX6_changes zEi 0 [(0, .ref v0)] [] w (mX6_changes v0 w) := by
  unfold mX6_changes
  refine zS_aload_n 1 rfl 0 rfl dX6_changes_0 ?_
  refine zS_getfi 4 rfl 7 dX6_changes_1 zC6 zw310 (by decide) rfl h0 ?_
  refine zS_cSi (as := [.int _]) (st := []) (g' := gJ6_bitCount_0f7a4) 7 rfl (okJ6_bitCount_0f7a4 _ _) dX6_changes_4 zw954 cbJ6_bitCount_0f7a4 rfl rfl (by decide) (Nat.le_of_ble_eq_true rfl) (fun r1 w2 => ?_)
  exact zS_reti dX6_changes_7 rfl

theorem okX6_changes (v0 : Nat) (w : zWd) (h0 : zShp v0 = (6, 12)) : zOk gX6_changes zEi [.ref v0] w (mX6_changes v0 w) := zOk_of (by decide) rfl (Nat.le_of_ble_eq_true rfl) (sX6_changes v0 h0 w)
abbrev gX6_setChange : zMth := (yX6_setChange, cX6_setChange, 3, (some .int), 3, zE0)
theorem cbX6_setChange : zCbV yX6_setChange cX6_setChange 3 (some .int) 2 := ⟨zw1024, zw1025, zw84, zw1026, by decide, by decide, by decide +kernel⟩
set_option maxHeartbeats 4000000 in
set_option maxRecDepth 100000 in
theorem sX6_setChange (v0 : Nat) (v1 : Int32) (v2 : Int32) (h0 : zShp v0 = (6, 12)) (w : zWd) : zS gX6_setChange zEi 0 [(0, .ref v0), (1, .int v1), (2, .int v2)] [] w (mX6_setChange v0 v1 v2 w) := by
  unfold mX6_setChange
  refine zS_aload_n 1 rfl 0 rfl dX6_setChange_0 ?_
  refine zS_dup 2 rfl rfl dX6_setChange_1 ?_
  refine zS_getfi 5 rfl 7 dX6_setChange_2 zC6 zw310 (by decide) rfl h0 ?_
  refine zS_iconst 6 rfl (1 : Int32) (by decide) dX6_setChange_5 ?_
  refine zS_iload_n 7 rfl 1 rfl dX6_setChange_6 ?_
  refine zS_ishl 8 rfl dX6_setChange_7 ?_
  refine zS_ior 9 rfl dX6_setChange_8 ?_
  refine zS_putfi 12 rfl 7 dX6_setChange_9 zC6 zw310 (by decide) rfl rfl rfl h0 ?_
  refine zS_bnw (fun w1 => ?_)
  refine zS_aload_n 13 rfl 0 rfl dX6_setChange_12 ?_
  refine zS_getfp 16 rfl 8 dX6_setChange_13 zC6 zw311 (by decide) rfl h0 ?_
  refine zS_iload_n 17 rfl 1 rfl dX6_setChange_16 ?_
  refine zS_iload_n 18 rfl 2 rfl dX6_setChange_17 ?_
  refine zS_iast 19 rfl dX6_setChange_18 (zP6_changeOf h0) ?_
  refine zS_bnw (fun w2 => ?_)
  refine zS_aload_n 20 rfl 0 rfl dX6_setChange_19 ?_
  refine zS_cVi (as := []) (st := []) (g' := gX6_changes) 23 rfl (okX6_changes _ _ h0) dX6_setChange_20 zC6 h0 zw1027 cbX6_changes rfl rfl (by decide) (Nat.le_of_ble_eq_true rfl) (fun r3 w4 => ?_)
  exact zS_reti dX6_setChange_23 rfl

theorem okX6_setChange (v0 : Nat) (v1 : Int32) (v2 : Int32) (w : zWd) (h0 : zShp v0 = (6, 12)) : zOk gX6_setChange zEi [.ref v0, .int v1, .int v2] w (mX6_setChange v0 v1 v2 w) := zOk_of (by decide) rfl (Nat.le_of_ble_eq_true rfl) (sX6_setChange v0 v1 v2 h0 w)
abbrev gX6_addPush : zMth := (yX6_addPush, cX6_addPush, 3, (some .int), 1, zE0)
theorem cbX6_addPush : zCbV yX6_addPush cX6_addPush 3 (some .int) 2 := ⟨zw1033, zw1034, zw84, zw1035, by decide, by decide, by decide +kernel⟩
set_option maxHeartbeats 4000000 in
set_option maxRecDepth 100000 in
theorem sX6_addPush (v0 : Nat) (v1 : Int32) (v2 : Int32) (h0 : zShp v0 = (6, 12)) (w : zWd) : zS gX6_addPush zEi 0 [(0, .ref v0), (1, .int v1), (2, .int v2)] [] w (mX6_addPush v0 v1 v2 w) := by
  unfold mX6_addPush
  refine zS_aload_n 1 rfl 0 rfl dX6_addPush_0 ?_
  refine zS_getfi 4 rfl 9 dX6_addPush_1 zC6 zw313 (by decide) rfl h0 ?_
  refine zS_bipush 6 rfl (6 : Int32) (by decide) dX6_addPush_4 ?_
  refine zS_icmp_lt 12 9 rfl dX6_addPush_6 (by decide) ?_ ?_
  · refine zS_aload_n 13 rfl 0 rfl dX6_addPush_12 ?_
    refine zS_getfp 16 rfl 10 dX6_addPush_13 zC6 zw315 (by decide) rfl h0 ?_
    refine zS_aload_n 17 rfl 0 rfl dX6_addPush_16 ?_
    refine zS_getfi 20 rfl 9 dX6_addPush_17 zC6 zw313 (by decide) rfl h0 ?_
    refine zS_iload_n 21 rfl 1 rfl dX6_addPush_20 ?_
    refine zS_iast 22 rfl dX6_addPush_21 (zP6_pushCell h0) ?_
    refine zS_bnw (fun w1 => ?_)
    refine zS_aload_n 23 rfl 0 rfl dX6_addPush_22 ?_
    refine zS_getfp 26 rfl 11 dX6_addPush_23 zC6 zw317 (by decide) rfl h0 ?_
    refine zS_aload_n 27 rfl 0 rfl dX6_addPush_26 ?_
    refine zS_getfi 30 rfl 9 dX6_addPush_27 zC6 zw313 (by decide) rfl h0 ?_
    refine zS_iload_n 31 rfl 2 rfl dX6_addPush_30 ?_
    refine zS_iast 32 rfl dX6_addPush_31 (zP6_pushStrength h0) ?_
    refine zS_bnw (fun w2 => ?_)
    refine zS_aload_n 33 rfl 0 rfl dX6_addPush_32 ?_
    refine zS_dup 34 rfl rfl dX6_addPush_33 ?_
    refine zS_getfi 37 rfl 9 dX6_addPush_34 zC6 zw313 (by decide) rfl h0 ?_
    refine zS_iconst 38 rfl (1 : Int32) (by decide) dX6_addPush_37 ?_
    refine zS_iadd 39 rfl dX6_addPush_38 ?_
    refine zS_putfi 42 rfl 9 dX6_addPush_39 zC6 zw313 (by decide) rfl rfl rfl h0 ?_
    refine zS_bnw (fun w3 => ?_)
    refine zS_aload_n 43 rfl 0 rfl dX6_addPush_42 ?_
    refine zS_getfi 46 rfl 9 dX6_addPush_43 zC6 zw313 (by decide) rfl h0 ?_
    exact zS_reti dX6_addPush_46 rfl
  · refine zS_bipush 11 rfl (-4 : Int32) (by decide) dX6_addPush_9 ?_
    exact zS_reti dX6_addPush_11 rfl

theorem okX6_addPush (v0 : Nat) (v1 : Int32) (v2 : Int32) (w : zWd) (h0 : zShp v0 = (6, 12)) : zOk gX6_addPush zEi [.ref v0, .int v1, .int v2] w (mX6_addPush v0 v1 v2 w) := zOk_of (by decide) rfl (Nat.le_of_ble_eq_true rfl) (sX6_addPush v0 v1 v2 h0 w)
abbrev gX7_begin : zMth := (yX7_begin, cX7_begin, 3, none, 1, zE0)
theorem cbX7_begin : zCbV yX7_begin cX7_begin 3 none 2 := ⟨zw974, zw975, zw88, zw976, by decide, by decide, by decide +kernel⟩
set_option maxHeartbeats 4000000 in
set_option maxRecDepth 100000 in
theorem sX7_begin (v0 : Nat) (v1 : Int32) (v2 : Int32) (h0 : zShp v0 = (7, 5)) (w : zWd) : zS gX7_begin zEv 0 [(0, .ref v0), (1, .int v1), (2, .int v2)] [] w (mX7_begin v0 v1 v2 w) := by
  unfold mX7_begin
  refine zS_aload_n 1 rfl 0 rfl dX7_begin_0 ?_
  refine zS_iload_n 2 rfl 1 rfl dX7_begin_1 ?_
  refine zS_bipush 4 rfl (8 : Int32) (by decide) dX7_begin_2 ?_
  refine zS_mmin 7 rfl dX7_begin_4 zw977 zw584 zw90 zw585 (by decide) (Nat.le_of_ble_eq_true rfl) ?_
  refine zS_bni (fun x1 => ?_)
  refine zS_putfi 10 rfl 0 dX7_begin_7 zC7 zw448 (by decide) rfl rfl rfl h0 ?_
  refine zS_bnw (fun w2 => ?_)
  refine zS_aload_n 11 rfl 0 rfl dX7_begin_10 ?_
  refine zS_iload_n 12 rfl 2 rfl dX7_begin_11 ?_
  refine zS_putfi 15 rfl 1 dX7_begin_12 zC7 zw450 (by decide) rfl rfl rfl h0 ?_
  refine zS_bnw (fun w3 => ?_)
  refine zS_aload_n 16 rfl 0 rfl dX7_begin_15 ?_
  refine zS_iconst 17 rfl (0 : Int32) (by decide) dX7_begin_16 ?_
  refine zS_putfi 20 rfl 2 dX7_begin_17 zC7 zw451 (by decide) rfl rfl rfl h0 ?_
  refine zS_bnw (fun w4 => ?_)
  exact zS_retv dX7_begin_20 rfl

theorem okX7_begin (v0 : Nat) (v1 : Int32) (v2 : Int32) (w : zWd) (h0 : zShp v0 = (7, 5)) : zOk gX7_begin zEv [.ref v0, .int v1, .int v2] w (mX7_begin v0 v1 v2 w) := zOk_of (by decide) rfl (Nat.le_of_ble_eq_true rfl) (sX7_begin v0 v1 v2 h0 w)
abbrev gX7_addDue : zMth := (yX7_addDue, cX7_addDue, 2, none, 1, zE0)
theorem cbX7_addDue : zCbV yX7_addDue cX7_addDue 2 none 1 := ⟨zw983, zw984, zw88, zw985, by decide, by decide, by decide +kernel⟩
set_option maxHeartbeats 4000000 in
set_option maxRecDepth 100000 in
theorem sX7_addDue_29 (w : zWd) : zS gX7_addDue zEv 29 [] [] w (mX7_addDue_29 w) := by
  unfold mX7_addDue_29
  exact zS_retv dX7_addDue_29 rfl

set_option maxHeartbeats 4000000 in
set_option maxRecDepth 100000 in
theorem sX7_addDue (v0 : Nat) (v1 : Int32) (h0 : zShp v0 = (7, 5)) (w : zWd) : zS gX7_addDue zEv 0 [(0, .ref v0), (1, .int v1)] [] w (mX7_addDue v0 v1 w) := by
  unfold mX7_addDue
  refine zS_aload_n 1 rfl 0 rfl dX7_addDue_0 ?_
  refine zS_getfi 4 rfl 2 dX7_addDue_1 zC7 zw451 (by decide) rfl h0 ?_
  refine zS_bipush 6 rfl (6 : Int32) (by decide) dX7_addDue_4 ?_
  refine zS_icmp_ge 29 9 rfl dX7_addDue_6 (by decide) ?_ ?_
  · refine zS_sub [] (show _ = [] from rfl) ?_
    exact sX7_addDue_29 _
  · refine zS_aload_n 10 rfl 0 rfl dX7_addDue_9 ?_
    refine zS_getfp 13 rfl 3 dX7_addDue_10 zC7 zw452 (by decide) rfl h0 ?_
    refine zS_aload_n 14 rfl 0 rfl dX7_addDue_13 ?_
    refine zS_getfi 17 rfl 2 dX7_addDue_14 zC7 zw451 (by decide) rfl h0 ?_
    refine zS_iload_n 18 rfl 1 rfl dX7_addDue_17 ?_
    refine zS_iast 19 rfl dX7_addDue_18 (zP7_due h0) ?_
    refine zS_bnw (fun w1 => ?_)
    refine zS_aload_n 20 rfl 0 rfl dX7_addDue_19 ?_
    refine zS_dup 21 rfl rfl dX7_addDue_20 ?_
    refine zS_getfi 24 rfl 2 dX7_addDue_21 zC7 zw451 (by decide) rfl h0 ?_
    refine zS_iconst 25 rfl (1 : Int32) (by decide) dX7_addDue_24 ?_
    refine zS_iadd 26 rfl dX7_addDue_25 ?_
    refine zS_putfi 29 rfl 2 dX7_addDue_26 zC7 zw451 (by decide) rfl rfl rfl h0 ?_
    refine zS_bnw (fun w2 => ?_)
    refine zS_sub [] (show _ = [] from rfl) ?_
    exact sX7_addDue_29 _

theorem okX7_addDue (v0 : Nat) (v1 : Int32) (w : zWd) (h0 : zShp v0 = (7, 5)) : zOk gX7_addDue zEv [.ref v0, .int v1] w (mX7_addDue v0 v1 w) := zOk_of (by decide) rfl (Nat.le_of_ble_eq_true rfl) (sX7_addDue v0 v1 h0 w)
abbrev gX7_addShare : zMth := (yX7_addShare, cX7_addShare, 3, none, 2, zE0)
theorem cbX7_addShare : zCbV yX7_addShare cX7_addShare 3 none 2 := ⟨zw988, zw989, zw88, zw990, by decide, by decide, by decide +kernel⟩
set_option maxHeartbeats 4000000 in
set_option maxRecDepth 100000 in
theorem sX7_addShare_33 (w : zWd) : zS gX7_addShare zEv 33 [] [] w (mX7_addShare_33 w) := by
  unfold mX7_addShare_33
  exact zS_retv dX7_addShare_33 rfl

set_option maxHeartbeats 4000000 in
set_option maxRecDepth 100000 in
theorem sX7_addShare (v0 : Nat) (v1 : Int32) (v2 : Int32) (h0 : zShp v0 = (7, 5)) (w : zWd) : zS gX7_addShare zEv 0 [(0, .ref v0), (1, .int v1), (2, .int v2)] [] w (mX7_addShare v0 v1 v2 w) := by
  unfold mX7_addShare
  refine zS_aload_n 1 rfl 0 rfl dX7_addShare_0 ?_
  refine zS_getfi 4 rfl 2 dX7_addShare_1 zC7 zw451 (by decide) rfl h0 ?_
  refine zS_if_le 33 7 rfl dX7_addShare_4 (by decide) ?_ ?_
  · refine zS_sub [] (show _ = [] from rfl) ?_
    exact sX7_addShare_33 _
  · refine zS_iload_n 8 rfl 1 rfl dX7_addShare_7 ?_
    refine zS_bipush 10 rfl (8 : Int32) (by decide) dX7_addShare_8 ?_
    refine zS_cNi (as := [.int _, .int _]) (st := []) (g' := gX11_within) (host := "HotSprings") 13 rfl (okX11_within _ _ _) dX7_addShare_10 (by decide +kernel) cbX11_within rfl rfl (by decide) (Nat.le_of_ble_eq_true rfl) (fun r1 w2 => ?_)
    refine zS_if_eq 33 16 rfl dX7_addShare_13 (by decide) ?_ ?_
    · refine zS_sub [] (show _ = [] from rfl) ?_
      exact sX7_addShare_33 _
    · refine zS_aload_n 17 rfl 0 rfl dX7_addShare_16 ?_
      refine zS_getfp 20 rfl 4 dX7_addShare_17 zC7 zw453 (by decide) rfl h0 ?_
      refine zS_aload_n 21 rfl 0 rfl dX7_addShare_20 ?_
      refine zS_getfi 24 rfl 2 dX7_addShare_21 zC7 zw451 (by decide) rfl h0 ?_
      refine zS_iconst 25 rfl (1 : Int32) (by decide) dX7_addShare_24 ?_
      refine zS_isub 26 rfl dX7_addShare_25 ?_
      refine zS_bipush 28 rfl (8 : Int32) (by decide) dX7_addShare_26 ?_
      refine zS_imul 29 rfl dX7_addShare_28 ?_
      refine zS_iload_n 30 rfl 1 rfl dX7_addShare_29 ?_
      refine zS_iadd 31 rfl dX7_addShare_30 ?_
      refine zS_iload_n 32 rfl 2 rfl dX7_addShare_31 ?_
      refine zS_iast 33 rfl dX7_addShare_32 (zP7_share h0) ?_
      refine zS_bnw (fun w3 => ?_)
      refine zS_sub [] (show _ = [] from rfl) ?_
      exact sX7_addShare_33 _

theorem okX7_addShare (v0 : Nat) (v1 : Int32) (v2 : Int32) (w : zWd) (h0 : zShp v0 = (7, 5)) : zOk gX7_addShare zEv [.ref v0, .int v1, .int v2] w (mX7_addShare v0 v1 v2 w) := zOk_of (by decide) rfl (Nat.le_of_ble_eq_true rfl) (sX7_addShare v0 v1 v2 h0 w)
abbrev gX7_explains : zMth := (yX7_explains, cX7_explains, 5, (some .boolean), 1, zE0)
theorem cbX7_explains : zCbV yX7_explains cX7_explains 5 (some .boolean) 1 := ⟨zw999, zw35, zw88, zw1000, by decide, by decide, by decide +kernel⟩
set_option maxHeartbeats 4000000 in
set_option maxRecDepth 100000 in
theorem sX7_explains_48 (k2 : Int32 × zWd → Option (Int32 × zWd)) (k15 : Int32 × Int32 × zWd → Option (Int32 × zWd)) (v0 : Nat) (v1 : Int32) (v2 : Int32) (v3 : Int32) (v4 : Int32) (hk2 : ∀ (v2 : Int32) (w : zWd), zS gX7_explains zEi 2 [(0, .ref v0), (1, .int v1), (2, .int v2)] [] w (k2 (v2, w))) (hk15 : ∀ (v3 : Int32) (v4 : Int32) (w : zWd), zS gX7_explains zEi 15 [(0, .ref v0), (1, .int v1), (2, .int v2), (3, .int v3), (4, .int v4)] [] w (k15 (v3, v4, w))) (h0 : zShp v0 = (7, 5)) (w : zWd) : zS gX7_explains zEi 48 [(0, .ref v0), (1, .int v1), (2, .int v2), (3, .int v3), (4, .int v4)] [] w (mX7_explains_48 k2 k15 v0 v1 v2 v3 v4 w) := by
  unfold mX7_explains_48
  refine zS_iinc 51 rfl 4 (_ + (1 : Int32)) dX7_explains_48 rfl (by show 4 < 5; decide) rfl (show _ = [(4, .int _), (0, .ref _), (1, .int _), (2, .int _), (3, .int _)] from rfl) ?_
  refine zS_goto 15 dX7_explains_51 (by decide) ?_
  refine zS_sub [1, 2, 3, 4, 0] (show _ = [(0, .ref _), (1, .int _), (2, .int _), (3, .int _), (4, .int _)] from rfl) ?_
  exact hk15 _ _ _

set_option maxHeartbeats 4000000 in
set_option maxRecDepth 100000 in
theorem sX7_explains_15b (k2 : Int32 × zWd → Option (Int32 × zWd)) (v0 : Nat) (v1 : Int32) (v2 : Int32) (k15 : Int32 × Int32 × zWd → Option (Int32 × zWd)) (v3 : Int32) (v4 : Int32) (hk2 : ∀ (v2 : Int32) (w : zWd), zS gX7_explains zEi 2 [(0, .ref v0), (1, .int v1), (2, .int v2)] [] w (k2 (v2, w))) (hk15 : ∀ (v3 : Int32) (v4 : Int32) (w : zWd), zS gX7_explains zEi 15 [(0, .ref v0), (1, .int v1), (2, .int v2), (3, .int v3), (4, .int v4)] [] w (k15 (v3, v4, w))) (h0 : zShp v0 = (7, 5)) (w : zWd) : zS gX7_explains zEi 15 [(0, .ref v0), (1, .int v1), (2, .int v2), (3, .int v3), (4, .int v4)] [] w (mX7_explains_15b k2 v0 v1 v2 k15 v3 v4 w) := by
  unfold mX7_explains_15b
  refine zS_iload 17 rfl 4 rfl dX7_explains_15 ?_
  refine zS_aload_n 18 rfl 0 rfl dX7_explains_17 ?_
  refine zS_getfi 21 rfl 0 dX7_explains_18 zC7 zw448 (by decide) rfl h0 ?_
  refine zS_icmp_ge 54 24 rfl dX7_explains_21 (by decide) ?_ ?_
  · refine zS_iload_n 55 rfl 3 rfl dX7_explains_54 ?_
    refine zS_aload_n 56 rfl 0 rfl dX7_explains_55 ?_
    refine zS_getfp 59 rfl 3 dX7_explains_56 zC7 zw452 (by decide) rfl h0 ?_
    refine zS_iload_n 60 rfl 2 rfl dX7_explains_59 ?_
    refine zS_iald 61 rfl dX7_explains_60 (zP7_due h0) ?_
    refine zS_isub 62 rfl dX7_explains_61 ?_
    refine zS_mabs 65 rfl dX7_explains_62 zw1001 zw557 zw90 zw558 (by decide) (Nat.le_of_ble_eq_true rfl) ?_
    refine zS_bni (fun x1 => ?_)
    refine zS_aload_n 66 rfl 0 rfl dX7_explains_65 ?_
    refine zS_getfi 69 rfl 1 dX7_explains_66 zC7 zw450 (by decide) rfl h0 ?_
    refine zS_icmp_le 74 72 rfl dX7_explains_69 (by decide) ?_ ?_
    · refine zS_iinc 77 rfl 2 (_ + (1 : Int32)) dX7_explains_74 rfl (by show 2 < 5; decide) rfl (show _ = [(2, .int _), (0, .ref _), (1, .int _), (3, .int _), (4, .int _)] from rfl) ?_
      refine zS_goto 2 dX7_explains_77 (by decide) ?_
      refine zS_sub [1, 2, 0] (show _ = [(0, .ref _), (1, .int _), (2, .int _)] from rfl) ?_
      exact hk2 _ _
    · refine zS_iconst 73 rfl (0 : Int32) (by decide) dX7_explains_72 ?_
      exact zS_retb dX7_explains_73 rfl
  · refine zS_iload_n 25 rfl 1 rfl dX7_explains_24 ?_
    refine zS_iload 27 rfl 4 rfl dX7_explains_25 ?_
    refine zS_ishr 28 rfl dX7_explains_27 ?_
    refine zS_iconst 29 rfl (1 : Int32) (by decide) dX7_explains_28 ?_
    refine zS_iand 30 rfl dX7_explains_29 ?_
    refine zS_if_eq 48 33 rfl dX7_explains_30 (by decide) ?_ ?_
    · exact sX7_explains_48 k2 k15 _ _ _ _ _ hk2 hk15 h0 _
    · refine zS_iload_n 34 rfl 3 rfl dX7_explains_33 ?_
      refine zS_aload_n 35 rfl 0 rfl dX7_explains_34 ?_
      refine zS_getfp 38 rfl 4 dX7_explains_35 zC7 zw453 (by decide) rfl h0 ?_
      refine zS_iload_n 39 rfl 2 rfl dX7_explains_38 ?_
      refine zS_bipush 41 rfl (8 : Int32) (by decide) dX7_explains_39 ?_
      refine zS_imul 42 rfl dX7_explains_41 ?_
      refine zS_iload 44 rfl 4 rfl dX7_explains_42 ?_
      refine zS_iadd 45 rfl dX7_explains_44 ?_
      refine zS_iald 46 rfl dX7_explains_45 (zP7_share h0) ?_
      refine zS_iadd 47 rfl dX7_explains_46 ?_
      refine zS_bni (fun x2 => ?_)
      refine zS_istore_n 48 rfl dX7_explains_47 (by show 3 < 5; decide) (show _ = [(3, .int _), (0, .ref _), (1, .int _), (2, .int _), (4, .int _)] from rfl) ?_
      refine zS_sub [1, 2, 3, 0, 4] (show _ = [(0, .ref _), (1, .int _), (2, .int _), (3, .int _), (4, .int _)] from rfl) ?_
      exact sX7_explains_48 k2 k15 _ _ _ _ _ hk2 hk15 h0 _

theorem sX7_explains_15 (k2 : Int32 × zWd → Option (Int32 × zWd)) (v0 : Nat) (v1 : Int32) (v2 : Int32) (v3 : Int32) (v4 : Int32) (hk2 : ∀ (v2 : Int32) (w : zWd), zS gX7_explains zEi 2 [(0, .ref v0), (1, .int v1), (2, .int v2)] [] w (k2 (v2, w))) (h0 : zShp v0 = (7, 5)) (w : zWd) : zS gX7_explains zEi 15 [(0, .ref v0), (1, .int v1), (2, .int v2), (3, .int v3), (4, .int v4)] [] w (mX7_explains_15 k2 v0 v1 v2 v3 v4 w) :=
  zS_loop (L := fun q : Int32 × Int32 × zWd => [(0, .ref v0), (1, .int v1), (2, .int v2), (3, .int q.1), (4, .int q.2.1)]) (V := fun q => q.2.2) (T := fun _ => []) (F := fun k q => mX7_explains_15b k2 v0 v1 v2 k q.1 q.2.1 q.2.2) (fun k hk q => sX7_explains_15b k2 v0 v1 v2 k q.1 q.2.1 hk2 (fun a3 a4 w => hk (a3, a4, w)) h0 q.2.2) zFU (v3, v4, w)
set_option maxHeartbeats 4000000 in
set_option maxRecDepth 100000 in
theorem sX7_explains_2b (v0 : Nat) (v1 : Int32) (k2 : Int32 × zWd → Option (Int32 × zWd)) (v2 : Int32) (hk2 : ∀ (v2 : Int32) (w : zWd), zS gX7_explains zEi 2 [(0, .ref v0), (1, .int v1), (2, .int v2)] [] w (k2 (v2, w))) (h0 : zShp v0 = (7, 5)) (w : zWd) : zS gX7_explains zEi 2 [(0, .ref v0), (1, .int v1), (2, .int v2)] [] w (mX7_explains_2b v0 v1 k2 v2 w) := by
  unfold mX7_explains_2b
  refine zS_iload_n 3 rfl 2 rfl dX7_explains_2 ?_
  refine zS_aload_n 4 rfl 0 rfl dX7_explains_3 ?_
  refine zS_getfi 7 rfl 2 dX7_explains_4 zC7 zw451 (by decide) rfl h0 ?_
  refine zS_icmp_ge 80 10 rfl dX7_explains_7 (by decide) ?_ ?_
  · refine zS_iconst 81 rfl (1 : Int32) (by decide) dX7_explains_80 ?_
    exact zS_retb dX7_explains_81 rfl
  · refine zS_iconst 11 rfl (0 : Int32) (by decide) dX7_explains_10 ?_
    refine zS_istore_n 12 rfl dX7_explains_11 (by show 3 < 5; decide) (show _ = [(3, .int _), (0, .ref _), (1, .int _), (2, .int _)] from rfl) ?_
    refine zS_iconst 13 rfl (0 : Int32) (by decide) dX7_explains_12 ?_
    refine zS_istore 15 rfl dX7_explains_13 (by show 4 < 5; decide) (show _ = [(4, .int _), (3, .int _), (0, .ref _), (1, .int _), (2, .int _)] from rfl) ?_
    refine zS_sub [2, 3, 4, 1, 0] (show _ = [(0, .ref _), (1, .int _), (2, .int _), (3, .int _), (4, .int _)] from rfl) ?_
    exact sX7_explains_15 k2 _ _ _ _ _ hk2 h0 _

theorem sX7_explains_2 (v0 : Nat) (v1 : Int32) (v2 : Int32) (h0 : zShp v0 = (7, 5)) (w : zWd) : zS gX7_explains zEi 2 [(0, .ref v0), (1, .int v1), (2, .int v2)] [] w (mX7_explains_2 v0 v1 v2 w) :=
  zS_loop (L := fun q : Int32 × zWd => [(0, .ref v0), (1, .int v1), (2, .int q.1)]) (V := fun q => q.2) (T := fun _ => []) (F := fun k q => mX7_explains_2b v0 v1 k q.1 q.2) (fun k hk q => sX7_explains_2b v0 v1 k q.1 (fun a2 w => hk (a2, w)) h0 q.2) zFU (v2, w)
set_option maxHeartbeats 4000000 in
set_option maxRecDepth 100000 in
theorem sX7_explains (v0 : Nat) (v1 : Int32) (h0 : zShp v0 = (7, 5)) (w : zWd) : zS gX7_explains zEi 0 [(0, .ref v0), (1, .int v1)] [] w (mX7_explains v0 v1 w) := by
  unfold mX7_explains
  refine zS_iconst 1 rfl (0 : Int32) (by decide) dX7_explains_0 ?_
  refine zS_istore_n 2 rfl dX7_explains_1 (by show 2 < 5; decide) (show _ = [(2, .int _), (0, .ref _), (1, .int _)] from rfl) ?_
  refine zS_sub [1, 2, 0] (show _ = [(0, .ref _), (1, .int _), (2, .int _)] from rfl) ?_
  exact sX7_explains_2 _ _ _ h0 _

theorem okX7_explains (v0 : Nat) (v1 : Int32) (w : zWd) (h0 : zShp v0 = (7, 5)) : zOk gX7_explains zEi [.ref v0, .int v1] w (mX7_explains v0 v1 w) := zOk_of (by decide) rfl (Nat.le_of_ble_eq_true rfl) (sX7_explains v0 v1 h0 w)
abbrev gX7_answer : zMth := (yX7_answer, cX7_answer, 7, (some .int), 2, zE0)
theorem cbX7_answer : zCbV yX7_answer cX7_answer 7 (some .int) 1 := ⟨zw993, zw994, zw88, zw995, by decide, by decide, by decide +kernel⟩
set_option maxHeartbeats 4000000 in
set_option maxRecDepth 100000 in
theorem sX7_answer_84 (s0 : Int32) (w : zWd) : zS gX7_answer zEi 84 [] [.int s0] w (mX7_answer_84 s0 w) := by
  unfold mX7_answer_84
  exact zS_reti dX7_answer_84 rfl

set_option maxHeartbeats 4000000 in
set_option maxRecDepth 100000 in
theorem sX7_answer_69 (k13 : Int32 × Int32 × Int32 × Int32 × zWd → Option (Int32 × zWd)) (v0 : Nat) (v1 : Int32) (v2 : Int32) (v3 : Int32) (v4 : Int32) (v5 : Int32) (hk13 : ∀ (v2 : Int32) (v3 : Int32) (v4 : Int32) (v5 : Int32) (w : zWd), zS gX7_answer zEi 13 [(0, .ref v0), (1, .int v1), (2, .int v2), (3, .int v3), (4, .int v4), (5, .int v5)] [] w (k13 (v2, v3, v4, v5, w))) (h0 : zShp v0 = (7, 5)) (w : zWd) : zS gX7_answer zEi 69 [(0, .ref v0), (1, .int v1), (2, .int v2), (3, .int v3), (4, .int v4), (5, .int v5)] [] w (mX7_answer_69 k13 v0 v1 v2 v3 v4 v5 w) := by
  unfold mX7_answer_69
  refine zS_iinc 72 rfl 5 (_ + (1 : Int32)) dX7_answer_69 rfl (by show 5 < 7; decide) rfl (show _ = [(5, .int _), (0, .ref _), (1, .int _), (2, .int _), (3, .int _), (4, .int _)] from rfl) ?_
  refine zS_goto 13 dX7_answer_72 (by decide) ?_
  refine zS_sub [1, 2, 3, 4, 5, 0] (show _ = [(0, .ref _), (1, .int _), (2, .int _), (3, .int _), (4, .int _), (5, .int _)] from rfl) ?_
  exact hk13 _ _ _ _ _

set_option maxHeartbeats 4000000 in
set_option maxRecDepth 100000 in
theorem sX7_answer_66 (k13 : Int32 × Int32 × Int32 × Int32 × zWd → Option (Int32 × zWd)) (v0 : Nat) (v1 : Int32) (v2 : Int32) (v3 : Int32) (v4 : Int32) (v5 : Int32) (hk13 : ∀ (v2 : Int32) (v3 : Int32) (v4 : Int32) (v5 : Int32) (w : zWd), zS gX7_answer zEi 13 [(0, .ref v0), (1, .int v1), (2, .int v2), (3, .int v3), (4, .int v4), (5, .int v5)] [] w (k13 (v2, v3, v4, v5, w))) (h0 : zShp v0 = (7, 5)) (w : zWd) : zS gX7_answer zEi 66 [(0, .ref v0), (1, .int v1), (2, .int v2), (3, .int v3), (4, .int v4), (5, .int v5)] [] w (mX7_answer_66 k13 v0 v1 v2 v3 v4 v5 w) := by
  unfold mX7_answer_66
  refine zS_iinc 69 rfl 3 (_ + (1 : Int32)) dX7_answer_66 rfl (by show 3 < 7; decide) rfl (show _ = [(3, .int _), (0, .ref _), (1, .int _), (2, .int _), (4, .int _), (5, .int _)] from rfl) ?_
  refine zS_sub [1, 2, 3, 0, 4, 5] (show _ = [(0, .ref _), (1, .int _), (2, .int _), (3, .int _), (4, .int _), (5, .int _)] from rfl) ?_
  exact sX7_answer_69 k13 _ _ _ _ _ _ hk13 h0 _

set_option maxHeartbeats 4000000 in
set_option maxRecDepth 100000 in
theorem sX7_answer_13b (v0 : Nat) (v1 : Int32) (k13 : Int32 × Int32 × Int32 × Int32 × zWd → Option (Int32 × zWd)) (v2 : Int32) (v3 : Int32) (v4 : Int32) (v5 : Int32) (hk13 : ∀ (v2 : Int32) (v3 : Int32) (v4 : Int32) (v5 : Int32) (w : zWd), zS gX7_answer zEi 13 [(0, .ref v0), (1, .int v1), (2, .int v2), (3, .int v3), (4, .int v4), (5, .int v5)] [] w (k13 (v2, v3, v4, v5, w))) (h0 : zShp v0 = (7, 5)) (w : zWd) : zS gX7_answer zEi 13 [(0, .ref v0), (1, .int v1), (2, .int v2), (3, .int v3), (4, .int v4), (5, .int v5)] [] w (mX7_answer_13b v0 v1 k13 v2 v3 v4 v5 w) := by
  unfold mX7_answer_13b
  refine zS_iload 15 rfl 5 rfl dX7_answer_13 ?_
  refine zS_iconst 16 rfl (1 : Int32) (by decide) dX7_answer_15 ?_
  refine zS_aload_n 17 rfl 0 rfl dX7_answer_16 ?_
  refine zS_getfi 20 rfl 0 dX7_answer_17 zC7 zw448 (by decide) rfl h0 ?_
  refine zS_ishl 21 rfl dX7_answer_20 ?_
  refine zS_icmp_ge 75 24 rfl dX7_answer_21 (by decide) ?_ ?_
  · refine zS_iload_n 76 rfl 1 rfl dX7_answer_75 ?_
    refine zS_if_ne 83 79 rfl dX7_answer_76 (by decide) ?_ ?_
    · refine zS_iload_n 80 rfl 2 rfl dX7_answer_79 ?_
      refine zS_goto 84 dX7_answer_80 (by decide) ?_
      refine zS_sub [] (show _ = [] from rfl) ?_
      exact sX7_answer_84 _ _
    · refine zS_iload_n 84 rfl 3 rfl dX7_answer_83 ?_
      refine zS_sub [] (show _ = [] from rfl) ?_
      exact sX7_answer_84 _ _
  · refine zS_iload 26 rfl 5 rfl dX7_answer_24 ?_
    refine zS_cSi (as := [.int _]) (st := []) (g' := gJ6_bitCount_0f7a4) 29 rfl (okJ6_bitCount_0f7a4 _ _) dX7_answer_26 zw996 cbJ6_bitCount_0f7a4 rfl rfl (by decide) (Nat.le_of_ble_eq_true rfl) (fun r1 w2 => ?_)
    refine zS_istore 31 rfl dX7_answer_29 (by show 6 < 7; decide) (show _ = [(6, .int _), (0, .ref _), (1, .int _), (2, .int _), (3, .int _), (4, .int _), (5, .int _)] from rfl) ?_
    refine zS_iload 33 rfl 0 rfl dX7_answer_31 ?_
    refine zS_iload 35 rfl 5 rfl dX7_answer_33 ?_
    refine zS_icmp_gt 69 38 rfl dX7_answer_35 (by decide) ?_ ?_
    · refine zS_sub [1, 2, 3, 4, 5, 6] (show _ = [(0, .ref _), (1, .int _), (2, .int _), (3, .int _), (4, .int _), (5, .int _)] from rfl) ?_
      exact sX7_answer_69 k13 _ _ _ _ _ _ hk13 h0 _
    · refine zS_aload_n 39 rfl 1 rfl dX7_answer_38 ?_
      refine zS_iload 41 rfl 6 rfl dX7_answer_39 ?_
      refine zS_cVi (as := [.int _]) (st := []) (g' := gX7_explains) 44 rfl (okX7_explains _ _ _ h0) dX7_answer_41 zC7 h0 zw997 cbX7_explains rfl rfl (by decide) (Nat.le_of_ble_eq_true rfl) (fun r3 w4 => ?_)
      refine zS_if_ne 50 47 rfl dX7_answer_44 (by decide) ?_ ?_
      · refine zS_goto 69 dX7_answer_47 (by decide) ?_
        refine zS_sub [1, 2, 3, 4, 5, 6] (show _ = [(0, .ref _), (1, .int _), (2, .int _), (3, .int _), (4, .int _), (5, .int _)] from rfl) ?_
        exact sX7_answer_69 k13 _ _ _ _ _ _ hk13 h0 _
      · refine zS_iload 52 rfl 0 rfl dX7_answer_50 ?_
        refine zS_iload 54 rfl 5 rfl dX7_answer_52 ?_
        refine zS_icmp_ge 66 57 rfl dX7_answer_54 (by decide) ?_ ?_
        · refine zS_sub [1, 2, 3, 4, 5, 6] (show _ = [(0, .ref _), (1, .int _), (2, .int _), (3, .int _), (4, .int _), (5, .int _)] from rfl) ?_
          exact sX7_answer_66 k13 _ _ _ _ _ _ hk13 h0 _
        · refine zS_iload 59 rfl 0 rfl dX7_answer_57 ?_
          refine zS_istore 61 rfl dX7_answer_59 (by show 4 < 7; decide) (show _ = [(4, .int _), (6, .int _), (0, .ref _), (1, .int _), (2, .int _), (3, .int _), (5, .int _)] from rfl) ?_
          refine zS_iload 63 rfl 6 rfl dX7_answer_61 ?_
          refine zS_istore_n 64 rfl dX7_answer_63 (by show 2 < 7; decide) (show _ = [(2, .int _), (4, .int _), (6, .int _), (0, .ref _), (1, .int _), (3, .int _), (5, .int _)] from rfl) ?_
          refine zS_iconst 65 rfl (0 : Int32) (by decide) dX7_answer_64 ?_
          refine zS_istore_n 66 rfl dX7_answer_65 (by show 3 < 7; decide) (show _ = [(3, .int _), (2, .int _), (4, .int _), (6, .int _), (0, .ref _), (1, .int _), (5, .int _)] from rfl) ?_
          refine zS_sub [4, 5, 1, 0, 2, 6] (show _ = [(0, .ref _), (1, .int _), (2, .int _), (3, .int _), (4, .int _), (5, .int _)] from rfl) ?_
          exact sX7_answer_66 k13 _ _ _ _ _ _ hk13 h0 _

theorem sX7_answer_13 (v0 : Nat) (v1 : Int32) (v2 : Int32) (v3 : Int32) (v4 : Int32) (v5 : Int32) (h0 : zShp v0 = (7, 5)) (w : zWd) : zS gX7_answer zEi 13 [(0, .ref v0), (1, .int v1), (2, .int v2), (3, .int v3), (4, .int v4), (5, .int v5)] [] w (mX7_answer_13 v0 v1 v2 v3 v4 v5 w) :=
  zS_loop (L := fun q : Int32 × Int32 × Int32 × Int32 × zWd => [(0, .ref v0), (1, .int v1), (2, .int q.1), (3, .int q.2.1), (4, .int q.2.2.1), (5, .int q.2.2.2.1)]) (V := fun q => q.2.2.2.2) (T := fun _ => []) (F := fun k q => mX7_answer_13b v0 v1 k q.1 q.2.1 q.2.2.1 q.2.2.2.1 q.2.2.2.2) (fun k hk q => sX7_answer_13b v0 v1 k q.1 q.2.1 q.2.2.1 q.2.2.2.1 (fun a2 a3 a4 a5 w => hk (a2, a3, a4, a5, w)) h0 q.2.2.2.2) zFU (v2, v3, v4, v5, w)
set_option maxHeartbeats 4000000 in
set_option maxRecDepth 100000 in
theorem sX7_answer (v0 : Nat) (v1 : Int32) (h0 : zShp v0 = (7, 5)) (w : zWd) : zS gX7_answer zEi 0 [(0, .ref v0), (1, .int v1)] [] w (mX7_answer v0 v1 w) := by
  unfold mX7_answer
  refine zS_bipush 2 rfl (-5 : Int32) (by decide) dX7_answer_0 ?_
  refine zS_istore_n 3 rfl dX7_answer_2 (by show 2 < 7; decide) (show _ = [(2, .int _), (0, .ref _), (1, .int _)] from rfl) ?_
  refine zS_bipush 5 rfl (-5 : Int32) (by decide) dX7_answer_3 ?_
  refine zS_istore_n 6 rfl dX7_answer_5 (by show 3 < 7; decide) (show _ = [(3, .int _), (2, .int _), (0, .ref _), (1, .int _)] from rfl) ?_
  refine zS_bipush 8 rfl (9 : Int32) (by decide) dX7_answer_6 ?_
  refine zS_istore 10 rfl dX7_answer_8 (by show 4 < 7; decide) (show _ = [(4, .int _), (3, .int _), (2, .int _), (0, .ref _), (1, .int _)] from rfl) ?_
  refine zS_iconst 11 rfl (0 : Int32) (by decide) dX7_answer_10 ?_
  refine zS_istore 13 rfl dX7_answer_11 (by show 5 < 7; decide) (show _ = [(5, .int _), (4, .int _), (3, .int _), (2, .int _), (0, .ref _), (1, .int _)] from rfl) ?_
  refine zS_sub [4, 5, 3, 2, 1, 0] (show _ = [(0, .ref _), (1, .int _), (2, .int _), (3, .int _), (4, .int _), (5, .int _)] from rfl) ?_
  exact sX7_answer_13 _ _ _ _ _ _ h0 _

theorem okX7_answer (v0 : Nat) (v1 : Int32) (w : zWd) (h0 : zShp v0 = (7, 5)) : zOk gX7_answer zEi [.ref v0, .int v1] w (mX7_answer v0 v1 w) := zOk_of (by decide) rfl (Nat.le_of_ble_eq_true rfl) (sX7_answer v0 v1 h0 w)
abbrev gX8_copyFrom : zMth := (yX8_copyFrom, cX8_copyFrom, 2, none, 1, zE0)
theorem cbX8_copyFrom : zCbV yX8_copyFrom cX8_copyFrom 2 none 1 := ⟨zw1086, zw1087, zw83, zw1088, by decide, by decide, by decide +kernel⟩
set_option maxHeartbeats 4000000 in
set_option maxRecDepth 100000 in
theorem sX8_copyFrom (v0 : Nat) (v1 : Nat) (h0 : zShp v0 = (8, 13)) (h1 : zShp v1 = (8, 13)) (w : zWd) : zS gX8_copyFrom zEv 0 [(0, .ref v0), (1, .ref v1)] [] w (mX8_copyFrom v0 v1 w) := by
  unfold mX8_copyFrom
  refine zS_aload_n 1 rfl 0 rfl dX8_copyFrom_0 ?_
  refine zS_aload_n 2 rfl 1 rfl dX8_copyFrom_1 ?_
  refine zS_getfi 5 rfl 0 dX8_copyFrom_2 zC8 zw237 (by decide) rfl h1 ?_
  refine zS_putfi 8 rfl 0 dX8_copyFrom_5 zC8 zw237 (by decide) rfl rfl rfl h0 ?_
  refine zS_bnw (fun w1 => ?_)
  refine zS_aload_n 9 rfl 1 rfl dX8_copyFrom_8 ?_
  refine zS_getfp 12 rfl 1 dX8_copyFrom_9 zC8 zw239 (by decide) rfl h1 ?_
  refine zS_iconst 13 rfl (0 : Int32) (by decide) dX8_copyFrom_12 ?_
  refine zS_aload_n 14 rfl 0 rfl dX8_copyFrom_13 ?_
  refine zS_getfp 17 rfl 1 dX8_copyFrom_14 zC8 zw239 (by decide) rfl h0 ?_
  refine zS_iconst 18 rfl (0 : Int32) (by decide) dX8_copyFrom_17 ?_
  refine zS_bipush 20 rfl (8 : Int32) (by decide) dX8_copyFrom_18 ?_
  refine zS_copy 23 rfl dX8_copyFrom_20 zw1089 zw611 zw610 zw91 (zP8_kind h1) (zP8_kind h0) (by decide) (Nat.le_of_ble_eq_true rfl) zNfw ?_
  refine zS_bnw (fun w2 => ?_)
  refine zS_aload_n 24 rfl 1 rfl dX8_copyFrom_23 ?_
  refine zS_getfp 27 rfl 2 dX8_copyFrom_24 zC8 zw243 (by decide) rfl h1 ?_
  refine zS_iconst 28 rfl (0 : Int32) (by decide) dX8_copyFrom_27 ?_
  refine zS_aload_n 29 rfl 0 rfl dX8_copyFrom_28 ?_
  refine zS_getfp 32 rfl 2 dX8_copyFrom_29 zC8 zw243 (by decide) rfl h0 ?_
  refine zS_iconst 33 rfl (0 : Int32) (by decide) dX8_copyFrom_32 ?_
  refine zS_bipush 35 rfl (8 : Int32) (by decide) dX8_copyFrom_33 ?_
  refine zS_copy 38 rfl dX8_copyFrom_35 zw1089 zw611 zw610 zw91 (zP8_tap h1) (zP8_tap h0) (by decide) (Nat.le_of_ble_eq_true rfl) zNfw ?_
  refine zS_bnw (fun w3 => ?_)
  refine zS_aload_n 39 rfl 1 rfl dX8_copyFrom_38 ?_
  refine zS_getfp 42 rfl 3 dX8_copyFrom_39 zC8 zw245 (by decide) rfl h1 ?_
  refine zS_iconst 43 rfl (0 : Int32) (by decide) dX8_copyFrom_42 ?_
  refine zS_aload_n 44 rfl 0 rfl dX8_copyFrom_43 ?_
  refine zS_getfp 47 rfl 3 dX8_copyFrom_44 zC8 zw245 (by decide) rfl h0 ?_
  refine zS_iconst 48 rfl (0 : Int32) (by decide) dX8_copyFrom_47 ?_
  refine zS_bipush 50 rfl (8 : Int32) (by decide) dX8_copyFrom_48 ?_
  refine zS_copy 53 rfl dX8_copyFrom_50 zw1089 zw611 zw610 zw91 (zP8_gallons h1) (zP8_gallons h0) (by decide) (Nat.le_of_ble_eq_true rfl) zNfw ?_
  refine zS_bnw (fun w4 => ?_)
  refine zS_aload_n 54 rfl 1 rfl dX8_copyFrom_53 ?_
  refine zS_getfp 57 rfl 4 dX8_copyFrom_54 zC8 zw249 (by decide) rfl h1 ?_
  refine zS_iconst 58 rfl (0 : Int32) (by decide) dX8_copyFrom_57 ?_
  refine zS_aload_n 59 rfl 0 rfl dX8_copyFrom_58 ?_
  refine zS_getfp 62 rfl 4 dX8_copyFrom_59 zC8 zw249 (by decide) rfl h0 ?_
  refine zS_iconst 63 rfl (0 : Int32) (by decide) dX8_copyFrom_62 ?_
  refine zS_bipush 65 rfl (8 : Int32) (by decide) dX8_copyFrom_63 ?_
  refine zS_copy 68 rfl dX8_copyFrom_65 zw1089 zw611 zw610 zw91 (zP8_heat h1) (zP8_heat h0) (by decide) (Nat.le_of_ble_eq_true rfl) zNfw ?_
  refine zS_bnw (fun w5 => ?_)
  refine zS_aload_n 69 rfl 1 rfl dX8_copyFrom_68 ?_
  refine zS_getfp 72 rfl 5 dX8_copyFrom_69 zC8 zw251 (by decide) rfl h1 ?_
  refine zS_iconst 73 rfl (0 : Int32) (by decide) dX8_copyFrom_72 ?_
  refine zS_aload_n 74 rfl 0 rfl dX8_copyFrom_73 ?_
  refine zS_getfp 77 rfl 5 dX8_copyFrom_74 zC8 zw251 (by decide) rfl h0 ?_
  refine zS_iconst 78 rfl (0 : Int32) (by decide) dX8_copyFrom_77 ?_
  refine zS_bipush 80 rfl (8 : Int32) (by decide) dX8_copyFrom_78 ?_
  refine zS_copy 83 rfl dX8_copyFrom_80 zw1089 zw611 zw610 zw91 (zP8_since h1) (zP8_since h0) (by decide) (Nat.le_of_ble_eq_true rfl) zNfw ?_
  refine zS_bnw (fun w6 => ?_)
  refine zS_aload_n 84 rfl 1 rfl dX8_copyFrom_83 ?_
  refine zS_getfp 87 rfl 6 dX8_copyFrom_84 zC8 zw255 (by decide) rfl h1 ?_
  refine zS_iconst 88 rfl (0 : Int32) (by decide) dX8_copyFrom_87 ?_
  refine zS_aload_n 89 rfl 0 rfl dX8_copyFrom_88 ?_
  refine zS_getfp 92 rfl 6 dX8_copyFrom_89 zC8 zw255 (by decide) rfl h0 ?_
  refine zS_iconst 93 rfl (0 : Int32) (by decide) dX8_copyFrom_92 ?_
  refine zS_bipush 95 rfl (8 : Int32) (by decide) dX8_copyFrom_93 ?_
  refine zS_copy 98 rfl dX8_copyFrom_95 zw1089 zw611 zw610 zw91 (zP8_uses h1) (zP8_uses h0) (by decide) (Nat.le_of_ble_eq_true rfl) zNfw ?_
  refine zS_bnw (fun w7 => ?_)
  refine zS_aload_n 99 rfl 1 rfl dX8_copyFrom_98 ?_
  refine zS_getfp 102 rfl 7 dX8_copyFrom_99 zC8 zw257 (by decide) rfl h1 ?_
  refine zS_iconst 103 rfl (0 : Int32) (by decide) dX8_copyFrom_102 ?_
  refine zS_aload_n 104 rfl 0 rfl dX8_copyFrom_103 ?_
  refine zS_getfp 107 rfl 7 dX8_copyFrom_104 zC8 zw257 (by decide) rfl h0 ?_
  refine zS_iconst 108 rfl (0 : Int32) (by decide) dX8_copyFrom_107 ?_
  refine zS_aload_n 109 rfl 0 rfl dX8_copyFrom_108 ?_
  refine zS_getfp 112 rfl 7 dX8_copyFrom_109 zC8 zw257 (by decide) rfl h0 ?_
  refine zS_alen 113 rfl (160 : Int32) (by decide) dX8_copyFrom_112 (by decide) (zP8_useDay h0) ?_
  refine zS_copy 116 rfl dX8_copyFrom_113 zw1089 zw611 zw610 zw91 (zP8_useDay h1) (zP8_useDay h0) (by decide) (Nat.le_of_ble_eq_true rfl) zNfw ?_
  refine zS_bnw (fun w8 => ?_)
  refine zS_aload_n 117 rfl 0 rfl dX8_copyFrom_116 ?_
  refine zS_aload_n 118 rfl 1 rfl dX8_copyFrom_117 ?_
  refine zS_getfi 121 rfl 8 dX8_copyFrom_118 zC8 zw258 (by decide) rfl h1 ?_
  refine zS_putfi 124 rfl 8 dX8_copyFrom_121 zC8 zw258 (by decide) rfl rfl rfl h0 ?_
  refine zS_bnw (fun w9 => ?_)
  refine zS_aload_n 125 rfl 1 rfl dX8_copyFrom_124 ?_
  refine zS_getfp 128 rfl 9 dX8_copyFrom_125 zC8 zw260 (by decide) rfl h1 ?_
  refine zS_iconst 129 rfl (0 : Int32) (by decide) dX8_copyFrom_128 ?_
  refine zS_aload_n 130 rfl 0 rfl dX8_copyFrom_129 ?_
  refine zS_getfp 133 rfl 9 dX8_copyFrom_130 zC8 zw260 (by decide) rfl h0 ?_
  refine zS_iconst 134 rfl (0 : Int32) (by decide) dX8_copyFrom_133 ?_
  refine zS_bipush 136 rfl (30 : Int32) (by decide) dX8_copyFrom_134 ?_
  refine zS_copy 139 rfl dX8_copyFrom_136 zw1089 zw611 zw610 zw91 (zP8_saleTaker h1) (zP8_saleTaker h0) (by decide) (Nat.le_of_ble_eq_true rfl) zNfw ?_
  refine zS_bnw (fun w10 => ?_)
  refine zS_aload_n 140 rfl 1 rfl dX8_copyFrom_139 ?_
  refine zS_getfp 143 rfl 10 dX8_copyFrom_140 zC8 zw261 (by decide) rfl h1 ?_
  refine zS_iconst 144 rfl (0 : Int32) (by decide) dX8_copyFrom_143 ?_
  refine zS_aload_n 145 rfl 0 rfl dX8_copyFrom_144 ?_
  refine zS_getfp 148 rfl 10 dX8_copyFrom_145 zC8 zw261 (by decide) rfl h0 ?_
  refine zS_iconst 149 rfl (0 : Int32) (by decide) dX8_copyFrom_148 ?_
  refine zS_bipush 151 rfl (30 : Int32) (by decide) dX8_copyFrom_149 ?_
  refine zS_copy 154 rfl dX8_copyFrom_151 zw1089 zw611 zw610 zw91 (zP8_saleBy h1) (zP8_saleBy h0) (by decide) (Nat.le_of_ble_eq_true rfl) zNfw ?_
  refine zS_bnw (fun w11 => ?_)
  refine zS_aload_n 155 rfl 1 rfl dX8_copyFrom_154 ?_
  refine zS_getfp 158 rfl 11 dX8_copyFrom_155 zC8 zw262 (by decide) rfl h1 ?_
  refine zS_iconst 159 rfl (0 : Int32) (by decide) dX8_copyFrom_158 ?_
  refine zS_aload_n 160 rfl 0 rfl dX8_copyFrom_159 ?_
  refine zS_getfp 163 rfl 11 dX8_copyFrom_160 zC8 zw262 (by decide) rfl h0 ?_
  refine zS_iconst 164 rfl (0 : Int32) (by decide) dX8_copyFrom_163 ?_
  refine zS_bipush 166 rfl (30 : Int32) (by decide) dX8_copyFrom_164 ?_
  refine zS_copy 169 rfl dX8_copyFrom_166 zw1089 zw611 zw610 zw91 (zP8_saleTo h1) (zP8_saleTo h0) (by decide) (Nat.le_of_ble_eq_true rfl) zNfw ?_
  refine zS_bnw (fun w12 => ?_)
  refine zS_aload_n 170 rfl 1 rfl dX8_copyFrom_169 ?_
  refine zS_getfp 173 rfl 12 dX8_copyFrom_170 zC8 zw263 (by decide) rfl h1 ?_
  refine zS_iconst 174 rfl (0 : Int32) (by decide) dX8_copyFrom_173 ?_
  refine zS_aload_n 175 rfl 0 rfl dX8_copyFrom_174 ?_
  refine zS_getfp 178 rfl 12 dX8_copyFrom_175 zC8 zw263 (by decide) rfl h0 ?_
  refine zS_iconst 179 rfl (0 : Int32) (by decide) dX8_copyFrom_178 ?_
  refine zS_bipush 181 rfl (30 : Int32) (by decide) dX8_copyFrom_179 ?_
  refine zS_copy 184 rfl dX8_copyFrom_181 zw1089 zw611 zw610 zw91 (zP8_saleDay h1) (zP8_saleDay h0) (by decide) (Nat.le_of_ble_eq_true rfl) zNfw ?_
  refine zS_bnw (fun w13 => ?_)
  exact zS_retv dX8_copyFrom_184 rfl

theorem okX8_copyFrom (v0 : Nat) (v1 : Nat) (w : zWd) (h0 : zShp v0 = (8, 13)) (h1 : zShp v1 = (8, 13)) : zOk gX8_copyFrom zEv [.ref v0, .ref v1] w (mX8_copyFrom v0 v1 w) := zOk_of (by decide) rfl (Nat.le_of_ble_eq_true rfl) (sX8_copyFrom v0 v1 h0 h1 w)
abbrev gX8_add : zMth := (yX8_add, cX8_add, 6, (some .int), 1, zE0)
theorem cbX8_add : zCbV yX8_add cX8_add 6 (some .int) 5 := ⟨zw794, zw795, zw83, zw796, by decide, by decide, by decide +kernel⟩
set_option maxHeartbeats 4000000 in
set_option maxRecDepth 100000 in
theorem sX8_add (v0 : Nat) (v1 : Int32) (v2 : Int32) (v3 : Int32) (v4 : Int32) (v5 : Int32) (h0 : zShp v0 = (8, 13)) (w : zWd) : zS gX8_add zEi 0 [(0, .ref v0), (1, .int v1), (2, .int v2), (3, .int v3), (4, .int v4), (5, .int v5)] [] w (mX8_add v0 v1 v2 v3 v4 v5 w) := by
  unfold mX8_add
  refine zS_aload_n 1 rfl 0 rfl dX8_add_0 ?_
  refine zS_getfi 4 rfl 0 dX8_add_1 zC8 zw237 (by decide) rfl h0 ?_
  refine zS_bipush 6 rfl (8 : Int32) (by decide) dX8_add_4 ?_
  refine zS_icmp_lt 12 9 rfl dX8_add_6 (by decide) ?_ ?_
  · refine zS_aload_n 13 rfl 0 rfl dX8_add_12 ?_
    refine zS_getfp 16 rfl 1 dX8_add_13 zC8 zw239 (by decide) rfl h0 ?_
    refine zS_aload_n 17 rfl 0 rfl dX8_add_16 ?_
    refine zS_getfi 20 rfl 0 dX8_add_17 zC8 zw237 (by decide) rfl h0 ?_
    refine zS_iload_n 21 rfl 1 rfl dX8_add_20 ?_
    refine zS_iast 22 rfl dX8_add_21 (zP8_kind h0) ?_
    refine zS_bnw (fun w1 => ?_)
    refine zS_aload_n 23 rfl 0 rfl dX8_add_22 ?_
    refine zS_getfp 26 rfl 2 dX8_add_23 zC8 zw243 (by decide) rfl h0 ?_
    refine zS_aload_n 27 rfl 0 rfl dX8_add_26 ?_
    refine zS_getfi 30 rfl 0 dX8_add_27 zC8 zw237 (by decide) rfl h0 ?_
    refine zS_iload_n 31 rfl 2 rfl dX8_add_30 ?_
    refine zS_iast 32 rfl dX8_add_31 (zP8_tap h0) ?_
    refine zS_bnw (fun w2 => ?_)
    refine zS_aload_n 33 rfl 0 rfl dX8_add_32 ?_
    refine zS_getfp 36 rfl 3 dX8_add_33 zC8 zw245 (by decide) rfl h0 ?_
    refine zS_aload_n 37 rfl 0 rfl dX8_add_36 ?_
    refine zS_getfi 40 rfl 0 dX8_add_37 zC8 zw237 (by decide) rfl h0 ?_
    refine zS_iload_n 41 rfl 3 rfl dX8_add_40 ?_
    refine zS_iast 42 rfl dX8_add_41 (zP8_gallons h0) ?_
    refine zS_bnw (fun w3 => ?_)
    refine zS_aload_n 43 rfl 0 rfl dX8_add_42 ?_
    refine zS_getfp 46 rfl 4 dX8_add_43 zC8 zw249 (by decide) rfl h0 ?_
    refine zS_aload_n 47 rfl 0 rfl dX8_add_46 ?_
    refine zS_getfi 50 rfl 0 dX8_add_47 zC8 zw237 (by decide) rfl h0 ?_
    refine zS_iload 52 rfl 4 rfl dX8_add_50 ?_
    refine zS_iast 53 rfl dX8_add_52 (zP8_heat h0) ?_
    refine zS_bnw (fun w4 => ?_)
    refine zS_aload_n 54 rfl 0 rfl dX8_add_53 ?_
    refine zS_getfp 57 rfl 5 dX8_add_54 zC8 zw251 (by decide) rfl h0 ?_
    refine zS_aload_n 58 rfl 0 rfl dX8_add_57 ?_
    refine zS_getfi 61 rfl 0 dX8_add_58 zC8 zw237 (by decide) rfl h0 ?_
    refine zS_iload 63 rfl 5 rfl dX8_add_61 ?_
    refine zS_iast 64 rfl dX8_add_63 (zP8_since h0) ?_
    refine zS_bnw (fun w5 => ?_)
    refine zS_aload_n 65 rfl 0 rfl dX8_add_64 ?_
    refine zS_getfp 68 rfl 6 dX8_add_65 zC8 zw255 (by decide) rfl h0 ?_
    refine zS_aload_n 69 rfl 0 rfl dX8_add_68 ?_
    refine zS_getfi 72 rfl 0 dX8_add_69 zC8 zw237 (by decide) rfl h0 ?_
    refine zS_iconst 73 rfl (0 : Int32) (by decide) dX8_add_72 ?_
    refine zS_iast 74 rfl dX8_add_73 (zP8_uses h0) ?_
    refine zS_bnw (fun w6 => ?_)
    refine zS_aload_n 75 rfl 0 rfl dX8_add_74 ?_
    refine zS_dup 76 rfl rfl dX8_add_75 ?_
    refine zS_getfi 79 rfl 0 dX8_add_76 zC8 zw237 (by decide) rfl h0 ?_
    refine zS_dup_x1 80 rfl rfl rfl dX8_add_79 ?_
    refine zS_iconst 81 rfl (1 : Int32) (by decide) dX8_add_80 ?_
    refine zS_iadd 82 rfl dX8_add_81 ?_
    refine zS_putfi 85 rfl 0 dX8_add_82 zC8 zw237 (by decide) rfl rfl rfl h0 ?_
    refine zS_bnw (fun w7 => ?_)
    exact zS_reti dX8_add_85 rfl
  · refine zS_bipush 11 rfl (-4 : Int32) (by decide) dX8_add_9 ?_
    exact zS_reti dX8_add_11 rfl

theorem okX8_add (v0 : Nat) (v1 : Int32) (v2 : Int32) (v3 : Int32) (v4 : Int32) (v5 : Int32) (w : zWd) (h0 : zShp v0 = (8, 13)) : zOk gX8_add zEi [.ref v0, .int v1, .int v2, .int v3, .int v4, .int v5] w (mX8_add v0 v1 v2 v3 v4 v5 w) := zOk_of (by decide) rfl (Nat.le_of_ble_eq_true rfl) (sX8_add v0 v1 v2 v3 v4 v5 h0 w)
abbrev gX8_addSale : zMth := (yX8_addSale, cX8_addSale, 5, (some .int), 1, zE0)
theorem cbX8_addSale : zCbV yX8_addSale cX8_addSale 5 (some .int) 4 := ⟨zw842, zw843, zw83, zw844, by decide, by decide, by decide +kernel⟩
set_option maxHeartbeats 4000000 in
set_option maxRecDepth 100000 in
theorem sX8_addSale (v0 : Nat) (v1 : Int32) (v2 : Int32) (v3 : Int32) (v4 : Int32) (h0 : zShp v0 = (8, 13)) (w : zWd) : zS gX8_addSale zEi 0 [(0, .ref v0), (1, .int v1), (2, .int v2), (3, .int v3), (4, .int v4)] [] w (mX8_addSale v0 v1 v2 v3 v4 w) := by
  unfold mX8_addSale
  refine zS_aload_n 1 rfl 0 rfl dX8_addSale_0 ?_
  refine zS_getfi 4 rfl 8 dX8_addSale_1 zC8 zw258 (by decide) rfl h0 ?_
  refine zS_bipush 6 rfl (30 : Int32) (by decide) dX8_addSale_4 ?_
  refine zS_icmp_lt 12 9 rfl dX8_addSale_6 (by decide) ?_ ?_
  · refine zS_aload_n 13 rfl 0 rfl dX8_addSale_12 ?_
    refine zS_getfp 16 rfl 9 dX8_addSale_13 zC8 zw260 (by decide) rfl h0 ?_
    refine zS_aload_n 17 rfl 0 rfl dX8_addSale_16 ?_
    refine zS_getfi 20 rfl 8 dX8_addSale_17 zC8 zw258 (by decide) rfl h0 ?_
    refine zS_iload_n 21 rfl 1 rfl dX8_addSale_20 ?_
    refine zS_iast 22 rfl dX8_addSale_21 (zP8_saleTaker h0) ?_
    refine zS_bnw (fun w1 => ?_)
    refine zS_aload_n 23 rfl 0 rfl dX8_addSale_22 ?_
    refine zS_getfp 26 rfl 10 dX8_addSale_23 zC8 zw261 (by decide) rfl h0 ?_
    refine zS_aload_n 27 rfl 0 rfl dX8_addSale_26 ?_
    refine zS_getfi 30 rfl 8 dX8_addSale_27 zC8 zw258 (by decide) rfl h0 ?_
    refine zS_iload_n 31 rfl 2 rfl dX8_addSale_30 ?_
    refine zS_iast 32 rfl dX8_addSale_31 (zP8_saleBy h0) ?_
    refine zS_bnw (fun w2 => ?_)
    refine zS_aload_n 33 rfl 0 rfl dX8_addSale_32 ?_
    refine zS_getfp 36 rfl 11 dX8_addSale_33 zC8 zw262 (by decide) rfl h0 ?_
    refine zS_aload_n 37 rfl 0 rfl dX8_addSale_36 ?_
    refine zS_getfi 40 rfl 8 dX8_addSale_37 zC8 zw258 (by decide) rfl h0 ?_
    refine zS_iload_n 41 rfl 3 rfl dX8_addSale_40 ?_
    refine zS_iast 42 rfl dX8_addSale_41 (zP8_saleTo h0) ?_
    refine zS_bnw (fun w3 => ?_)
    refine zS_aload_n 43 rfl 0 rfl dX8_addSale_42 ?_
    refine zS_getfp 46 rfl 12 dX8_addSale_43 zC8 zw263 (by decide) rfl h0 ?_
    refine zS_aload_n 47 rfl 0 rfl dX8_addSale_46 ?_
    refine zS_getfi 50 rfl 8 dX8_addSale_47 zC8 zw258 (by decide) rfl h0 ?_
    refine zS_iload 52 rfl 4 rfl dX8_addSale_50 ?_
    refine zS_iast 53 rfl dX8_addSale_52 (zP8_saleDay h0) ?_
    refine zS_bnw (fun w4 => ?_)
    refine zS_aload_n 54 rfl 0 rfl dX8_addSale_53 ?_
    refine zS_dup 55 rfl rfl dX8_addSale_54 ?_
    refine zS_getfi 58 rfl 8 dX8_addSale_55 zC8 zw258 (by decide) rfl h0 ?_
    refine zS_iconst 59 rfl (1 : Int32) (by decide) dX8_addSale_58 ?_
    refine zS_iadd 60 rfl dX8_addSale_59 ?_
    refine zS_putfi 63 rfl 8 dX8_addSale_60 zC8 zw258 (by decide) rfl rfl rfl h0 ?_
    refine zS_bnw (fun w5 => ?_)
    refine zS_aload_n 64 rfl 0 rfl dX8_addSale_63 ?_
    refine zS_getfi 67 rfl 8 dX8_addSale_64 zC8 zw258 (by decide) rfl h0 ?_
    exact zS_reti dX8_addSale_67 rfl
  · refine zS_bipush 11 rfl (-4 : Int32) (by decide) dX8_addSale_9 ?_
    exact zS_reti dX8_addSale_11 rfl

theorem okX8_addSale (v0 : Nat) (v1 : Int32) (v2 : Int32) (v3 : Int32) (v4 : Int32) (w : zWd) (h0 : zShp v0 = (8, 13)) : zOk gX8_addSale zEi [.ref v0, .int v1, .int v2, .int v3, .int v4] w (mX8_addSale v0 v1 v2 v3 v4 w) := zOk_of (by decide) rfl (Nat.le_of_ble_eq_true rfl) (sX8_addSale v0 v1 v2 v3 v4 h0 w)
abbrev gX8_saleKeyAbove : zMth := (yX8_saleKeyAbove, cX8_saleKeyAbove, 8, (some .int), 1, zE0)
theorem cbX8_saleKeyAbove : zCbV yX8_saleKeyAbove cX8_saleKeyAbove 8 (some .int) 4 := ⟨zw855, zw25, zw83, zw856, by decide, by decide, by decide +kernel⟩
set_option maxHeartbeats 4000000 in
set_option maxRecDepth 100000 in
theorem sX8_saleKeyAbove_85 (v5 : Int32) (w : zWd) : zS gX8_saleKeyAbove zEi 85 [(5, .int v5)] [] w (mX8_saleKeyAbove_85 v5 w) := by
  unfold mX8_saleKeyAbove_85
  refine zS_iload 87 rfl 0 rfl dX8_saleKeyAbove_85 ?_
  exact zS_reti dX8_saleKeyAbove_87 rfl

set_option maxHeartbeats 4000000 in
set_option maxRecDepth 100000 in
theorem sX8_saleKeyAbove_79 (k6 : Int32 × Int32 × zWd → Option (Int32 × zWd)) (v0 : Nat) (v1 : Int32) (v2 : Int32) (v3 : Int32) (v4 : Int32) (v5 : Int32) (v6 : Int32) (hk6 : ∀ (v5 : Int32) (v6 : Int32) (w : zWd), zS gX8_saleKeyAbove zEi 6 [(0, .ref v0), (1, .int v1), (2, .int v2), (3, .int v3), (4, .int v4), (5, .int v5), (6, .int v6)] [] w (k6 (v5, v6, w))) (h0 : zShp v0 = (8, 13)) (w : zWd) : zS gX8_saleKeyAbove zEi 79 [(0, .ref v0), (1, .int v1), (2, .int v2), (3, .int v3), (4, .int v4), (5, .int v5), (6, .int v6)] [] w (mX8_saleKeyAbove_79 k6 v0 v1 v2 v3 v4 v5 v6 w) := by
  unfold mX8_saleKeyAbove_79
  refine zS_iinc 82 rfl 6 (_ + (1 : Int32)) dX8_saleKeyAbove_79 rfl (by show 6 < 8; decide) rfl (show _ = [(6, .int _), (0, .ref _), (1, .int _), (2, .int _), (3, .int _), (4, .int _), (5, .int _)] from rfl) ?_
  refine zS_goto 6 dX8_saleKeyAbove_82 (by decide) ?_
  refine zS_sub [1, 2, 3, 4, 5, 6, 0] (show _ = [(0, .ref _), (1, .int _), (2, .int _), (3, .int _), (4, .int _), (5, .int _), (6, .int _)] from rfl) ?_
  exact hk6 _ _ _

set_option maxHeartbeats 4000000 in
set_option maxRecDepth 100000 in
theorem sX8_saleKeyAbove_75 (k6 : Int32 × Int32 × zWd → Option (Int32 × zWd)) (v0 : Nat) (v1 : Int32) (v2 : Int32) (v3 : Int32) (v4 : Int32) (v6 : Int32) (v7 : Int32) (hk6 : ∀ (v5 : Int32) (v6 : Int32) (w : zWd), zS gX8_saleKeyAbove zEi 6 [(0, .ref v0), (1, .int v1), (2, .int v2), (3, .int v3), (4, .int v4), (5, .int v5), (6, .int v6)] [] w (k6 (v5, v6, w))) (h0 : zShp v0 = (8, 13)) (w : zWd) : zS gX8_saleKeyAbove zEi 75 [(0, .ref v0), (1, .int v1), (2, .int v2), (3, .int v3), (4, .int v4), (6, .int v6), (7, .int v7)] [] w (mX8_saleKeyAbove_75 k6 v0 v1 v2 v3 v4 v6 v7 w) := by
  unfold mX8_saleKeyAbove_75
  refine zS_iload 77 rfl 6 rfl dX8_saleKeyAbove_75 ?_
  refine zS_istore 79 rfl dX8_saleKeyAbove_77 (by show 5 < 8; decide) (show _ = [(5, .int _), (0, .ref _), (1, .int _), (2, .int _), (3, .int _), (4, .int _), (6, .int _), (7, .int _)] from rfl) ?_
  refine zS_sub [1, 2, 3, 4, 5, 0, 6] (show _ = [(0, .ref _), (1, .int _), (2, .int _), (3, .int _), (4, .int _), (5, .int _), (6, .int _)] from rfl) ?_
  exact sX8_saleKeyAbove_79 k6 _ _ _ _ _ _ _ hk6 h0 _

set_option maxHeartbeats 4000000 in
set_option maxRecDepth 100000 in
theorem sX8_saleKeyAbove_6b (v0 : Nat) (v1 : Int32) (v2 : Int32) (v3 : Int32) (v4 : Int32) (k6 : Int32 × Int32 × zWd → Option (Int32 × zWd)) (v5 : Int32) (v6 : Int32) (hk6 : ∀ (v5 : Int32) (v6 : Int32) (w : zWd), zS gX8_saleKeyAbove zEi 6 [(0, .ref v0), (1, .int v1), (2, .int v2), (3, .int v3), (4, .int v4), (5, .int v5), (6, .int v6)] [] w (k6 (v5, v6, w))) (h0 : zShp v0 = (8, 13)) (w : zWd) : zS gX8_saleKeyAbove zEi 6 [(0, .ref v0), (1, .int v1), (2, .int v2), (3, .int v3), (4, .int v4), (5, .int v5), (6, .int v6)] [] w (mX8_saleKeyAbove_6b v0 v1 v2 v3 v4 k6 v5 v6 w) := by
  unfold mX8_saleKeyAbove_6b
  refine zS_iload 8 rfl 6 rfl dX8_saleKeyAbove_6 ?_
  refine zS_iload 10 rfl 4 rfl dX8_saleKeyAbove_8 ?_
  refine zS_icmp_ge 85 13 rfl dX8_saleKeyAbove_10 (by decide) ?_ ?_
  · refine zS_sub [5] (show _ = [(5, .int _)] from rfl) ?_
    exact sX8_saleKeyAbove_85 _ _
  · refine zS_iload 15 rfl 6 rfl dX8_saleKeyAbove_13 ?_
    refine zS_bipush 17 rfl (30 : Int32) (by decide) dX8_saleKeyAbove_15 ?_
    refine zS_icmp_ge 85 20 rfl dX8_saleKeyAbove_17 (by decide) ?_ ?_
    · refine zS_sub [5] (show _ = [(5, .int _)] from rfl) ?_
      exact sX8_saleKeyAbove_85 _ _
    · refine zS_aload_n 21 rfl 0 rfl dX8_saleKeyAbove_20 ?_
      refine zS_getfp 24 rfl 12 dX8_saleKeyAbove_21 zC8 zw263 (by decide) rfl h0 ?_
      refine zS_iload 26 rfl 6 rfl dX8_saleKeyAbove_24 ?_
      refine zS_iald 27 rfl dX8_saleKeyAbove_26 (zP8_saleDay h0) ?_
      refine zS_bipush 29 rfl (30 : Int32) (by decide) dX8_saleKeyAbove_27 ?_
      refine zS_imul 30 rfl dX8_saleKeyAbove_29 ?_
      refine zS_iload 32 rfl 6 rfl dX8_saleKeyAbove_30 ?_
      refine zS_iadd 33 rfl dX8_saleKeyAbove_32 ?_
      refine zS_bni (fun x1 => ?_)
      refine zS_istore 35 rfl dX8_saleKeyAbove_33 (by show 7 < 8; decide) (show _ = [(7, .int _), (0, .ref _), (1, .int _), (2, .int _), (3, .int _), (4, .int _), (5, .int _), (6, .int _)] from rfl) ?_
      refine zS_aload_n 36 rfl 1 rfl dX8_saleKeyAbove_35 ?_
      refine zS_getfp 39 rfl 9 dX8_saleKeyAbove_36 zC8 zw260 (by decide) rfl h0 ?_
      refine zS_iload 41 rfl 7 rfl dX8_saleKeyAbove_39 ?_
      refine zS_iald 42 rfl dX8_saleKeyAbove_41 (zP8_saleTaker h0) ?_
      refine zS_iload_n 43 rfl 3 rfl dX8_saleKeyAbove_42 ?_
      refine zS_icmp_ne 79 46 rfl dX8_saleKeyAbove_43 (by decide) ?_ ?_
      · refine zS_aload_n 47 rfl 1 rfl dX8_saleKeyAbove_46 ?_
        refine zS_getfp 50 rfl 12 dX8_saleKeyAbove_47 zC8 zw263 (by decide) rfl h0 ?_
        refine zS_iload 52 rfl 7 rfl dX8_saleKeyAbove_50 ?_
        refine zS_iald 53 rfl dX8_saleKeyAbove_52 (zP8_saleDay h0) ?_
        refine zS_iload_n 54 rfl 4 rfl dX8_saleKeyAbove_53 ?_
        refine zS_icmp_gt 79 57 rfl dX8_saleKeyAbove_54 (by decide) ?_ ?_
        · refine zS_sub [1, 2, 3, 4, 5, 6, 7] (show _ = [(0, .ref _), (1, .int _), (2, .int _), (3, .int _), (4, .int _), (5, .int _), (6, .int _)] from rfl) ?_
          exact sX8_saleKeyAbove_79 k6 _ _ _ _ _ _ _ hk6 h0 _
        · refine zS_iload 59 rfl 0 rfl dX8_saleKeyAbove_57 ?_
          refine zS_iload_n 60 rfl 2 rfl dX8_saleKeyAbove_59 ?_
          refine zS_icmp_le 79 63 rfl dX8_saleKeyAbove_60 (by decide) ?_ ?_
          · refine zS_sub [1, 2, 3, 4, 5, 6, 7] (show _ = [(0, .ref _), (1, .int _), (2, .int _), (3, .int _), (4, .int _), (5, .int _), (6, .int _)] from rfl) ?_
            exact sX8_saleKeyAbove_79 k6 _ _ _ _ _ _ _ hk6 h0 _
          · refine zS_iload 65 rfl 6 rfl dX8_saleKeyAbove_63 ?_
            refine zS_if_lt 75 68 rfl dX8_saleKeyAbove_65 (by decide) ?_ ?_
            · refine zS_sub [1, 2, 3, 4, 5, 7, 0] (show _ = [(0, .ref _), (1, .int _), (2, .int _), (3, .int _), (4, .int _), (6, .int _), (7, .int _)] from rfl) ?_
              exact sX8_saleKeyAbove_75 k6 _ _ _ _ _ _ _ hk6 h0 _
            · refine zS_iload 70 rfl 0 rfl dX8_saleKeyAbove_68 ?_
              refine zS_iload 72 rfl 6 rfl dX8_saleKeyAbove_70 ?_
              refine zS_icmp_ge 79 75 rfl dX8_saleKeyAbove_72 (by decide) ?_ ?_
              · refine zS_sub [1, 2, 3, 4, 5, 6, 7] (show _ = [(0, .ref _), (1, .int _), (2, .int _), (3, .int _), (4, .int _), (5, .int _), (6, .int _)] from rfl) ?_
                exact sX8_saleKeyAbove_79 k6 _ _ _ _ _ _ _ hk6 h0 _
              · refine zS_sub [1, 2, 3, 4, 5, 7, 0] (show _ = [(0, .ref _), (1, .int _), (2, .int _), (3, .int _), (4, .int _), (6, .int _), (7, .int _)] from rfl) ?_
                exact sX8_saleKeyAbove_75 k6 _ _ _ _ _ _ _ hk6 h0 _
      · refine zS_sub [1, 2, 3, 4, 5, 6, 7] (show _ = [(0, .ref _), (1, .int _), (2, .int _), (3, .int _), (4, .int _), (5, .int _), (6, .int _)] from rfl) ?_
        exact sX8_saleKeyAbove_79 k6 _ _ _ _ _ _ _ hk6 h0 _

theorem sX8_saleKeyAbove_6 (v0 : Nat) (v1 : Int32) (v2 : Int32) (v3 : Int32) (v4 : Int32) (v5 : Int32) (v6 : Int32) (h0 : zShp v0 = (8, 13)) (w : zWd) : zS gX8_saleKeyAbove zEi 6 [(0, .ref v0), (1, .int v1), (2, .int v2), (3, .int v3), (4, .int v4), (5, .int v5), (6, .int v6)] [] w (mX8_saleKeyAbove_6 v0 v1 v2 v3 v4 v5 v6 w) :=
  zS_loop (L := fun q : Int32 × Int32 × zWd => [(0, .ref v0), (1, .int v1), (2, .int v2), (3, .int v3), (4, .int v4), (5, .int q.1), (6, .int q.2.1)]) (V := fun q => q.2.2) (T := fun _ => []) (F := fun k q => mX8_saleKeyAbove_6b v0 v1 v2 v3 v4 k q.1 q.2.1 q.2.2) (fun k hk q => sX8_saleKeyAbove_6b v0 v1 v2 v3 v4 k q.1 q.2.1 (fun a5 a6 w => hk (a5, a6, w)) h0 q.2.2) zFU (v5, v6, w)
set_option maxHeartbeats 4000000 in
set_option maxRecDepth 100000 in
theorem sX8_saleKeyAbove (v0 : Nat) (v1 : Int32) (v2 : Int32) (v3 : Int32) (v4 : Int32) (h0 : zShp v0 = (8, 13)) (w : zWd) : zS gX8_saleKeyAbove zEi 0 [(0, .ref v0), (1, .int v1), (2, .int v2), (3, .int v3), (4, .int v4)] [] w (mX8_saleKeyAbove v0 v1 v2 v3 v4 w) := by
  unfold mX8_saleKeyAbove
  refine zS_iconst 1 rfl (-1 : Int32) (by decide) dX8_saleKeyAbove_0 ?_
  refine zS_istore 3 rfl dX8_saleKeyAbove_1 (by show 5 < 8; decide) (show _ = [(5, .int _), (0, .ref _), (1, .int _), (2, .int _), (3, .int _), (4, .int _)] from rfl) ?_
  refine zS_iconst 4 rfl (0 : Int32) (by decide) dX8_saleKeyAbove_3 ?_
  refine zS_istore 6 rfl dX8_saleKeyAbove_4 (by show 6 < 8; decide) (show _ = [(6, .int _), (5, .int _), (0, .ref _), (1, .int _), (2, .int _), (3, .int _), (4, .int _)] from rfl) ?_
  refine zS_sub [2, 3, 4, 5, 6, 1, 0] (show _ = [(0, .ref _), (1, .int _), (2, .int _), (3, .int _), (4, .int _), (5, .int _), (6, .int _)] from rfl) ?_
  exact sX8_saleKeyAbove_6 _ _ _ _ _ _ _ h0 _

theorem okX8_saleKeyAbove (v0 : Nat) (v1 : Int32) (v2 : Int32) (v3 : Int32) (v4 : Int32) (w : zWd) (h0 : zShp v0 = (8, 13)) : zOk gX8_saleKeyAbove zEi [.ref v0, .int v1, .int v2, .int v3, .int v4] w (mX8_saleKeyAbove v0 v1 v2 v3 v4 w) := zOk_of (by decide) rfl (Nat.le_of_ble_eq_true rfl) (sX8_saleKeyAbove v0 v1 v2 v3 v4 h0 w)
