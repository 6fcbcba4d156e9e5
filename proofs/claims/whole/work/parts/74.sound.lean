abbrev gX11_want : zMth := (yX11_want, cX11_want, 3, (some .int), 6, zE0)
theorem cbX11_want : zCbV yX11_want cX11_want 3 (some .int) 2 := ⟨zw910, zw911, zw77, zw912, by decide, by decide, by decide +kernel⟩
set_option maxHeartbeats 4000000 in
set_option maxRecDepth 100000 in
theorem sX11_want_21 (w : zWd) : zS gX11_want zEi 21 [] [] w (mX11_want_21 w) := by
  unfold mX11_want_21
  refine zS_bipush 23 rfl (-2 : Int32) (by decide) dX11_want_21 ?_
  exact zS_reti dX11_want_23 rfl

set_option maxHeartbeats 4000000 in
set_option maxRecDepth 100000 in
theorem sX11_want_113 (v0 : Nat) (v2 : Int32) (h0 : zShp v0 = (11, 11)) (w : zWd) : zS gX11_want zEi 113 [(0, .ref v0), (2, .int v2)] [] w (mX11_want_113 v0 v2 w) := by
  unfold mX11_want_113
  refine zS_aload_n 114 rfl 0 rfl dX11_want_113 ?_
  refine zS_getfp 117 rfl 9 dX11_want_114 zC11 zw474 (by decide) rfl h0 ?_
  refine zS_iload_n 118 rfl 1 rfl dX11_want_117 ?_
  refine zS_iald 119 rfl dX11_want_118 (zP11_parts h0) ?_
  exact zS_reti dX11_want_119 rfl

set_option maxHeartbeats 4000000 in
set_option maxRecDepth 100000 in
theorem sX11_want (v0 : Nat) (v1 : Int32) (v2 : Int32) (h0 : zShp v0 = (11, 11)) (w : zWd) : zS gX11_want zEi 0 [(0, .ref v0), (1, .int v1), (2, .int v2)] [] w (mX11_want v0 v1 v2 w) := by
  unfold mX11_want
  refine zS_aload_n 1 rfl 0 rfl dX11_want_0 ?_
  refine zS_iload_n 2 rfl 2 rfl dX11_want_1 ?_
  refine zS_cVi (as := [.int _]) (st := []) (g' := gX11_isTaker) 5 rfl (okX11_isTaker _ _ _ h0) dX11_want_2 zC11 h0 zw779 cbX11_isTaker rfl rfl (by decide) (Nat.le_of_ble_eq_true rfl) (fun r1 w2 => ?_)
  refine zS_if_ne 10 8 rfl dX11_want_5 (by decide) ?_ ?_
  · refine zS_iconst 9 rfl (-1 : Int32) (by decide) dX11_want_8 ?_
    exact zS_reti dX11_want_9 rfl
  · refine zS_iload_n 11 rfl 1 rfl dX11_want_10 ?_
    refine zS_if_lt 21 14 rfl dX11_want_11 (by decide) ?_ ?_
    · refine zS_sub [] (show _ = [] from rfl) ?_
      exact sX11_want_21 _
    · refine zS_iload_n 15 rfl 1 rfl dX11_want_14 ?_
      refine zS_sipush 18 rfl (999 : Int32) (by decide) dX11_want_15 ?_
      refine zS_icmp_le 24 21 rfl dX11_want_18 (by decide) ?_ ?_
      · refine zS_aload_n 25 rfl 0 rfl dX11_want_24 ?_
        refine zS_getfp 28 rfl 6 dX11_want_25 zC11 zw471 (by decide) rfl h0 ?_
        refine zS_aload_n 29 rfl 0 rfl dX11_want_28 ?_
        refine zS_getfp 32 rfl 0 dX11_want_29 zC11 zw465 (by decide) rfl h0 ?_
        refine zS_getfp 35 rfl 3 dX11_want_32 zC10 zw351 (by decide) rfl (zP11_world h0) ?_
        refine zS_aload_n 36 rfl 0 rfl dX11_want_35 ?_
        refine zS_getfp 39 rfl 0 dX11_want_36 zC11 zw465 (by decide) rfl h0 ?_
        refine zS_getfp 42 rfl 4 dX11_want_39 zC10 zw353 (by decide) rfl (zP11_world h0) ?_
        refine zS_aload_n 43 rfl 0 rfl dX11_want_42 ?_
        refine zS_getfp 46 rfl 0 dX11_want_43 zC11 zw465 (by decide) rfl h0 ?_
        refine zS_getfi 49 rfl 0 dX11_want_46 zC10 zw345 (by decide) rfl (zP11_world h0) ?_
        refine zS_cVv (as := [.ref _, .ref _, .int _]) (st := []) (g' := gX5_form) 52 rfl (okX5_form _ _ _ _ _ (zP11_line h0) (zP10_book (zP11_world h0)) (zP10_takers (zP11_world h0))) dX11_want_49 zC5 (zP11_line h0) zw806 cbX5_form rfl rfl (by decide) (Nat.le_of_ble_eq_true rfl) (fun r3 w4 => ?_)
        refine zS_aload_n 53 rfl 0 rfl dX11_want_52 ?_
        refine zS_getfp 56 rfl 0 dX11_want_53 zC11 zw465 (by decide) rfl h0 ?_
        refine zS_iconst 57 rfl (5 : Int32) (by decide) dX11_want_56 ?_
        refine zS_aload_n 58 rfl 0 rfl dX11_want_57 ?_
        refine zS_getfp 61 rfl 0 dX11_want_58 zC11 zw465 (by decide) rfl h0 ?_
        refine zS_getfi 64 rfl 0 dX11_want_61 zC10 zw345 (by decide) rfl (zP11_world h0) ?_
        refine zS_cVi (as := [.int _, .int _]) (st := []) (g' := gX10_rules) 67 rfl (okX10_rules _ _ _ _ (zP11_world h0)) dX11_want_64 zC10 (zP11_world h0) zw877 cbX10_rules rfl rfl (by decide) (Nat.le_of_ble_eq_true rfl) (fun r5 w6 => ?_)
        refine zS_lsw (dflt := 41) (ps := #[(0, 25), (1, 33)]) ?_
        refine zLk_in (c0 := (0 : Int32)) 92 dX11_want_67 (by decide) (by decide) (by decide) ?_ ?_
        · refine zS_aload_n 93 rfl 0 rfl dX11_want_92 ?_
          refine zS_iload_n 94 rfl 1 rfl dX11_want_93 ?_
          refine zS_cVv (as := [.int _]) (st := []) (g' := gX11_partByRank) 97 rfl (okX11_partByRank _ _ _ h0) dX11_want_94 zC11 h0 zw913 cbX11_partByRank rfl rfl (by decide) (Nat.le_of_ble_eq_true rfl) (fun r7 w8 => ?_)
          refine zS_goto 113 dX11_want_97 (by decide) ?_
          refine zS_sub [0, 2] (show _ = [(0, .ref _), (2, .int _)] from rfl) ?_
          exact sX11_want_113 _ _ h0 _
        refine zLk_in (c0 := (1 : Int32)) 100 dX11_want_67 (by decide) (by decide) (by decide) ?_ ?_
        · refine zS_aload_n 101 rfl 0 rfl dX11_want_100 ?_
          refine zS_iload_n 102 rfl 1 rfl dX11_want_101 ?_
          refine zS_cVv (as := [.int _]) (st := []) (g' := gX11_partByGallons) 105 rfl (okX11_partByGallons _ _ _ h0) dX11_want_102 zC11 h0 zw918 cbX11_partByGallons rfl rfl (by decide) (Nat.le_of_ble_eq_true rfl) (fun r9 w10 => ?_)
          refine zS_goto 113 dX11_want_105 (by decide) ?_
          refine zS_sub [0, 2] (show _ = [(0, .ref _), (2, .int _)] from rfl) ?_
          exact sX11_want_113 _ _ h0 _
        refine zLk_out 108 dX11_want_67 (by decide) (by decide) ?_
        · refine zS_aload_n 109 rfl 0 rfl dX11_want_108 ?_
          refine zS_iload_n 110 rfl 1 rfl dX11_want_109 ?_
          refine zS_cVv (as := [.int _]) (st := []) (g' := gX11_partAlike) 113 rfl (okX11_partAlike _ _ _ h0) dX11_want_110 zC11 h0 zw922 cbX11_partAlike rfl rfl (by decide) (Nat.le_of_ble_eq_true rfl) (fun r11 w12 => ?_)
          refine zS_sub [0, 2] (show _ = [(0, .ref _), (2, .int _)] from rfl) ?_
          exact sX11_want_113 _ _ h0 _
      · refine zS_sub [] (show _ = [] from rfl) ?_
        exact sX11_want_21 _

theorem okX11_want (v0 : Nat) (v1 : Int32) (v2 : Int32) (w : zWd) (h0 : zShp v0 = (11, 11)) : zOk gX11_want zEi [.ref v0, .int v1, .int v2] w (mX11_want v0 v1 v2 w) := zOk_of (by decide) rfl (Nat.le_of_ble_eq_true rfl) (sX11_want v0 v1 v2 h0 w)
abbrev gX11_look : zMth := (yX11_look, cX11_look, 5, (some .int), 3, zE0)
theorem cbX11_look : zCbV yX11_look cX11_look 5 (some .int) 4 := ⟨zw927, zw928, zw77, zw929, by decide, by decide, by decide +kernel⟩
set_option maxHeartbeats 4000000 in
set_option maxRecDepth 100000 in
theorem sX11_look_41 (w : zWd) : zS gX11_look zEi 41 [] [] w (mX11_look_41 w) := by
  unfold mX11_look_41
  refine zS_bipush 43 rfl (-2 : Int32) (by decide) dX11_look_41 ?_
  exact zS_reti dX11_look_43 rfl

set_option maxHeartbeats 4000000 in
set_option maxRecDepth 100000 in
theorem sX11_look (v0 : Nat) (v1 : Int32) (v2 : Int32) (v3 : Int32) (v4 : Int32) (h0 : zShp v0 = (11, 11)) (w : zWd) : zS gX11_look zEi 0 [(0, .ref v0), (1, .int v1), (2, .int v2), (3, .int v3), (4, .int v4)] [] w (mX11_look v0 v1 v2 v3 v4 w) := by
  unfold mX11_look
  refine zS_aload_n 1 rfl 0 rfl dX11_look_0 ?_
  refine zS_iload_n 2 rfl 1 rfl dX11_look_1 ?_
  refine zS_cVi (as := [.int _]) (st := []) (g' := gX11_isTap) 5 rfl (okX11_isTap _ _ _ h0) dX11_look_2 zC11 h0 zw567 cbX11_isTap rfl rfl (by decide) (Nat.le_of_ble_eq_true rfl) (fun r1 w2 => ?_)
  refine zS_if_ne 10 8 rfl dX11_look_5 (by decide) ?_ ?_
  · refine zS_iconst 9 rfl (-1 : Int32) (by decide) dX11_look_8 ?_
    exact zS_reti dX11_look_9 rfl
  · refine zS_iload_n 11 rfl 2 rfl dX11_look_10 ?_
    refine zS_cSi (as := [.int _]) (st := []) (g' := gX11_isDay) 14 rfl (okX11_isDay _ _) dX11_look_11 zw644 cbX11_isDay rfl rfl (by decide) (Nat.le_of_ble_eq_true rfl) (fun r3 w4 => ?_)
    refine zS_if_eq 41 17 rfl dX11_look_14 (by decide) ?_ ?_
    · refine zS_sub [] (show _ = [] from rfl) ?_
      exact sX11_look_41 _
    · refine zS_iload_n 18 rfl 3 rfl dX11_look_17 ?_
      refine zS_if_lt 41 21 rfl dX11_look_18 (by decide) ?_ ?_
      · refine zS_sub [] (show _ = [] from rfl) ?_
        exact sX11_look_41 _
      · refine zS_iload_n 22 rfl 3 rfl dX11_look_21 ?_
        refine zS_sipush 25 rfl (9999 : Int32) (by decide) dX11_look_22 ?_
        refine zS_icmp_gt 41 28 rfl dX11_look_25 (by decide) ?_ ?_
        · refine zS_sub [] (show _ = [] from rfl) ?_
          exact sX11_look_41 _
        · refine zS_iload 30 rfl 4 rfl dX11_look_28 ?_
          refine zS_if_lt 41 33 rfl dX11_look_30 (by decide) ?_ ?_
          · refine zS_sub [] (show _ = [] from rfl) ?_
            exact sX11_look_41 _
          · refine zS_iload 35 rfl 4 rfl dX11_look_33 ?_
            refine zS_sipush 38 rfl (2000 : Int32) (by decide) dX11_look_35 ?_
            refine zS_icmp_le 44 41 rfl dX11_look_38 (by decide) ?_ ?_
            · refine zS_aload_n 45 rfl 0 rfl dX11_look_44 ?_
              refine zS_getfp 48 rfl 0 dX11_look_45 zC11 zw465 (by decide) rfl h0 ?_
              refine zS_getfp 51 rfl 5 dX11_look_48 zC10 zw355 (by decide) rfl (zP11_world h0) ?_
              refine zS_getfi 54 rfl 0 dX11_look_51 zC6 zw298 (by decide) rfl (zP10_seen (zP11_world h0)) ?_
              refine zS_bipush 56 rfl (60 : Int32) (by decide) dX11_look_54 ?_
              refine zS_icmp_lt 62 59 rfl dX11_look_56 (by decide) ?_ ?_
              · refine zS_aload_n 63 rfl 0 rfl dX11_look_62 ?_
                refine zS_getfp 66 rfl 0 dX11_look_63 zC11 zw465 (by decide) rfl h0 ?_
                refine zS_getfp 69 rfl 5 dX11_look_66 zC10 zw355 (by decide) rfl (zP11_world h0) ?_
                refine zS_iload_n 70 rfl 1 rfl dX11_look_69 ?_
                refine zS_iload_n 71 rfl 2 rfl dX11_look_70 ?_
                refine zS_iload_n 72 rfl 3 rfl dX11_look_71 ?_
                refine zS_iload 74 rfl 4 rfl dX11_look_72 ?_
                refine zS_cVi (as := [.int _, .int _, .int _, .int _]) (st := []) (g' := gX6_addLook) 77 rfl (okX6_addLook _ _ _ _ _ _ (zP10_seen (zP11_world h0))) dX11_look_74 zC6 (zP10_seen (zP11_world h0)) zw930 cbX6_addLook rfl rfl (by decide) (Nat.le_of_ble_eq_true rfl) (fun r5 w6 => ?_)
                exact zS_reti dX11_look_77 rfl
              · refine zS_bipush 61 rfl (-4 : Int32) (by decide) dX11_look_59 ?_
                exact zS_reti dX11_look_61 rfl
            · refine zS_sub [] (show _ = [] from rfl) ?_
              exact sX11_look_41 _

theorem okX11_look (v0 : Nat) (v1 : Int32) (v2 : Int32) (v3 : Int32) (v4 : Int32) (w : zWd) (h0 : zShp v0 = (11, 11)) : zOk gX11_look zEi [.ref v0, .int v1, .int v2, .int v3, .int v4] w (mX11_look v0 v1 v2 v3 v4 w) := zOk_of (by decide) rfl (Nat.le_of_ble_eq_true rfl) (sX11_look v0 v1 v2 v3 v4 h0 w)
abbrev gX11_isOff : zMth := (yX11_isOff, cX11_isOff, 5, (some .boolean), 6, zE0)
theorem cbX11_isOff : zCbV yX11_isOff cX11_isOff 5 (some .boolean) 1 := ⟨zw940, zw33, zw77, zw941, by decide, by decide, by decide +kernel⟩
set_option maxHeartbeats 4000000 in
set_option maxRecDepth 100000 in
theorem sX11_isOff_43 (w : zWd) : zS gX11_isOff zEi 43 [] [] w (mX11_isOff_43 w) := by
  unfold mX11_isOff_43
  refine zS_iconst 44 rfl (0 : Int32) (by decide) dX11_isOff_43 ?_
  exact zS_retb dX11_isOff_44 rfl

set_option maxHeartbeats 4000000 in
set_option maxRecDepth 100000 in
theorem sX11_isOff_117 (s0 : Int32) (w : zWd) : zS gX11_isOff zEi 117 [] [.int s0] w (mX11_isOff_117 s0 w) := by
  unfold mX11_isOff_117
  exact zS_retb dX11_isOff_117 rfl

set_option maxHeartbeats 4000000 in
set_option maxRecDepth 100000 in
theorem sX11_isOff_112 (w : zWd) : zS gX11_isOff zEi 112 [] [] w (mX11_isOff_112 w) := by
  unfold mX11_isOff_112
  refine zS_iconst 113 rfl (1 : Int32) (by decide) dX11_isOff_112 ?_
  refine zS_goto 117 dX11_isOff_113 (by decide) ?_
  exact sX11_isOff_117 _ _

set_option maxHeartbeats 4000000 in
set_option maxRecDepth 100000 in
theorem sX11_isOff (v0 : Nat) (v1 : Int32) (h0 : zShp v0 = (11, 11)) (w : zWd) : zS gX11_isOff zEi 0 [(0, .ref v0), (1, .int v1)] [] w (mX11_isOff v0 v1 w) := by
  unfold mX11_isOff
  refine zS_aload_n 1 rfl 0 rfl dX11_isOff_0 ?_
  refine zS_getfp 4 rfl 0 dX11_isOff_1 zC11 zw465 (by decide) rfl h0 ?_
  refine zS_getfp 7 rfl 5 dX11_isOff_4 zC10 zw355 (by decide) rfl (zP11_world h0) ?_
  refine zS_getfp 10 rfl 1 dX11_isOff_7 zC6 zw300 (by decide) rfl (zP10_seen (zP11_world h0)) ?_
  refine zS_iload_n 11 rfl 1 rfl dX11_isOff_10 ?_
  refine zS_iald 12 rfl dX11_isOff_11 (zP6_lookTap (zP10_seen (zP11_world h0))) ?_
  refine zS_bni (fun x1 => ?_)
  refine zS_istore_n 13 rfl dX11_isOff_12 (by show 2 < 5; decide) (show _ = [(2, .int _), (0, .ref _), (1, .int _)] from rfl) ?_
  refine zS_aload_n 14 rfl 1 rfl dX11_isOff_13 ?_
  refine zS_getfp 17 rfl 0 dX11_isOff_14 zC11 zw465 (by decide) rfl h0 ?_
  refine zS_getfp 20 rfl 5 dX11_isOff_17 zC10 zw355 (by decide) rfl (zP11_world h0) ?_
  refine zS_getfp 23 rfl 2 dX11_isOff_20 zC6 zw302 (by decide) rfl (zP10_seen (zP11_world h0)) ?_
  refine zS_iload_n 24 rfl 2 rfl dX11_isOff_23 ?_
  refine zS_iald 25 rfl dX11_isOff_24 (zP6_lookDay (zP10_seen (zP11_world h0))) ?_
  refine zS_bni (fun x2 => ?_)
  refine zS_istore_n 26 rfl dX11_isOff_25 (by show 3 < 5; decide) (show _ = [(3, .int _), (2, .int _), (0, .ref _), (1, .int _)] from rfl) ?_
  refine zS_aload_n 27 rfl 2 rfl dX11_isOff_26 ?_
  refine zS_iload_n 28 rfl 1 rfl dX11_isOff_27 ?_
  refine zS_cVi (as := [.int _]) (st := []) (g' := gX11_isTap) 31 rfl (okX11_isTap _ _ _ h0) dX11_isOff_28 zC11 h0 zw567 cbX11_isTap rfl rfl (by decide) (Nat.le_of_ble_eq_true rfl) (fun r3 w4 => ?_)
  refine zS_if_eq 43 34 rfl dX11_isOff_31 (by decide) ?_ ?_
  · refine zS_sub [] (show _ = [] from rfl) ?_
    exact sX11_isOff_43 _
  · refine zS_aload_n 35 rfl 2 rfl dX11_isOff_34 ?_
    refine zS_iload_n 36 rfl 1 rfl dX11_isOff_35 ?_
    refine zS_iload_n 37 rfl 0 rfl dX11_isOff_36 ?_
    refine zS_cVi (as := [.int _, .int _]) (st := []) (g' := gX11_wentBy) 40 rfl (okX11_wentBy _ _ _ _ h0) dX11_isOff_37 zC11 h0 zw616 cbX11_wentBy rfl rfl (by decide) (Nat.le_of_ble_eq_true rfl) (fun r5 w6 => ?_)
    refine zS_if_ne 45 43 rfl dX11_isOff_40 (by decide) ?_ ?_
    · refine zS_sub [] (show _ = [] from rfl) ?_
      exact sX11_isOff_43 _
    · refine zS_aload_n 46 rfl 2 rfl dX11_isOff_45 ?_
      refine zS_getfp 49 rfl 0 dX11_isOff_46 zC11 zw465 (by decide) rfl h0 ?_
      refine zS_iconst 50 rfl (4 : Int32) (by decide) dX11_isOff_49 ?_
      refine zS_iload_n 51 rfl 0 rfl dX11_isOff_50 ?_
      refine zS_cVi (as := [.int _, .int _]) (st := []) (g' := gX10_rules) 54 rfl (okX10_rules _ _ _ _ (zP11_world h0)) dX11_isOff_51 zC10 (zP11_world h0) zw877 cbX10_rules rfl rfl (by decide) (Nat.le_of_ble_eq_true rfl) (fun r7 w8 => ?_)
      refine zS_istore 56 rfl dX11_isOff_54 (by show 4 < 5; decide) (show _ = [(4, .int _), (3, .int _), (2, .int _), (0, .ref _), (1, .int _)] from rfl) ?_
      refine zS_aload_n 57 rfl 3 rfl dX11_isOff_56 ?_
      refine zS_getfp 60 rfl 0 dX11_isOff_57 zC11 zw465 (by decide) rfl h0 ?_
      refine zS_getfp 63 rfl 5 dX11_isOff_60 zC10 zw355 (by decide) rfl (zP11_world h0) ?_
      refine zS_getfp 66 rfl 3 dX11_isOff_63 zC6 zw304 (by decide) rfl (zP10_seen (zP11_world h0)) ?_
      refine zS_iload_n 67 rfl 4 rfl dX11_isOff_66 ?_
      refine zS_iald 68 rfl dX11_isOff_67 (zP6_lookGallons (zP10_seen (zP11_world h0))) ?_
      refine zS_aload_n 69 rfl 3 rfl dX11_isOff_68 ?_
      refine zS_iload_n 70 rfl 2 rfl dX11_isOff_69 ?_
      refine zS_iload_n 71 rfl 1 rfl dX11_isOff_70 ?_
      refine zS_iconst 72 rfl (0 : Int32) (by decide) dX11_isOff_71 ?_
      refine zS_cVi (as := [.int _, .int _, .int _]) (st := [.int _]) (g' := gX11_pastFlow) 75 rfl (okX11_pastFlow _ _ _ _ _ h0) dX11_isOff_72 zC11 h0 zw620 cbX11_pastFlow rfl rfl (by decide) (Nat.le_of_ble_eq_true rfl) (fun r9 w10 => ?_)
      refine zS_isub 76 rfl dX11_isOff_75 ?_
      refine zS_mabs 79 rfl dX11_isOff_76 zw556 zw557 zw90 zw558 (by decide) (Nat.le_of_ble_eq_true rfl) ?_
      refine zS_bni (fun x11 => ?_)
      refine zS_iload 81 rfl 0 rfl dX11_isOff_79 ?_
      refine zS_icmp_gt 112 84 rfl dX11_isOff_81 (by decide) ?_ ?_
      · refine zS_sub [] (show _ = [] from rfl) ?_
        exact sX11_isOff_112 _
      · refine zS_aload_n 85 rfl 3 rfl dX11_isOff_84 ?_
        refine zS_getfp 88 rfl 0 dX11_isOff_85 zC11 zw465 (by decide) rfl h0 ?_
        refine zS_getfp 91 rfl 5 dX11_isOff_88 zC10 zw355 (by decide) rfl (zP11_world h0) ?_
        refine zS_getfp 94 rfl 4 dX11_isOff_91 zC6 zw306 (by decide) rfl (zP10_seen (zP11_world h0)) ?_
        refine zS_iload_n 95 rfl 4 rfl dX11_isOff_94 ?_
        refine zS_iald 96 rfl dX11_isOff_95 (zP6_lookHeat (zP10_seen (zP11_world h0))) ?_
        refine zS_aload_n 97 rfl 3 rfl dX11_isOff_96 ?_
        refine zS_iload_n 98 rfl 2 rfl dX11_isOff_97 ?_
        refine zS_iload_n 99 rfl 1 rfl dX11_isOff_98 ?_
        refine zS_iconst 100 rfl (1 : Int32) (by decide) dX11_isOff_99 ?_
        refine zS_cVi (as := [.int _, .int _, .int _]) (st := [.int _]) (g' := gX11_pastFlow) 103 rfl (okX11_pastFlow _ _ _ _ _ h0) dX11_isOff_100 zC11 h0 zw620 cbX11_pastFlow rfl rfl (by decide) (Nat.le_of_ble_eq_true rfl) (fun r12 w13 => ?_)
        refine zS_isub 104 rfl dX11_isOff_103 ?_
        refine zS_mabs 107 rfl dX11_isOff_104 zw556 zw557 zw90 zw558 (by decide) (Nat.le_of_ble_eq_true rfl) ?_
        refine zS_bni (fun x14 => ?_)
        refine zS_iload 109 rfl 0 rfl dX11_isOff_107 ?_
        refine zS_icmp_le 116 112 rfl dX11_isOff_109 (by decide) ?_ ?_
        · refine zS_iconst 117 rfl (0 : Int32) (by decide) dX11_isOff_116 ?_
          refine zS_sub [] (show _ = [] from rfl) ?_
          exact sX11_isOff_117 _ _
        · refine zS_sub [] (show _ = [] from rfl) ?_
          exact sX11_isOff_112 _

theorem okX11_isOff (v0 : Nat) (v1 : Int32) (w : zWd) (h0 : zShp v0 = (11, 11)) : zOk gX11_isOff zEi [.ref v0, .int v1] w (mX11_isOff v0 v1 w) := zOk_of (by decide) rfl (Nat.le_of_ble_eq_true rfl) (sX11_isOff v0 v1 h0 w)
abbrev gX11_off : zMth := (yX11_off, cX11_off, 4, (some .int), 7, zE0)
theorem cbX11_off : zCbV yX11_off cX11_off 4 (some .int) 1 := ⟨zw935, zw936, zw77, zw937, by decide, by decide, by decide +kernel⟩
set_option maxHeartbeats 4000000 in
set_option maxRecDepth 100000 in
theorem sX11_off_55 (k14 : Int32 × Int32 × zWd → Option (Int32 × zWd)) (v0 : Nat) (v1 : Int32) (v2 : Int32) (v3 : Int32) (hk14 : ∀ (v2 : Int32) (v3 : Int32) (w : zWd), zS gX11_off zEi 14 [(0, .ref v0), (1, .int v1), (2, .int v2), (3, .int v3)] [] w (k14 (v2, v3, w))) (h0 : zShp v0 = (11, 11)) (w : zWd) : zS gX11_off zEi 55 [(0, .ref v0), (1, .int v1), (2, .int v2), (3, .int v3)] [] w (mX11_off_55 k14 v0 v1 v2 v3 w) := by
  unfold mX11_off_55
  refine zS_iinc 58 rfl 3 (_ + (1 : Int32)) dX11_off_55 rfl (by show 3 < 4; decide) rfl (show _ = [(3, .int _), (0, .ref _), (1, .int _), (2, .int _)] from rfl) ?_
  refine zS_goto 14 dX11_off_58 (by decide) ?_
  refine zS_sub [1, 2, 3, 0] (show _ = [(0, .ref _), (1, .int _), (2, .int _), (3, .int _)] from rfl) ?_
  exact hk14 _ _ _

set_option maxHeartbeats 4000000 in
set_option maxRecDepth 100000 in
theorem sX11_off_14b (v0 : Nat) (v1 : Int32) (k14 : Int32 × Int32 × zWd → Option (Int32 × zWd)) (v2 : Int32) (v3 : Int32) (hk14 : ∀ (v2 : Int32) (v3 : Int32) (w : zWd), zS gX11_off zEi 14 [(0, .ref v0), (1, .int v1), (2, .int v2), (3, .int v3)] [] w (k14 (v2, v3, w))) (h0 : zShp v0 = (11, 11)) (w : zWd) : zS gX11_off zEi 14 [(0, .ref v0), (1, .int v1), (2, .int v2), (3, .int v3)] [] w (mX11_off_14b v0 v1 k14 v2 v3 w) := by
  unfold mX11_off_14b
  refine zS_iload_n 15 rfl 3 rfl dX11_off_14 ?_
  refine zS_aload_n 16 rfl 0 rfl dX11_off_15 ?_
  refine zS_getfp 19 rfl 0 dX11_off_16 zC11 zw465 (by decide) rfl h0 ?_
  refine zS_getfp 22 rfl 5 dX11_off_19 zC10 zw355 (by decide) rfl (zP11_world h0) ?_
  refine zS_getfi 25 rfl 0 dX11_off_22 zC6 zw298 (by decide) rfl (zP10_seen (zP11_world h0)) ?_
  refine zS_icmp_ge 61 28 rfl dX11_off_25 (by decide) ?_ ?_
  · refine zS_iload_n 62 rfl 2 rfl dX11_off_61 ?_
    exact zS_reti dX11_off_62 rfl
  · refine zS_aload_n 29 rfl 0 rfl dX11_off_28 ?_
    refine zS_getfp 32 rfl 0 dX11_off_29 zC11 zw465 (by decide) rfl h0 ?_
    refine zS_getfp 35 rfl 5 dX11_off_32 zC10 zw355 (by decide) rfl (zP11_world h0) ?_
    refine zS_getfp 38 rfl 1 dX11_off_35 zC6 zw300 (by decide) rfl (zP10_seen (zP11_world h0)) ?_
    refine zS_iload_n 39 rfl 3 rfl dX11_off_38 ?_
    refine zS_iald 40 rfl dX11_off_39 (zP6_lookTap (zP10_seen (zP11_world h0))) ?_
    refine zS_iload_n 41 rfl 1 rfl dX11_off_40 ?_
    refine zS_icmp_ne 55 44 rfl dX11_off_41 (by decide) ?_ ?_
    · refine zS_aload_n 45 rfl 0 rfl dX11_off_44 ?_
      refine zS_iload_n 46 rfl 3 rfl dX11_off_45 ?_
      refine zS_cVi (as := [.int _]) (st := []) (g' := gX11_isOff) 49 rfl (okX11_isOff _ _ _ h0) dX11_off_46 zC11 h0 zw938 cbX11_isOff rfl rfl (by decide) (Nat.le_of_ble_eq_true rfl) (fun r3 w4 => ?_)
      refine zS_if_eq 55 52 rfl dX11_off_49 (by decide) ?_ ?_
      · exact sX11_off_55 k14 _ _ _ _ hk14 h0 _
      · refine zS_iinc 55 rfl 2 (_ + (1 : Int32)) dX11_off_52 rfl (by show 2 < 4; decide) rfl (show _ = [(2, .int _), (0, .ref _), (1, .int _), (3, .int _)] from rfl) ?_
        refine zS_sub [1, 2, 0, 3] (show _ = [(0, .ref _), (1, .int _), (2, .int _), (3, .int _)] from rfl) ?_
        exact sX11_off_55 k14 _ _ _ _ hk14 h0 _
    · exact sX11_off_55 k14 _ _ _ _ hk14 h0 _

theorem sX11_off_14 (v0 : Nat) (v1 : Int32) (v2 : Int32) (v3 : Int32) (h0 : zShp v0 = (11, 11)) (w : zWd) : zS gX11_off zEi 14 [(0, .ref v0), (1, .int v1), (2, .int v2), (3, .int v3)] [] w (mX11_off_14 v0 v1 v2 v3 w) :=
  zS_loop (L := fun q : Int32 × Int32 × zWd => [(0, .ref v0), (1, .int v1), (2, .int q.1), (3, .int q.2.1)]) (V := fun q => q.2.2) (T := fun _ => []) (F := fun k q => mX11_off_14b v0 v1 k q.1 q.2.1 q.2.2) (fun k hk q => sX11_off_14b v0 v1 k q.1 q.2.1 (fun a2 a3 w => hk (a2, a3, w)) h0 q.2.2) zFU (v2, v3, w)
set_option maxHeartbeats 4000000 in
set_option maxRecDepth 100000 in
theorem sX11_off (v0 : Nat) (v1 : Int32) (h0 : zShp v0 = (11, 11)) (w : zWd) : zS gX11_off zEi 0 [(0, .ref v0), (1, .int v1)] [] w (mX11_off v0 v1 w) := by
  unfold mX11_off
  refine zS_aload_n 1 rfl 0 rfl dX11_off_0 ?_
  refine zS_iload_n 2 rfl 1 rfl dX11_off_1 ?_
  refine zS_cVi (as := [.int _]) (st := []) (g' := gX11_isTap) 5 rfl (okX11_isTap _ _ _ h0) dX11_off_2 zC11 h0 zw567 cbX11_isTap rfl rfl (by decide) (Nat.le_of_ble_eq_true rfl) (fun r1 w2 => ?_)
  refine zS_if_ne 10 8 rfl dX11_off_5 (by decide) ?_ ?_
  · refine zS_iconst 9 rfl (-1 : Int32) (by decide) dX11_off_8 ?_
    exact zS_reti dX11_off_9 rfl
  · refine zS_iconst 11 rfl (0 : Int32) (by decide) dX11_off_10 ?_
    refine zS_istore_n 12 rfl dX11_off_11 (by show 2 < 4; decide) (show _ = [(2, .int _), (0, .ref _), (1, .int _)] from rfl) ?_
    refine zS_iconst 13 rfl (0 : Int32) (by decide) dX11_off_12 ?_
    refine zS_istore_n 14 rfl dX11_off_13 (by show 3 < 4; decide) (show _ = [(3, .int _), (2, .int _), (0, .ref _), (1, .int _)] from rfl) ?_
    refine zS_sub [2, 3, 1, 0] (show _ = [(0, .ref _), (1, .int _), (2, .int _), (3, .int _)] from rfl) ?_
    exact sX11_off_14 _ _ _ _ h0 _

theorem okX11_off (v0 : Nat) (v1 : Int32) (w : zWd) (h0 : zShp v0 = (11, 11)) : zOk gX11_off zEi [.ref v0, .int v1] w (mX11_off v0 v1 w) := zOk_of (by decide) rfl (Nat.le_of_ble_eq_true rfl) (sX11_off v0 v1 h0 w)
abbrev gX11_drop : zMth := (yX11_drop, cX11_drop, 3, (some .int), 4, zE0)
theorem cbX11_drop : zCbV yX11_drop cX11_drop 3 (some .int) 2 := ⟨zw943, zw944, zw77, zw945, by decide, by decide, by decide +kernel⟩
set_option maxHeartbeats 4000000 in
set_option maxRecDepth 100000 in
theorem sX11_drop_21 (w : zWd) : zS gX11_drop zEi 21 [] [] w (mX11_drop_21 w) := by
  unfold mX11_drop_21
  refine zS_bipush 23 rfl (-2 : Int32) (by decide) dX11_drop_21 ?_
  exact zS_reti dX11_drop_23 rfl

set_option maxHeartbeats 4000000 in
set_option maxRecDepth 100000 in
theorem sX11_drop_55 (v0 : Nat) (v1 : Int32) (v2 : Int32) (h0 : zShp v0 = (11, 11)) (w : zWd) : zS gX11_drop zEi 55 [(0, .ref v0), (1, .int v1), (2, .int v2)] [] w (mX11_drop_55 v0 v1 v2 w) := by
  unfold mX11_drop_55
  refine zS_aload_n 56 rfl 0 rfl dX11_drop_55 ?_
  refine zS_getfp 59 rfl 0 dX11_drop_56 zC11 zw465 (by decide) rfl h0 ?_
  refine zS_getfp 62 rfl 5 dX11_drop_59 zC10 zw355 (by decide) rfl (zP11_world h0) ?_
  refine zS_iload_n 63 rfl 1 rfl dX11_drop_62 ?_
  refine zS_iload_n 64 rfl 2 rfl dX11_drop_63 ?_
  refine zS_cVi (as := [.int _, .int _]) (st := []) (g' := gX6_setDrop) 67 rfl (okX6_setDrop _ _ _ _ (zP10_seen (zP11_world h0))) dX11_drop_64 zC6 (zP10_seen (zP11_world h0)) zw960 cbX6_setDrop rfl rfl (by decide) (Nat.le_of_ble_eq_true rfl) (fun r7 w8 => ?_)
  exact zS_reti dX11_drop_67 rfl

set_option maxHeartbeats 4000000 in
set_option maxRecDepth 100000 in
theorem sX11_drop (v0 : Nat) (v1 : Int32) (v2 : Int32) (h0 : zShp v0 = (11, 11)) (w : zWd) : zS gX11_drop zEi 0 [(0, .ref v0), (1, .int v1), (2, .int v2)] [] w (mX11_drop v0 v1 v2 w) := by
  unfold mX11_drop
  refine zS_aload_n 1 rfl 0 rfl dX11_drop_0 ?_
  refine zS_iload_n 2 rfl 1 rfl dX11_drop_1 ?_
  refine zS_cVi (as := [.int _]) (st := []) (g' := gX11_isTap) 5 rfl (okX11_isTap _ _ _ h0) dX11_drop_2 zC11 h0 zw567 cbX11_isTap rfl rfl (by decide) (Nat.le_of_ble_eq_true rfl) (fun r1 w2 => ?_)
  refine zS_if_ne 10 8 rfl dX11_drop_5 (by decide) ?_ ?_
  · refine zS_iconst 9 rfl (-1 : Int32) (by decide) dX11_drop_8 ?_
    exact zS_reti dX11_drop_9 rfl
  · refine zS_iload_n 11 rfl 2 rfl dX11_drop_10 ?_
    refine zS_if_lt 21 14 rfl dX11_drop_11 (by decide) ?_ ?_
    · refine zS_sub [] (show _ = [] from rfl) ?_
      exact sX11_drop_21 _
    · refine zS_iload_n 15 rfl 2 rfl dX11_drop_14 ?_
      refine zS_sipush 18 rfl (999 : Int32) (by decide) dX11_drop_15 ?_
      refine zS_icmp_le 24 21 rfl dX11_drop_18 (by decide) ?_ ?_
      · refine zS_aload_n 25 rfl 0 rfl dX11_drop_24 ?_
        refine zS_getfp 28 rfl 0 dX11_drop_25 zC11 zw465 (by decide) rfl h0 ?_
        refine zS_getfp 31 rfl 5 dX11_drop_28 zC10 zw355 (by decide) rfl (zP11_world h0) ?_
        refine zS_iload_n 32 rfl 1 rfl dX11_drop_31 ?_
        refine zS_cVi (as := [.int _]) (st := []) (g' := gX6_hasDrop) 35 rfl (okX6_hasDrop _ _ _ (zP10_seen (zP11_world h0))) dX11_drop_32 zC6 (zP10_seen (zP11_world h0)) zw946 cbX6_hasDrop rfl rfl (by decide) (Nat.le_of_ble_eq_true rfl) (fun r3 w4 => ?_)
        refine zS_if_ne 55 38 rfl dX11_drop_35 (by decide) ?_ ?_
        · refine zS_aload_n 39 rfl 0 rfl dX11_drop_38 ?_
          refine zS_getfp 42 rfl 0 dX11_drop_39 zC11 zw465 (by decide) rfl h0 ?_
          refine zS_getfp 45 rfl 5 dX11_drop_42 zC10 zw355 (by decide) rfl (zP11_world h0) ?_
          refine zS_cVi (as := []) (st := []) (g' := gX6_drops) 48 rfl (okX6_drops _ _ (zP10_seen (zP11_world h0))) dX11_drop_45 zC6 (zP10_seen (zP11_world h0)) zw950 cbX6_drops rfl rfl (by decide) (Nat.le_of_ble_eq_true rfl) (fun r5 w6 => ?_)
          refine zS_iconst 49 rfl (4 : Int32) (by decide) dX11_drop_48 ?_
          refine zS_icmp_lt 55 52 rfl dX11_drop_49 (by decide) ?_ ?_
          · exact sX11_drop_55 _ _ _ h0 _
          · refine zS_bipush 54 rfl (-4 : Int32) (by decide) dX11_drop_52 ?_
            exact zS_reti dX11_drop_54 rfl
        · exact sX11_drop_55 _ _ _ h0 _
      · refine zS_sub [] (show _ = [] from rfl) ?_
        exact sX11_drop_21 _

theorem okX11_drop (v0 : Nat) (v1 : Int32) (v2 : Int32) (w : zWd) (h0 : zShp v0 = (11, 11)) : zOk gX11_drop zEi [.ref v0, .int v1, .int v2] w (mX11_drop v0 v1 v2 w) := zOk_of (by decide) rfl (Nat.le_of_ble_eq_true rfl) (sX11_drop v0 v1 v2 h0 w)
abbrev gX11_addDrop : zMth := (yX11_addDrop, cX11_addDrop, 5, none, 3, zE0)
theorem cbX11_addDrop : zCbV yX11_addDrop cX11_addDrop 5 none 1 := ⟨zw980, zw34, zw77, zw981, by decide, by decide, by decide +kernel⟩
set_option maxHeartbeats 4000000 in
set_option maxRecDepth 100000 in
theorem sX11_addDrop_99 (k21 : Int32 × zWd → Option (Unit × zWd)) (v0 : Nat) (v1 : Int32) (v2 : Int32) (s0 : Int32) (s1 : Int32) (s2 : Nat) (hk21 : ∀ (v2 : Int32) (w : zWd), zS gX11_addDrop zEv 21 [(0, .ref v0), (1, .int v1), (2, .int v2)] [] w (k21 (v2, w))) (h0 : zShp v0 = (11, 11)) (t2 : zShp s2 = (7, 5)) (w : zWd) : zS gX11_addDrop zEv 99 [(0, .ref v0), (1, .int v1), (2, .int v2)] [.int s0, .int s1, .ref s2] w (mX11_addDrop_99 k21 v0 v1 v2 s0 s1 s2 w) := by
  unfold mX11_addDrop_99
  refine zS_cVv (as := [.int _, .int _]) (st := []) (g' := gX7_addShare) 102 rfl (okX7_addShare _ _ _ _ t2) dX11_addDrop_99 zC7 t2 zw987 cbX7_addShare rfl rfl (by decide) (Nat.le_of_ble_eq_true rfl) (fun r7 w8 => ?_)
  refine zS_iinc 105 rfl 2 (_ + (1 : Int32)) dX11_addDrop_102 rfl (by show 2 < 5; decide) rfl (show _ = [(2, .int _), (0, .ref _), (1, .int _)] from rfl) ?_
  refine zS_goto 21 dX11_addDrop_105 (by decide) ?_
  refine zS_sub [1, 2, 0] (show _ = [(0, .ref _), (1, .int _), (2, .int _)] from rfl) ?_
  exact hk21 _ _

set_option maxHeartbeats 4000000 in
set_option maxRecDepth 100000 in
theorem sX11_addDrop_21b (v0 : Nat) (v1 : Int32) (k21 : Int32 × zWd → Option (Unit × zWd)) (v2 : Int32) (hk21 : ∀ (v2 : Int32) (w : zWd), zS gX11_addDrop zEv 21 [(0, .ref v0), (1, .int v1), (2, .int v2)] [] w (k21 (v2, w))) (h0 : zShp v0 = (11, 11)) (w : zWd) : zS gX11_addDrop zEv 21 [(0, .ref v0), (1, .int v1), (2, .int v2)] [] w (mX11_addDrop_21b v0 v1 k21 v2 w) := by
  unfold mX11_addDrop_21b
  refine zS_iload_n 22 rfl 2 rfl dX11_addDrop_21 ?_
  refine zS_aload_n 23 rfl 0 rfl dX11_addDrop_22 ?_
  refine zS_getfp 26 rfl 8 dX11_addDrop_23 zC11 zw473 (by decide) rfl h0 ?_
  refine zS_getfi 29 rfl 0 dX11_addDrop_26 zC7 zw449 (by decide) rfl (zP11_sets h0) ?_
  refine zS_icmp_ge 108 32 rfl dX11_addDrop_29 (by decide) ?_ ?_
  · exact zS_retv dX11_addDrop_108 rfl
  · refine zS_aload_n 33 rfl 0 rfl dX11_addDrop_32 ?_
    refine zS_getfp 36 rfl 10 dX11_addDrop_33 zC11 zw475 (by decide) rfl h0 ?_
    refine zS_iload_n 37 rfl 2 rfl dX11_addDrop_36 ?_
    refine zS_iald 38 rfl dX11_addDrop_37 (zP11_bores h0) ?_
    refine zS_bni (fun x3 => ?_)
    refine zS_istore_n 39 rfl dX11_addDrop_38 (by show 3 < 5; decide) (show _ = [(3, .int _), (0, .ref _), (1, .int _), (2, .int _)] from rfl) ?_
    refine zS_aload_n 40 rfl 1 rfl dX11_addDrop_39 ?_
    refine zS_getfp 43 rfl 0 dX11_addDrop_40 zC11 zw465 (by decide) rfl h0 ?_
    refine zS_getfp 46 rfl 1 dX11_addDrop_43 zC10 zw347 (by decide) rfl (zP11_world h0) ?_
    refine zS_getfp 49 rfl 4 dX11_addDrop_46 zC0 zw129 (by decide) rfl (zP10_ground (zP11_world h0)) ?_
    refine zS_iload_n 50 rfl 2 rfl dX11_addDrop_49 ?_
    refine zS_iald 51 rfl dX11_addDrop_50 (zP0_cellOf (zP10_ground (zP11_world h0))) ?_
    refine zS_aload_n 52 rfl 1 rfl dX11_addDrop_51 ?_
    refine zS_getfp 55 rfl 0 dX11_addDrop_52 zC11 zw465 (by decide) rfl h0 ?_
    refine zS_getfp 58 rfl 1 dX11_addDrop_55 zC10 zw347 (by decide) rfl (zP11_world h0) ?_
    refine zS_getfp 61 rfl 4 dX11_addDrop_58 zC0 zw129 (by decide) rfl (zP10_ground (zP11_world h0)) ?_
    refine zS_iload_n 62 rfl 0 rfl dX11_addDrop_61 ?_
    refine zS_iald 63 rfl dX11_addDrop_62 (zP0_cellOf (zP10_ground (zP11_world h0))) ?_
    refine zS_cSi (as := [.int _, .int _]) (st := []) (g' := gX11_distance) 66 rfl (okX11_distance _ _ _) dX11_addDrop_63 zw986 cbX11_distance rfl rfl (by decide) (Nat.le_of_ble_eq_true rfl) (fun r4 w5 => ?_)
    refine zS_iconst 67 rfl (1 : Int32) (by decide) dX11_addDrop_66 ?_
    refine zS_iadd 68 rfl dX11_addDrop_67 ?_
    refine zS_bni (fun x6 => ?_)
    refine zS_istore 70 rfl dX11_addDrop_68 (by show 4 < 5; decide) (show _ = [(4, .int _), (3, .int _), (0, .ref _), (1, .int _), (2, .int _)] from rfl) ?_
    refine zS_aload_n 71 rfl 2 rfl dX11_addDrop_70 ?_
    refine zS_getfp 74 rfl 8 dX11_addDrop_71 zC11 zw473 (by decide) rfl h0 ?_
    refine zS_iload_n 75 rfl 4 rfl dX11_addDrop_74 ?_
    refine zS_iload_n 76 rfl 1 rfl dX11_addDrop_75 ?_
    refine zS_iload_n 77 rfl 3 rfl dX11_addDrop_76 ?_
    refine zS_icmp_ne 84 80 rfl dX11_addDrop_77 (by decide) ?_ ?_
    · refine zS_iconst 81 rfl (0 : Int32) (by decide) dX11_addDrop_80 ?_
      refine zS_goto 99 dX11_addDrop_81 (by decide) ?_
      refine zS_sub [2, 3, 4] (show _ = [(0, .ref _), (1, .int _), (2, .int _)] from rfl) ?_
      exact sX11_addDrop_99 k21 _ _ _ _ _ _ hk21 h0 (zP11_sets h0) _
    · refine zS_aload_n 85 rfl 2 rfl dX11_addDrop_84 ?_
      refine zS_getfp 88 rfl 0 dX11_addDrop_85 zC11 zw465 (by decide) rfl h0 ?_
      refine zS_getfp 91 rfl 1 dX11_addDrop_88 zC10 zw347 (by decide) rfl (zP11_world h0) ?_
      refine zS_getfp 94 rfl 5 dX11_addDrop_91 zC0 zw131 (by decide) rfl (zP10_ground (zP11_world h0)) ?_
      refine zS_iload_n 95 rfl 1 rfl dX11_addDrop_94 ?_
      refine zS_iald 96 rfl dX11_addDrop_95 (zP0_told (zP10_ground (zP11_world h0))) ?_
      refine zS_iload 98 rfl 0 rfl dX11_addDrop_96 ?_
      refine zS_idiv 99 rfl dX11_addDrop_98 ?_
      refine zS_sub [2, 3, 4] (show _ = [(0, .ref _), (1, .int _), (2, .int _)] from rfl) ?_
      exact sX11_addDrop_99 k21 _ _ _ _ _ _ hk21 h0 (zP11_sets h0) _

theorem sX11_addDrop_21 (v0 : Nat) (v1 : Int32) (v2 : Int32) (h0 : zShp v0 = (11, 11)) (w : zWd) : zS gX11_addDrop zEv 21 [(0, .ref v0), (1, .int v1), (2, .int v2)] [] w (mX11_addDrop_21 v0 v1 v2 w) :=
  zS_loop (L := fun q : Int32 × zWd => [(0, .ref v0), (1, .int v1), (2, .int q.1)]) (V := fun q => q.2) (T := fun _ => []) (F := fun k q => mX11_addDrop_21b v0 v1 k q.1 q.2) (fun k hk q => sX11_addDrop_21b v0 v1 k q.1 (fun a2 w => hk (a2, w)) h0 q.2) zFU (v2, w)
set_option maxHeartbeats 4000000 in
set_option maxRecDepth 100000 in
theorem sX11_addDrop (v0 : Nat) (v1 : Int32) (h0 : zShp v0 = (11, 11)) (w : zWd) : zS gX11_addDrop zEv 0 [(0, .ref v0), (1, .int v1)] [] w (mX11_addDrop v0 v1 w) := by
  unfold mX11_addDrop
  refine zS_aload_n 1 rfl 0 rfl dX11_addDrop_0 ?_
  refine zS_getfp 4 rfl 8 dX11_addDrop_1 zC11 zw473 (by decide) rfl h0 ?_
  refine zS_aload_n 5 rfl 0 rfl dX11_addDrop_4 ?_
  refine zS_getfp 8 rfl 0 dX11_addDrop_5 zC11 zw465 (by decide) rfl h0 ?_
  refine zS_getfp 11 rfl 5 dX11_addDrop_8 zC10 zw355 (by decide) rfl (zP11_world h0) ?_
  refine zS_getfp 14 rfl 6 dX11_addDrop_11 zC6 zw309 (by decide) rfl (zP10_seen (zP11_world h0)) ?_
  refine zS_iload_n 15 rfl 1 rfl dX11_addDrop_14 ?_
  refine zS_iald 16 rfl dX11_addDrop_15 (zP6_dropOf (zP10_seen (zP11_world h0))) ?_
  refine zS_cVv (as := [.int _]) (st := []) (g' := gX7_addDue) 19 rfl (okX7_addDue _ _ _ (zP11_sets h0)) dX11_addDrop_16 zC7 (zP11_sets h0) zw982 cbX7_addDue rfl rfl (by decide) (Nat.le_of_ble_eq_true rfl) (fun r1 w2 => ?_)
  refine zS_iconst 20 rfl (0 : Int32) (by decide) dX11_addDrop_19 ?_
  refine zS_istore_n 21 rfl dX11_addDrop_20 (by show 2 < 5; decide) (show _ = [(2, .int _), (0, .ref _), (1, .int _)] from rfl) ?_
  refine zS_sub [1, 2, 0] (show _ = [(0, .ref _), (1, .int _), (2, .int _)] from rfl) ?_
  exact sX11_addDrop_21 _ _ _ h0 _

theorem okX11_addDrop (v0 : Nat) (v1 : Int32) (w : zWd) (h0 : zShp v0 = (11, 11)) : zOk gX11_addDrop zEv [.ref v0, .int v1] w (mX11_addDrop v0 v1 w) := zOk_of (by decide) rfl (Nat.le_of_ble_eq_true rfl) (sX11_addDrop v0 v1 h0 w)
abbrev gX11_cause : zMth := (yX11_cause, cX11_cause, 4, (some .int), 4, zE0)
theorem cbX11_cause : zCbV yX11_cause cX11_cause 4 (some .int) 2 := ⟨zw966, zw967, zw77, zw968, by decide, by decide, by decide +kernel⟩
set_option maxHeartbeats 4000000 in
set_option maxRecDepth 100000 in
theorem sX11_cause_20 (w : zWd) : zS gX11_cause zEi 20 [] [] w (mX11_cause_20 w) := by
  unfold mX11_cause_20
  refine zS_bipush 22 rfl (-2 : Int32) (by decide) dX11_cause_20 ?_
  exact zS_reti dX11_cause_22 rfl

set_option maxHeartbeats 4000000 in
set_option maxRecDepth 100000 in
theorem sX11_cause_80 (k47 : Int32 × zWd → Option (Int32 × zWd)) (v0 : Nat) (v2 : Int32) (v3 : Int32) (hk47 : ∀ (v3 : Int32) (w : zWd), zS gX11_cause zEi 47 [(0, .ref v0), (2, .int v2), (3, .int v3)] [] w (k47 (v3, w))) (h0 : zShp v0 = (11, 11)) (w : zWd) : zS gX11_cause zEi 80 [(0, .ref v0), (2, .int v2), (3, .int v3)] [] w (mX11_cause_80 k47 v0 v2 v3 w) := by
  unfold mX11_cause_80
  refine zS_iinc 83 rfl 2 (_ + (1 : Int32)) dX11_cause_80 rfl (by show 3 < 4; decide) rfl (show _ = [(3, .int _), (0, .ref _), (2, .int _)] from rfl) ?_
  refine zS_goto 47 dX11_cause_83 (by decide) ?_
  refine zS_sub [1, 2, 0] (show _ = [(0, .ref _), (2, .int _), (3, .int _)] from rfl) ?_
  exact hk47 _ _

set_option maxHeartbeats 4000000 in
set_option maxRecDepth 100000 in
theorem sX11_cause_47b (v0 : Nat) (v2 : Int32) (k47 : Int32 × zWd → Option (Int32 × zWd)) (v3 : Int32) (hk47 : ∀ (v3 : Int32) (w : zWd), zS gX11_cause zEi 47 [(0, .ref v0), (2, .int v2), (3, .int v3)] [] w (k47 (v3, w))) (h0 : zShp v0 = (11, 11)) (w : zWd) : zS gX11_cause zEi 47 [(0, .ref v0), (2, .int v2), (3, .int v3)] [] w (mX11_cause_47b v0 v2 k47 v3 w) := by
  unfold mX11_cause_47b
  refine zS_iload_n 48 rfl 2 rfl dX11_cause_47 ?_
  refine zS_aload_n 49 rfl 0 rfl dX11_cause_48 ?_
  refine zS_getfp 52 rfl 0 dX11_cause_49 zC11 zw465 (by decide) rfl h0 ?_
  refine zS_getfp 55 rfl 1 dX11_cause_52 zC10 zw347 (by decide) rfl (zP11_world h0) ?_
  refine zS_getfi 58 rfl 1 dX11_cause_55 zC0 zw123 (by decide) rfl (zP10_ground (zP11_world h0)) ?_
  refine zS_icmp_ge 86 61 rfl dX11_cause_58 (by decide) ?_ ?_
  · refine zS_aload_n 87 rfl 0 rfl dX11_cause_86 ?_
    refine zS_getfp 90 rfl 8 dX11_cause_87 zC11 zw473 (by decide) rfl h0 ?_
    refine zS_iload_n 91 rfl 1 rfl dX11_cause_90 ?_
    refine zS_cVi (as := [.int _]) (st := []) (g' := gX7_answer) 94 rfl (okX7_answer _ _ _ (zP11_sets h0)) dX11_cause_91 zC7 (zP11_sets h0) zw992 cbX7_answer rfl rfl (by decide) (Nat.le_of_ble_eq_true rfl) (fun r7 w8 => ?_)
    exact zS_reti dX11_cause_94 rfl
  · refine zS_aload_n 62 rfl 0 rfl dX11_cause_61 ?_
    refine zS_getfp 65 rfl 0 dX11_cause_62 zC11 zw465 (by decide) rfl h0 ?_
    refine zS_getfp 68 rfl 5 dX11_cause_65 zC10 zw355 (by decide) rfl (zP11_world h0) ?_
    refine zS_iload_n 69 rfl 2 rfl dX11_cause_68 ?_
    refine zS_cVi (as := [.int _]) (st := []) (g' := gX6_hasDrop) 72 rfl (okX6_hasDrop _ _ _ (zP10_seen (zP11_world h0))) dX11_cause_69 zC6 (zP10_seen (zP11_world h0)) zw946 cbX6_hasDrop rfl rfl (by decide) (Nat.le_of_ble_eq_true rfl) (fun r9 w10 => ?_)
    refine zS_if_eq 80 75 rfl dX11_cause_72 (by decide) ?_ ?_
    · exact sX11_cause_80 k47 _ _ _ hk47 h0 _
    · refine zS_aload_n 76 rfl 0 rfl dX11_cause_75 ?_
      refine zS_iload_n 77 rfl 2 rfl dX11_cause_76 ?_
      refine zS_cVv (as := [.int _]) (st := []) (g' := gX11_addDrop) 80 rfl (okX11_addDrop _ _ _ h0) dX11_cause_77 zC11 h0 zw978 cbX11_addDrop rfl rfl (by decide) (Nat.le_of_ble_eq_true rfl) (fun r11 w12 => ?_)
      exact sX11_cause_80 k47 _ _ _ hk47 h0 _

theorem sX11_cause_47 (v0 : Nat) (v2 : Int32) (v3 : Int32) (h0 : zShp v0 = (11, 11)) (w : zWd) : zS gX11_cause zEi 47 [(0, .ref v0), (2, .int v2), (3, .int v3)] [] w (mX11_cause_47 v0 v2 v3 w) :=
  zS_loop (L := fun q : Int32 × zWd => [(0, .ref v0), (2, .int v2), (3, .int q.1)]) (V := fun q => q.2) (T := fun _ => []) (F := fun k q => mX11_cause_47b v0 v2 k q.1 q.2) (fun k hk q => sX11_cause_47b v0 v2 k q.1 (fun a3 w => hk (a3, w)) h0 q.2) zFU (v3, w)
set_option maxHeartbeats 4000000 in
set_option maxRecDepth 100000 in
theorem sX11_cause (v0 : Nat) (v1 : Int32) (v2 : Int32) (h0 : zShp v0 = (11, 11)) (w : zWd) : zS gX11_cause zEi 0 [(0, .ref v0), (1, .int v1), (2, .int v2)] [] w (mX11_cause v0 v1 v2 w) := by
  unfold mX11_cause
  refine zS_iload_n 1 rfl 2 rfl dX11_cause_0 ?_
  refine zS_iconst 2 rfl (2 : Int32) (by decide) dX11_cause_1 ?_
  refine zS_cSi (as := [.int _, .int _]) (st := []) (g' := gX11_within) 5 rfl (okX11_within _ _ _) dX11_cause_2 zw503 cbX11_within rfl rfl (by decide) (Nat.le_of_ble_eq_true rfl) (fun r1 w2 => ?_)
  refine zS_if_ne 10 8 rfl dX11_cause_5 (by decide) ?_ ?_
  · refine zS_iconst 9 rfl (-1 : Int32) (by decide) dX11_cause_8 ?_
    exact zS_reti dX11_cause_9 rfl
  · refine zS_iload_n 11 rfl 1 rfl dX11_cause_10 ?_
    refine zS_if_lt 20 14 rfl dX11_cause_11 (by decide) ?_ ?_
    · refine zS_sub [] (show _ = [] from rfl) ?_
      exact sX11_cause_20 _
    · refine zS_iload_n 15 rfl 1 rfl dX11_cause_14 ?_
      refine zS_bipush 17 rfl (99 : Int32) (by decide) dX11_cause_15 ?_
      refine zS_icmp_le 23 20 rfl dX11_cause_17 (by decide) ?_ ?_
      · refine zS_aload_n 24 rfl 0 rfl dX11_cause_23 ?_
        refine zS_getfp 27 rfl 8 dX11_cause_24 zC11 zw473 (by decide) rfl h0 ?_
        refine zS_aload_n 28 rfl 0 rfl dX11_cause_27 ?_
        refine zS_getfp 31 rfl 0 dX11_cause_28 zC11 zw465 (by decide) rfl h0 ?_
        refine zS_getfp 34 rfl 1 dX11_cause_31 zC10 zw347 (by decide) rfl (zP11_world h0) ?_
        refine zS_aload_n 35 rfl 0 rfl dX11_cause_34 ?_
        refine zS_getfp 38 rfl 10 dX11_cause_35 zC11 zw475 (by decide) rfl h0 ?_
        refine zS_cVi (as := [.ref _]) (st := [.ref _]) (g' := gX0_listBores) 41 rfl (okX0_listBores _ _ _ (zP10_ground (zP11_world h0)) (zP11_bores h0)) dX11_cause_38 zC0 (zP10_ground (zP11_world h0)) zw969 cbX0_listBores rfl rfl (by decide) (Nat.le_of_ble_eq_true rfl) (fun r3 w4 => ?_)
        refine zS_iload_n 42 rfl 1 rfl dX11_cause_41 ?_
        refine zS_cVv (as := [.int _, .int _]) (st := []) (g' := gX7_begin) 45 rfl (okX7_begin _ _ _ _ (zP11_sets h0)) dX11_cause_42 zC7 (zP11_sets h0) zw973 cbX7_begin rfl rfl (by decide) (Nat.le_of_ble_eq_true rfl) (fun r5 w6 => ?_)
        refine zS_iconst 46 rfl (0 : Int32) (by decide) dX11_cause_45 ?_
        refine zS_istore_n 47 rfl dX11_cause_46 (by show 3 < 4; decide) (show _ = [(3, .int _), (0, .ref _), (1, .int _), (2, .int _)] from rfl) ?_
        refine zS_sub [1, 3, 0] (show _ = [(0, .ref _), (2, .int _), (3, .int _)] from rfl) ?_
        exact sX11_cause_47 _ _ _ h0 _
      · refine zS_sub [] (show _ = [] from rfl) ?_
        exact sX11_cause_20 _

theorem okX11_cause (v0 : Nat) (v1 : Int32) (v2 : Int32) (w : zWd) (h0 : zShp v0 = (11, 11)) : zOk gX11_cause zEi [.ref v0, .int v1, .int v2] w (mX11_cause v0 v1 v2 w) := zOk_of (by decide) rfl (Nat.le_of_ble_eq_true rfl) (sX11_cause v0 v1 v2 h0 w)
abbrev gX11_tire : zMth := (yX11_tire, cX11_tire, 4, (some .int), 4, zE0)
theorem cbX11_tire : zCbV yX11_tire cX11_tire 4 (some .int) 2 := ⟨zw1003, zw1004, zw77, zw1005, by decide, by decide, by decide +kernel⟩
set_option maxHeartbeats 4000000 in
set_option maxRecDepth 100000 in
theorem sX11_tire_22 (w : zWd) : zS gX11_tire zEi 22 [] [] w (mX11_tire_22 w) := by
  unfold mX11_tire_22
  refine zS_bipush 24 rfl (-2 : Int32) (by decide) dX11_tire_22 ?_
  exact zS_reti dX11_tire_24 rfl

set_option maxHeartbeats 4000000 in
set_option maxRecDepth 100000 in
theorem sX11_tire_102 (w : zWd) : zS gX11_tire zEi 102 [] [] w (mX11_tire_102 w) := by
  unfold mX11_tire_102
  refine zS_bipush 104 rfl (-5 : Int32) (by decide) dX11_tire_102 ?_
  exact zS_reti dX11_tire_104 rfl

set_option maxHeartbeats 4000000 in
set_option maxRecDepth 100000 in
theorem sX11_tire_41b (v0 : Nat) (v1 : Int32) (v2 : Int32) (k41 : Int32 × zWd → Option (Int32 × zWd)) (v3 : Int32) (hk41 : ∀ (v3 : Int32) (w : zWd), zS gX11_tire zEi 41 [(0, .ref v0), (1, .int v1), (2, .int v2), (3, .int v3)] [] w (k41 (v3, w))) (h0 : zShp v0 = (11, 11)) (w : zWd) : zS gX11_tire zEi 41 [(0, .ref v0), (1, .int v1), (2, .int v2), (3, .int v3)] [] w (mX11_tire_41b v0 v1 v2 k41 v3 w) := by
  unfold mX11_tire_41b
  refine zS_iload_n 42 rfl 3 rfl dX11_tire_41 ?_
  refine zS_bipush 44 rfl (60 : Int32) (by decide) dX11_tire_42 ?_
  refine zS_icmp_ge 102 47 rfl dX11_tire_44 (by decide) ?_ ?_
  · refine zS_sub [] (show _ = [] from rfl) ?_
    exact sX11_tire_102 _
  · refine zS_aload_n 48 rfl 0 rfl dX11_tire_47 ?_
    refine zS_getfp 51 rfl 0 dX11_tire_48 zC11 zw465 (by decide) rfl h0 ?_
    refine zS_getfi 54 rfl 0 dX11_tire_51 zC10 zw345 (by decide) rfl (zP11_world h0) ?_
    refine zS_iload_n 55 rfl 3 rfl dX11_tire_54 ?_
    refine zS_iadd 56 rfl dX11_tire_55 ?_
    refine zS_sipush 59 rfl (400 : Int32) (by decide) dX11_tire_56 ?_
    refine zS_icmp_ge 102 62 rfl dX11_tire_59 (by decide) ?_ ?_
    · refine zS_sub [] (show _ = [] from rfl) ?_
      exact sX11_tire_102 _
    · refine zS_aload_n 63 rfl 0 rfl dX11_tire_62 ?_
      refine zS_getfp 66 rfl 4 dX11_tire_63 zC11 zw469 (by decide) rfl h0 ?_
      refine zS_cVv (as := []) (st := []) (g' := gX0_passDay) 69 rfl (okX0_passDay _ _ (zP11_trial h0)) dX11_tire_66 zC0 (zP11_trial h0) zw575 cbX0_passDay rfl rfl (by decide) (Nat.le_of_ble_eq_true rfl) (fun r5 w6 => ?_)
      refine zS_aload_n 70 rfl 0 rfl dX11_tire_69 ?_
      refine zS_getfp 73 rfl 4 dX11_tire_70 zC11 zw469 (by decide) rfl h0 ?_
      refine zS_getfp 76 rfl 9 dX11_tire_73 zC0 zw139 (by decide) rfl (zP11_trial h0) ?_
      refine zS_iload_n 77 rfl 1 rfl dX11_tire_76 ?_
      refine zS_iconst 78 rfl (4 : Int32) (by decide) dX11_tire_77 ?_
      refine zS_imul 79 rfl dX11_tire_78 ?_
      refine zS_iconst 80 rfl (2 : Int32) (by decide) dX11_tire_79 ?_
      refine zS_iadd 81 rfl dX11_tire_80 ?_
      refine zS_iald 82 rfl dX11_tire_81 (zP0_flows (zP11_trial h0)) ?_
      refine zS_iload_n 83 rfl 2 rfl dX11_tire_82 ?_
      refine zS_icmp_ge 96 86 rfl dX11_tire_83 (by decide) ?_ ?_
      · refine zS_iinc 99 rfl 3 (_ + (1 : Int32)) dX11_tire_96 rfl (by show 3 < 4; decide) rfl (show _ = [(3, .int _), (0, .ref _), (1, .int _), (2, .int _)] from rfl) ?_
        refine zS_goto 41 dX11_tire_99 (by decide) ?_
        refine zS_sub [1, 2, 3, 0] (show _ = [(0, .ref _), (1, .int _), (2, .int _), (3, .int _)] from rfl) ?_
        exact hk41 _ _
      · refine zS_aload_n 87 rfl 0 rfl dX11_tire_86 ?_
        refine zS_getfp 90 rfl 0 dX11_tire_87 zC11 zw465 (by decide) rfl h0 ?_
        refine zS_getfi 93 rfl 0 dX11_tire_90 zC10 zw345 (by decide) rfl (zP11_world h0) ?_
        refine zS_iload_n 94 rfl 3 rfl dX11_tire_93 ?_
        refine zS_iadd 95 rfl dX11_tire_94 ?_
        exact zS_reti dX11_tire_95 rfl

theorem sX11_tire_41 (v0 : Nat) (v1 : Int32) (v2 : Int32) (v3 : Int32) (h0 : zShp v0 = (11, 11)) (w : zWd) : zS gX11_tire zEi 41 [(0, .ref v0), (1, .int v1), (2, .int v2), (3, .int v3)] [] w (mX11_tire_41 v0 v1 v2 v3 w) :=
  zS_loop (L := fun q : Int32 × zWd => [(0, .ref v0), (1, .int v1), (2, .int v2), (3, .int q.1)]) (V := fun q => q.2) (T := fun _ => []) (F := fun k q => mX11_tire_41b v0 v1 v2 k q.1 q.2) (fun k hk q => sX11_tire_41b v0 v1 v2 k q.1 (fun a3 w => hk (a3, w)) h0 q.2) zFU (v3, w)
set_option maxHeartbeats 4000000 in
set_option maxRecDepth 100000 in
theorem sX11_tire (v0 : Nat) (v1 : Int32) (v2 : Int32) (h0 : zShp v0 = (11, 11)) (w : zWd) : zS gX11_tire zEi 0 [(0, .ref v0), (1, .int v1), (2, .int v2)] [] w (mX11_tire v0 v1 v2 w) := by
  unfold mX11_tire
  refine zS_aload_n 1 rfl 0 rfl dX11_tire_0 ?_
  refine zS_iload_n 2 rfl 1 rfl dX11_tire_1 ?_
  refine zS_cVi (as := [.int _]) (st := []) (g' := gX11_isTap) 5 rfl (okX11_isTap _ _ _ h0) dX11_tire_2 zC11 h0 zw567 cbX11_isTap rfl rfl (by decide) (Nat.le_of_ble_eq_true rfl) (fun r1 w2 => ?_)
  refine zS_if_ne 10 8 rfl dX11_tire_5 (by decide) ?_ ?_
  · refine zS_iconst 9 rfl (-1 : Int32) (by decide) dX11_tire_8 ?_
    exact zS_reti dX11_tire_9 rfl
  · refine zS_iload_n 11 rfl 2 rfl dX11_tire_10 ?_
    refine zS_iconst 12 rfl (1 : Int32) (by decide) dX11_tire_11 ?_
    refine zS_icmp_lt 22 15 rfl dX11_tire_12 (by decide) ?_ ?_
    · refine zS_sub [] (show _ = [] from rfl) ?_
      exact sX11_tire_22 _
    · refine zS_iload_n 16 rfl 2 rfl dX11_tire_15 ?_
      refine zS_sipush 19 rfl (9999 : Int32) (by decide) dX11_tire_16 ?_
      refine zS_icmp_le 25 22 rfl dX11_tire_19 (by decide) ?_ ?_
      · refine zS_aload_n 26 rfl 0 rfl dX11_tire_25 ?_
        refine zS_getfp 29 rfl 4 dX11_tire_26 zC11 zw469 (by decide) rfl h0 ?_
        refine zS_aload_n 30 rfl 0 rfl dX11_tire_29 ?_
        refine zS_getfp 33 rfl 0 dX11_tire_30 zC11 zw465 (by decide) rfl h0 ?_
        refine zS_getfp 36 rfl 1 dX11_tire_33 zC10 zw347 (by decide) rfl (zP11_world h0) ?_
        refine zS_cVv (as := [.ref _]) (st := []) (g' := gX0_copyFrom) 39 rfl (okX0_copyFrom _ _ _ (zP11_trial h0) (zP10_ground (zP11_world h0))) dX11_tire_36 zC0 (zP11_trial h0) zw1006 cbX0_copyFrom rfl rfl (by decide) (Nat.le_of_ble_eq_true rfl) (fun r3 w4 => ?_)
        refine zS_iconst 40 rfl (0 : Int32) (by decide) dX11_tire_39 ?_
        refine zS_istore_n 41 rfl dX11_tire_40 (by show 3 < 4; decide) (show _ = [(3, .int _), (0, .ref _), (1, .int _), (2, .int _)] from rfl) ?_
        refine zS_sub [1, 2, 3, 0] (show _ = [(0, .ref _), (1, .int _), (2, .int _), (3, .int _)] from rfl) ?_
        exact sX11_tire_41 _ _ _ _ h0 _
      · refine zS_sub [] (show _ = [] from rfl) ?_
        exact sX11_tire_22 _

theorem okX11_tire (v0 : Nat) (v1 : Int32) (v2 : Int32) (w : zWd) (h0 : zShp v0 = (11, 11)) : zOk gX11_tire zEi [.ref v0, .int v1, .int v2] w (mX11_tire v0 v1 v2 w) := zOk_of (by decide) rfl (Nat.le_of_ble_eq_true rfl) (sX11_tire v0 v1 v2 h0 w)
abbrev gX11_shake : zMth := (yX11_shake, cX11_shake, 3, (some .int), 4, zE0)
theorem cbX11_shake : zCbV yX11_shake cX11_shake 3 (some .int) 2 := ⟨zw1012, zw1013, zw77, zw1014, by decide, by decide, by decide +kernel⟩
set_option maxHeartbeats 4000000 in
set_option maxRecDepth 100000 in
theorem sX11_shake_25 (w : zWd) : zS gX11_shake zEi 25 [] [] w (mX11_shake_25 w) := by
  unfold mX11_shake_25
  refine zS_bipush 27 rfl (-2 : Int32) (by decide) dX11_shake_25 ?_
  exact zS_reti dX11_shake_27 rfl

set_option maxHeartbeats 4000000 in
set_option maxRecDepth 100000 in
theorem sX11_shake_60 (v0 : Nat) (v1 : Int32) (v2 : Int32) (h0 : zShp v0 = (11, 11)) (w : zWd) : zS gX11_shake zEi 60 [(0, .ref v0), (1, .int v1), (2, .int v2)] [] w (mX11_shake_60 v0 v1 v2 w) := by
  unfold mX11_shake_60
  refine zS_aload_n 61 rfl 0 rfl dX11_shake_60 ?_
  refine zS_getfp 64 rfl 0 dX11_shake_61 zC11 zw465 (by decide) rfl h0 ?_
  refine zS_getfp 67 rfl 5 dX11_shake_64 zC10 zw355 (by decide) rfl (zP11_world h0) ?_
  refine zS_iload_n 68 rfl 1 rfl dX11_shake_67 ?_
  refine zS_iload_n 69 rfl 2 rfl dX11_shake_68 ?_
  refine zS_cVi (as := [.int _, .int _]) (st := []) (g' := gX6_setChange) 72 rfl (okX6_setChange _ _ _ _ (zP10_seen (zP11_world h0))) dX11_shake_69 zC6 (zP10_seen (zP11_world h0)) zw1023 cbX6_setChange rfl rfl (by decide) (Nat.le_of_ble_eq_true rfl) (fun r7 w8 => ?_)
  exact zS_reti dX11_shake_72 rfl

set_option maxHeartbeats 4000000 in
set_option maxRecDepth 100000 in
theorem sX11_shake (v0 : Nat) (v1 : Int32) (v2 : Int32) (h0 : zShp v0 = (11, 11)) (w : zWd) : zS gX11_shake zEi 0 [(0, .ref v0), (1, .int v1), (2, .int v2)] [] w (mX11_shake v0 v1 v2 w) := by
  unfold mX11_shake
  refine zS_iload_n 1 rfl 1 rfl dX11_shake_0 ?_
  refine zS_bipush 3 rfl (30 : Int32) (by decide) dX11_shake_1 ?_
  refine zS_cSi (as := [.int _, .int _]) (st := []) (g' := gX11_within) 6 rfl (okX11_within _ _ _) dX11_shake_3 zw503 cbX11_within rfl rfl (by decide) (Nat.le_of_ble_eq_true rfl) (fun r1 w2 => ?_)
  refine zS_if_ne 11 9 rfl dX11_shake_6 (by decide) ?_ ?_
  · refine zS_iconst 10 rfl (-1 : Int32) (by decide) dX11_shake_9 ?_
    exact zS_reti dX11_shake_10 rfl
  · refine zS_iload_n 12 rfl 2 rfl dX11_shake_11 ?_
    refine zS_sipush 15 rfl (-999 : Int32) (by decide) dX11_shake_12 ?_
    refine zS_icmp_lt 25 18 rfl dX11_shake_15 (by decide) ?_ ?_
    · refine zS_sub [] (show _ = [] from rfl) ?_
      exact sX11_shake_25 _
    · refine zS_iload_n 19 rfl 2 rfl dX11_shake_18 ?_
      refine zS_sipush 22 rfl (999 : Int32) (by decide) dX11_shake_19 ?_
      refine zS_icmp_le 28 25 rfl dX11_shake_22 (by decide) ?_ ?_
      · refine zS_aload_n 29 rfl 0 rfl dX11_shake_28 ?_
        refine zS_getfp 32 rfl 0 dX11_shake_29 zC11 zw465 (by decide) rfl h0 ?_
        refine zS_getfp 35 rfl 5 dX11_shake_32 zC10 zw355 (by decide) rfl (zP11_world h0) ?_
        refine zS_iload_n 36 rfl 1 rfl dX11_shake_35 ?_
        refine zS_cVi (as := [.int _]) (st := []) (g' := gX6_hasChange) 39 rfl (okX6_hasChange _ _ _ (zP10_seen (zP11_world h0))) dX11_shake_36 zC6 (zP10_seen (zP11_world h0)) zw1015 cbX6_hasChange rfl rfl (by decide) (Nat.le_of_ble_eq_true rfl) (fun r3 w4 => ?_)
        refine zS_if_ne 60 42 rfl dX11_shake_39 (by decide) ?_ ?_
        · refine zS_aload_n 43 rfl 0 rfl dX11_shake_42 ?_
          refine zS_getfp 46 rfl 0 dX11_shake_43 zC11 zw465 (by decide) rfl h0 ?_
          refine zS_getfp 49 rfl 5 dX11_shake_46 zC10 zw355 (by decide) rfl (zP11_world h0) ?_
          refine zS_cVi (as := []) (st := []) (g' := gX6_changes) 52 rfl (okX6_changes _ _ (zP10_seen (zP11_world h0))) dX11_shake_49 zC6 (zP10_seen (zP11_world h0)) zw1019 cbX6_changes rfl rfl (by decide) (Nat.le_of_ble_eq_true rfl) (fun r5 w6 => ?_)
          refine zS_bipush 54 rfl (6 : Int32) (by decide) dX11_shake_52 ?_
          refine zS_icmp_lt 60 57 rfl dX11_shake_54 (by decide) ?_ ?_
          · exact sX11_shake_60 _ _ _ h0 _
          · refine zS_bipush 59 rfl (-4 : Int32) (by decide) dX11_shake_57 ?_
            exact zS_reti dX11_shake_59 rfl
        · exact sX11_shake_60 _ _ _ h0 _
      · refine zS_sub [] (show _ = [] from rfl) ?_
        exact sX11_shake_25 _

theorem okX11_shake (v0 : Nat) (v1 : Int32) (v2 : Int32) (w : zWd) (h0 : zShp v0 = (11, 11)) : zOk gX11_shake zEi [.ref v0, .int v1, .int v2] w (mX11_shake v0 v1 v2 w) := zOk_of (by decide) rfl (Nat.le_of_ble_eq_true rfl) (sX11_shake v0 v1 v2 h0 w)
abbrev gX11_push : zMth := (yX11_push, cX11_push, 3, (some .int), 2, zE0)
theorem cbX11_push : zCbV yX11_push cX11_push 3 (some .int) 2 := ⟨zw1029, zw1030, zw77, zw1031, by decide, by decide, by decide +kernel⟩
set_option maxHeartbeats 4000000 in
set_option maxRecDepth 100000 in
theorem sX11_push_23 (w : zWd) : zS gX11_push zEi 23 [] [] w (mX11_push_23 w) := by
  unfold mX11_push_23
  refine zS_bipush 25 rfl (-2 : Int32) (by decide) dX11_push_23 ?_
  exact zS_reti dX11_push_25 rfl

set_option maxHeartbeats 4000000 in
set_option maxRecDepth 100000 in
theorem sX11_push (v0 : Nat) (v1 : Int32) (v2 : Int32) (h0 : zShp v0 = (11, 11)) (w : zWd) : zS gX11_push zEi 0 [(0, .ref v0), (1, .int v1), (2, .int v2)] [] w (mX11_push v0 v1 v2 w) := by
  unfold mX11_push
  refine zS_iload_n 1 rfl 1 rfl dX11_push_0 ?_
  refine zS_bipush 3 rfl (30 : Int32) (by decide) dX11_push_1 ?_
  refine zS_cSi (as := [.int _, .int _]) (st := []) (g' := gX11_within) 6 rfl (okX11_within _ _ _) dX11_push_3 zw503 cbX11_within rfl rfl (by decide) (Nat.le_of_ble_eq_true rfl) (fun r1 w2 => ?_)
  refine zS_if_ne 11 9 rfl dX11_push_6 (by decide) ?_ ?_
  · refine zS_iconst 10 rfl (-1 : Int32) (by decide) dX11_push_9 ?_
    exact zS_reti dX11_push_10 rfl
  · refine zS_iload_n 12 rfl 2 rfl dX11_push_11 ?_
    refine zS_bipush 14 rfl (-99 : Int32) (by decide) dX11_push_12 ?_
    refine zS_icmp_lt 23 17 rfl dX11_push_14 (by decide) ?_ ?_
    · refine zS_sub [] (show _ = [] from rfl) ?_
      exact sX11_push_23 _
    · refine zS_iload_n 18 rfl 2 rfl dX11_push_17 ?_
      refine zS_bipush 20 rfl (99 : Int32) (by decide) dX11_push_18 ?_
      refine zS_icmp_le 26 23 rfl dX11_push_20 (by decide) ?_ ?_
      · refine zS_aload_n 27 rfl 0 rfl dX11_push_26 ?_
        refine zS_getfp 30 rfl 0 dX11_push_27 zC11 zw465 (by decide) rfl h0 ?_
        refine zS_getfp 33 rfl 5 dX11_push_30 zC10 zw355 (by decide) rfl (zP11_world h0) ?_
        refine zS_getfi 36 rfl 9 dX11_push_33 zC6 zw314 (by decide) rfl (zP10_seen (zP11_world h0)) ?_
        refine zS_bipush 38 rfl (6 : Int32) (by decide) dX11_push_36 ?_
        refine zS_icmp_lt 44 41 rfl dX11_push_38 (by decide) ?_ ?_
        · refine zS_aload_n 45 rfl 0 rfl dX11_push_44 ?_
          refine zS_getfp 48 rfl 0 dX11_push_45 zC11 zw465 (by decide) rfl h0 ?_
          refine zS_getfp 51 rfl 5 dX11_push_48 zC10 zw355 (by decide) rfl (zP11_world h0) ?_
          refine zS_iload_n 52 rfl 1 rfl dX11_push_51 ?_
          refine zS_iload_n 53 rfl 2 rfl dX11_push_52 ?_
          refine zS_cVi (as := [.int _, .int _]) (st := []) (g' := gX6_addPush) 56 rfl (okX6_addPush _ _ _ _ (zP10_seen (zP11_world h0))) dX11_push_53 zC6 (zP10_seen (zP11_world h0)) zw1032 cbX6_addPush rfl rfl (by decide) (Nat.le_of_ble_eq_true rfl) (fun r3 w4 => ?_)
          exact zS_reti dX11_push_56 rfl
        · refine zS_bipush 43 rfl (-4 : Int32) (by decide) dX11_push_41 ?_
          exact zS_reti dX11_push_43 rfl
      · refine zS_sub [] (show _ = [] from rfl) ?_
        exact sX11_push_23 _

theorem okX11_push (v0 : Nat) (v1 : Int32) (v2 : Int32) (w : zWd) (h0 : zShp v0 = (11, 11)) : zOk gX11_push zEi [.ref v0, .int v1, .int v2] w (mX11_push v0 v1 v2 w) := zOk_of (by decide) rfl (Nat.le_of_ble_eq_true rfl) (sX11_push v0 v1 v2 h0 w)
abbrev gX11_addChange : zMth := (yX11_addChange, cX11_addChange, 5, none, 3, zE0)
theorem cbX11_addChange : zCbV yX11_addChange cX11_addChange 5 none 1 := ⟨zw1042, zw36, zw77, zw1043, by decide, by decide, by decide +kernel⟩
set_option maxHeartbeats 4000000 in
set_option maxRecDepth 100000 in
theorem sX11_addChange_91 (k21 : Int32 × zWd → Option (Unit × zWd)) (v0 : Nat) (v1 : Int32) (v2 : Int32) (s0 : Int32) (s1 : Int32) (s2 : Nat) (hk21 : ∀ (v2 : Int32) (w : zWd), zS gX11_addChange zEv 21 [(0, .ref v0), (1, .int v1), (2, .int v2)] [] w (k21 (v2, w))) (h0 : zShp v0 = (11, 11)) (t2 : zShp s2 = (7, 5)) (w : zWd) : zS gX11_addChange zEv 91 [(0, .ref v0), (1, .int v1), (2, .int v2)] [.int s0, .int s1, .ref s2] w (mX11_addChange_91 k21 v0 v1 v2 s0 s1 s2 w) := by
  unfold mX11_addChange_91
  refine zS_cVv (as := [.int _, .int _]) (st := []) (g' := gX7_addShare) 94 rfl (okX7_addShare _ _ _ _ t2) dX11_addChange_91 zC7 t2 zw987 cbX7_addShare rfl rfl (by decide) (Nat.le_of_ble_eq_true rfl) (fun r6 w7 => ?_)
  refine zS_iinc 97 rfl 2 (_ + (1 : Int32)) dX11_addChange_94 rfl (by show 2 < 5; decide) rfl (show _ = [(2, .int _), (0, .ref _), (1, .int _)] from rfl) ?_
  refine zS_goto 21 dX11_addChange_97 (by decide) ?_
  refine zS_sub [1, 2, 0] (show _ = [(0, .ref _), (1, .int _), (2, .int _)] from rfl) ?_
  exact hk21 _ _

set_option maxHeartbeats 4000000 in
set_option maxRecDepth 100000 in
theorem sX11_addChange_21b (v0 : Nat) (v1 : Int32) (k21 : Int32 × zWd → Option (Unit × zWd)) (v2 : Int32) (hk21 : ∀ (v2 : Int32) (w : zWd), zS gX11_addChange zEv 21 [(0, .ref v0), (1, .int v1), (2, .int v2)] [] w (k21 (v2, w))) (h0 : zShp v0 = (11, 11)) (w : zWd) : zS gX11_addChange zEv 21 [(0, .ref v0), (1, .int v1), (2, .int v2)] [] w (mX11_addChange_21b v0 v1 k21 v2 w) := by
  unfold mX11_addChange_21b
  refine zS_iload_n 22 rfl 2 rfl dX11_addChange_21 ?_
  refine zS_aload_n 23 rfl 0 rfl dX11_addChange_22 ?_
  refine zS_getfp 26 rfl 8 dX11_addChange_23 zC11 zw473 (by decide) rfl h0 ?_
  refine zS_getfi 29 rfl 0 dX11_addChange_26 zC7 zw449 (by decide) rfl (zP11_sets h0) ?_
  refine zS_icmp_ge 100 32 rfl dX11_addChange_29 (by decide) ?_ ?_
  · exact zS_retv dX11_addChange_100 rfl
  · refine zS_iload_n 33 rfl 1 rfl dX11_addChange_32 ?_
    refine zS_aload_n 34 rfl 0 rfl dX11_addChange_33 ?_
    refine zS_getfp 37 rfl 0 dX11_addChange_34 zC11 zw465 (by decide) rfl h0 ?_
    refine zS_getfp 40 rfl 5 dX11_addChange_37 zC10 zw355 (by decide) rfl (zP11_world h0) ?_
    refine zS_getfp 43 rfl 10 dX11_addChange_40 zC6 zw316 (by decide) rfl (zP10_seen (zP11_world h0)) ?_
    refine zS_iload_n 44 rfl 2 rfl dX11_addChange_43 ?_
    refine zS_iald 45 rfl dX11_addChange_44 (zP6_pushCell (zP10_seen (zP11_world h0))) ?_
    refine zS_cSi (as := [.int _, .int _]) (st := []) (g' := gX11_distance) 48 rfl (okX11_distance _ _ _) dX11_addChange_45 zw986 cbX11_distance rfl rfl (by decide) (Nat.le_of_ble_eq_true rfl) (fun r3 w4 => ?_)
    refine zS_istore_n 49 rfl dX11_addChange_48 (by show 3 < 5; decide) (show _ = [(3, .int _), (0, .ref _), (1, .int _), (2, .int _)] from rfl) ?_
    refine zS_aload_n 50 rfl 1 rfl dX11_addChange_49 ?_
    refine zS_getfp 53 rfl 0 dX11_addChange_50 zC11 zw465 (by decide) rfl h0 ?_
    refine zS_getfp 56 rfl 5 dX11_addChange_53 zC10 zw355 (by decide) rfl (zP11_world h0) ?_
    refine zS_getfp 59 rfl 11 dX11_addChange_56 zC6 zw318 (by decide) rfl (zP10_seen (zP11_world h0)) ?_
    refine zS_iload_n 60 rfl 3 rfl dX11_addChange_59 ?_
    refine zS_iald 61 rfl dX11_addChange_60 (zP6_pushStrength (zP10_seen (zP11_world h0))) ?_
    refine zS_bni (fun x5 => ?_)
    refine zS_istore 63 rfl dX11_addChange_61 (by show 4 < 5; decide) (show _ = [(4, .int _), (3, .int _), (0, .ref _), (1, .int _), (2, .int _)] from rfl) ?_
    refine zS_aload_n 64 rfl 2 rfl dX11_addChange_63 ?_
    refine zS_getfp 67 rfl 8 dX11_addChange_64 zC11 zw473 (by decide) rfl h0 ?_
    refine zS_iload_n 68 rfl 4 rfl dX11_addChange_67 ?_
    refine zS_iload_n 69 rfl 1 rfl dX11_addChange_68 ?_
    refine zS_iconst 70 rfl (1 : Int32) (by decide) dX11_addChange_69 ?_
    refine zS_icmp_gt 78 73 rfl dX11_addChange_70 (by decide) ?_ ?_
    · refine zS_iload_n 79 rfl 1 rfl dX11_addChange_78 ?_
      refine zS_iconst 80 rfl (2 : Int32) (by decide) dX11_addChange_79 ?_
      refine zS_icmp_ne 90 83 rfl dX11_addChange_80 (by decide) ?_ ?_
      · refine zS_iload 85 rfl 0 rfl dX11_addChange_83 ?_
        refine zS_iconst 86 rfl (2 : Int32) (by decide) dX11_addChange_85 ?_
        refine zS_idivC 87 rfl dX11_addChange_86 (by decide) ?_
        refine zS_goto 91 dX11_addChange_87 (by decide) ?_
        refine zS_sub [2, 3, 4] (show _ = [(0, .ref _), (1, .int _), (2, .int _)] from rfl) ?_
        exact sX11_addChange_91 k21 _ _ _ _ _ _ hk21 h0 (zP11_sets h0) _
      · refine zS_iconst 91 rfl (0 : Int32) (by decide) dX11_addChange_90 ?_
        refine zS_sub [2, 3, 4] (show _ = [(0, .ref _), (1, .int _), (2, .int _)] from rfl) ?_
        exact sX11_addChange_91 k21 _ _ _ _ _ _ hk21 h0 (zP11_sets h0) _
    · refine zS_iload 75 rfl 0 rfl dX11_addChange_73 ?_
      refine zS_goto 91 dX11_addChange_75 (by decide) ?_
      refine zS_sub [2, 3, 4] (show _ = [(0, .ref _), (1, .int _), (2, .int _)] from rfl) ?_
      exact sX11_addChange_91 k21 _ _ _ _ _ _ hk21 h0 (zP11_sets h0) _

theorem sX11_addChange_21 (v0 : Nat) (v1 : Int32) (v2 : Int32) (h0 : zShp v0 = (11, 11)) (w : zWd) : zS gX11_addChange zEv 21 [(0, .ref v0), (1, .int v1), (2, .int v2)] [] w (mX11_addChange_21 v0 v1 v2 w) :=
  zS_loop (L := fun q : Int32 × zWd => [(0, .ref v0), (1, .int v1), (2, .int q.1)]) (V := fun q => q.2) (T := fun _ => []) (F := fun k q => mX11_addChange_21b v0 v1 k q.1 q.2) (fun k hk q => sX11_addChange_21b v0 v1 k q.1 (fun a2 w => hk (a2, w)) h0 q.2) zFU (v2, w)
set_option maxHeartbeats 4000000 in
set_option maxRecDepth 100000 in
theorem sX11_addChange (v0 : Nat) (v1 : Int32) (h0 : zShp v0 = (11, 11)) (w : zWd) : zS gX11_addChange zEv 0 [(0, .ref v0), (1, .int v1)] [] w (mX11_addChange v0 v1 w) := by
  unfold mX11_addChange
  refine zS_aload_n 1 rfl 0 rfl dX11_addChange_0 ?_
  refine zS_getfp 4 rfl 8 dX11_addChange_1 zC11 zw473 (by decide) rfl h0 ?_
  refine zS_aload_n 5 rfl 0 rfl dX11_addChange_4 ?_
  refine zS_getfp 8 rfl 0 dX11_addChange_5 zC11 zw465 (by decide) rfl h0 ?_
  refine zS_getfp 11 rfl 5 dX11_addChange_8 zC10 zw355 (by decide) rfl (zP11_world h0) ?_
  refine zS_getfp 14 rfl 8 dX11_addChange_11 zC6 zw312 (by decide) rfl (zP10_seen (zP11_world h0)) ?_
  refine zS_iload_n 15 rfl 1 rfl dX11_addChange_14 ?_
  refine zS_iald 16 rfl dX11_addChange_15 (zP6_changeOf (zP10_seen (zP11_world h0))) ?_
  refine zS_cVv (as := [.int _]) (st := []) (g' := gX7_addDue) 19 rfl (okX7_addDue _ _ _ (zP11_sets h0)) dX11_addChange_16 zC7 (zP11_sets h0) zw982 cbX7_addDue rfl rfl (by decide) (Nat.le_of_ble_eq_true rfl) (fun r1 w2 => ?_)
  refine zS_iconst 20 rfl (0 : Int32) (by decide) dX11_addChange_19 ?_
  refine zS_istore_n 21 rfl dX11_addChange_20 (by show 2 < 5; decide) (show _ = [(2, .int _), (0, .ref _), (1, .int _)] from rfl) ?_
  refine zS_sub [1, 2, 0] (show _ = [(0, .ref _), (1, .int _), (2, .int _)] from rfl) ?_
  exact sX11_addChange_21 _ _ _ h0 _

theorem okX11_addChange (v0 : Nat) (v1 : Int32) (w : zWd) (h0 : zShp v0 = (11, 11)) : zOk gX11_addChange zEv [.ref v0, .int v1] w (mX11_addChange v0 v1 w) := zOk_of (by decide) rfl (Nat.le_of_ble_eq_true rfl) (sX11_addChange v0 v1 h0 w)
abbrev gX11_shift : zMth := (yX11_shift, cX11_shift, 3, (some .int), 4, zE0)
theorem cbX11_shift : zCbV yX11_shift cX11_shift 3 (some .int) 1 := ⟨zw1037, zw1038, zw77, zw1039, by decide, by decide, by decide +kernel⟩
set_option maxHeartbeats 4000000 in
set_option maxRecDepth 100000 in
theorem sX11_shift_55 (k30 : Int32 × zWd → Option (Int32 × zWd)) (v0 : Nat) (v1 : Int32) (v2 : Int32) (hk30 : ∀ (v2 : Int32) (w : zWd), zS gX11_shift zEi 30 [(0, .ref v0), (1, .int v1), (2, .int v2)] [] w (k30 (v2, w))) (h0 : zShp v0 = (11, 11)) (w : zWd) : zS gX11_shift zEi 55 [(0, .ref v0), (1, .int v1), (2, .int v2)] [] w (mX11_shift_55 k30 v0 v1 v2 w) := by
  unfold mX11_shift_55
  refine zS_iinc 58 rfl 2 (_ + (1 : Int32)) dX11_shift_55 rfl (by show 2 < 3; decide) rfl (show _ = [(2, .int _), (0, .ref _), (1, .int _)] from rfl) ?_
  refine zS_goto 30 dX11_shift_58 (by decide) ?_
  refine zS_sub [1, 2, 0] (show _ = [(0, .ref _), (1, .int _), (2, .int _)] from rfl) ?_
  exact hk30 _ _

set_option maxHeartbeats 4000000 in
set_option maxRecDepth 100000 in
theorem sX11_shift_30b (v0 : Nat) (v1 : Int32) (k30 : Int32 × zWd → Option (Int32 × zWd)) (v2 : Int32) (hk30 : ∀ (v2 : Int32) (w : zWd), zS gX11_shift zEi 30 [(0, .ref v0), (1, .int v1), (2, .int v2)] [] w (k30 (v2, w))) (h0 : zShp v0 = (11, 11)) (w : zWd) : zS gX11_shift zEi 30 [(0, .ref v0), (1, .int v1), (2, .int v2)] [] w (mX11_shift_30b v0 v1 k30 v2 w) := by
  unfold mX11_shift_30b
  refine zS_iload_n 31 rfl 2 rfl dX11_shift_30 ?_
  refine zS_bipush 33 rfl (30 : Int32) (by decide) dX11_shift_31 ?_
  refine zS_icmp_ge 61 36 rfl dX11_shift_33 (by decide) ?_ ?_
  · refine zS_aload_n 62 rfl 0 rfl dX11_shift_61 ?_
    refine zS_getfp 65 rfl 8 dX11_shift_62 zC11 zw473 (by decide) rfl h0 ?_
    refine zS_iload_n 66 rfl 1 rfl dX11_shift_65 ?_
    refine zS_cVi (as := [.int _]) (st := []) (g' := gX7_answer) 69 rfl (okX7_answer _ _ _ (zP11_sets h0)) dX11_shift_66 zC7 (zP11_sets h0) zw992 cbX7_answer rfl rfl (by decide) (Nat.le_of_ble_eq_true rfl) (fun r5 w6 => ?_)
    exact zS_reti dX11_shift_69 rfl
  · refine zS_aload_n 37 rfl 0 rfl dX11_shift_36 ?_
    refine zS_getfp 40 rfl 0 dX11_shift_37 zC11 zw465 (by decide) rfl h0 ?_
    refine zS_getfp 43 rfl 5 dX11_shift_40 zC10 zw355 (by decide) rfl (zP11_world h0) ?_
    refine zS_iload_n 44 rfl 2 rfl dX11_shift_43 ?_
    refine zS_cVi (as := [.int _]) (st := []) (g' := gX6_hasChange) 47 rfl (okX6_hasChange _ _ _ (zP10_seen (zP11_world h0))) dX11_shift_44 zC6 (zP10_seen (zP11_world h0)) zw1015 cbX6_hasChange rfl rfl (by decide) (Nat.le_of_ble_eq_true rfl) (fun r7 w8 => ?_)
    refine zS_if_eq 55 50 rfl dX11_shift_47 (by decide) ?_ ?_
    · exact sX11_shift_55 k30 _ _ _ hk30 h0 _
    · refine zS_aload_n 51 rfl 0 rfl dX11_shift_50 ?_
      refine zS_iload_n 52 rfl 2 rfl dX11_shift_51 ?_
      refine zS_cVv (as := [.int _]) (st := []) (g' := gX11_addChange) 55 rfl (okX11_addChange _ _ _ h0) dX11_shift_52 zC11 h0 zw1040 cbX11_addChange rfl rfl (by decide) (Nat.le_of_ble_eq_true rfl) (fun r9 w10 => ?_)
      exact sX11_shift_55 k30 _ _ _ hk30 h0 _

theorem sX11_shift_30 (v0 : Nat) (v1 : Int32) (v2 : Int32) (h0 : zShp v0 = (11, 11)) (w : zWd) : zS gX11_shift zEi 30 [(0, .ref v0), (1, .int v1), (2, .int v2)] [] w (mX11_shift_30 v0 v1 v2 w) :=
  zS_loop (L := fun q : Int32 × zWd => [(0, .ref v0), (1, .int v1), (2, .int q.1)]) (V := fun q => q.2) (T := fun _ => []) (F := fun k q => mX11_shift_30b v0 v1 k q.1 q.2) (fun k hk q => sX11_shift_30b v0 v1 k q.1 (fun a2 w => hk (a2, w)) h0 q.2) zFU (v2, w)
set_option maxHeartbeats 4000000 in
set_option maxRecDepth 100000 in
theorem sX11_shift (v0 : Nat) (v1 : Int32) (h0 : zShp v0 = (11, 11)) (w : zWd) : zS gX11_shift zEi 0 [(0, .ref v0), (1, .int v1)] [] w (mX11_shift v0 v1 w) := by
  unfold mX11_shift
  refine zS_iload_n 1 rfl 1 rfl dX11_shift_0 ?_
  refine zS_iconst 2 rfl (2 : Int32) (by decide) dX11_shift_1 ?_
  refine zS_cSi (as := [.int _, .int _]) (st := []) (g' := gX11_within) 5 rfl (okX11_within _ _ _) dX11_shift_2 zw503 cbX11_within rfl rfl (by decide) (Nat.le_of_ble_eq_true rfl) (fun r1 w2 => ?_)
  refine zS_if_ne 10 8 rfl dX11_shift_5 (by decide) ?_ ?_
  · refine zS_iconst 9 rfl (-1 : Int32) (by decide) dX11_shift_8 ?_
    exact zS_reti dX11_shift_9 rfl
  · refine zS_aload_n 11 rfl 0 rfl dX11_shift_10 ?_
    refine zS_getfp 14 rfl 8 dX11_shift_11 zC11 zw473 (by decide) rfl h0 ?_
    refine zS_aload_n 15 rfl 0 rfl dX11_shift_14 ?_
    refine zS_getfp 18 rfl 0 dX11_shift_15 zC11 zw465 (by decide) rfl h0 ?_
    refine zS_getfp 21 rfl 5 dX11_shift_18 zC10 zw355 (by decide) rfl (zP11_world h0) ?_
    refine zS_getfi 24 rfl 9 dX11_shift_21 zC6 zw314 (by decide) rfl (zP10_seen (zP11_world h0)) ?_
    refine zS_iconst 25 rfl (0 : Int32) (by decide) dX11_shift_24 ?_
    refine zS_cVv (as := [.int _, .int _]) (st := []) (g' := gX7_begin) 28 rfl (okX7_begin _ _ _ _ (zP11_sets h0)) dX11_shift_25 zC7 (zP11_sets h0) zw973 cbX7_begin rfl rfl (by decide) (Nat.le_of_ble_eq_true rfl) (fun r3 w4 => ?_)
    refine zS_iconst 29 rfl (0 : Int32) (by decide) dX11_shift_28 ?_
    refine zS_istore_n 30 rfl dX11_shift_29 (by show 2 < 3; decide) (show _ = [(2, .int _), (0, .ref _), (1, .int _)] from rfl) ?_
    refine zS_sub [1, 2, 0] (show _ = [(0, .ref _), (1, .int _), (2, .int _)] from rfl) ?_
    exact sX11_shift_30 _ _ _ h0 _

theorem okX11_shift (v0 : Nat) (v1 : Int32) (w : zWd) (h0 : zShp v0 = (11, 11)) : zOk gX11_shift zEi [.ref v0, .int v1] w (mX11_shift v0 v1 w) := zOk_of (by decide) rfl (Nat.le_of_ble_eq_true rfl) (sX11_shift v0 v1 h0 w)
abbrev gX11_othersGive : zMth := (yX11_othersGive, cX11_othersGive, 7, (some .int), 4, zE0)
theorem cbX11_othersGive : zCbV yX11_othersGive cX11_othersGive 7 (some .int) 2 := ⟨zw1050, zw37, zw77, zw1051, by decide, by decide, by decide +kernel⟩
set_option maxHeartbeats 4000000 in
set_option maxRecDepth 100000 in
theorem sX11_othersGive_54b (k38 : Int32 × Int32 × zWd → Option (Int32 × zWd)) (v0 : Nat) (v3 : Int32) (v5 : Int32) (k54 : Int32 × Int32 × zWd → Option (Int32 × zWd)) (v4 : Int32) (v6 : Int32) (hk38 : ∀ (v4 : Int32) (v5 : Int32) (w : zWd), zS gX11_othersGive zEi 38 [(0, .ref v0), (3, .int v3), (4, .int v4), (5, .int v5)] [] w (k38 (v4, v5, w))) (hk54 : ∀ (v4 : Int32) (v6 : Int32) (w : zWd), zS gX11_othersGive zEi 54 [(0, .ref v0), (3, .int v3), (4, .int v4), (5, .int v5), (6, .int v6)] [] w (k54 (v4, v6, w))) (h0 : zShp v0 = (11, 11)) (w : zWd) : zS gX11_othersGive zEi 54 [(0, .ref v0), (3, .int v3), (4, .int v4), (5, .int v5), (6, .int v6)] [] w (mX11_othersGive_54b k38 v0 v3 v5 k54 v4 v6 w) := by
  unfold mX11_othersGive_54b
  refine zS_iload 56 rfl 4 rfl dX11_othersGive_54 ?_
  refine zS_iload_n 57 rfl 1 rfl dX11_othersGive_56 ?_
  refine zS_icmp_ge 85 60 rfl dX11_othersGive_57 (by decide) ?_ ?_
  · refine zS_iinc 88 rfl 3 (_ + (1 : Int32)) dX11_othersGive_85 rfl (by show 5 < 7; decide) rfl (show _ = [(5, .int _), (0, .ref _), (3, .int _), (4, .int _), (6, .int _)] from rfl) ?_
    refine zS_goto 38 dX11_othersGive_88 (by decide) ?_
    refine zS_sub [1, 2, 3, 0] (show _ = [(0, .ref _), (3, .int _), (4, .int _), (5, .int _)] from rfl) ?_
    exact hk38 _ _ _
  · refine zS_iload 62 rfl 2 rfl dX11_othersGive_60 ?_
    refine zS_aload_n 63 rfl 0 rfl dX11_othersGive_62 ?_
    refine zS_getfp 66 rfl 4 dX11_othersGive_63 zC11 zw469 (by decide) rfl h0 ?_
    refine zS_getfp 69 rfl 9 dX11_othersGive_66 zC0 zw139 (by decide) rfl (zP11_trial h0) ?_
    refine zS_iload 71 rfl 4 rfl dX11_othersGive_69 ?_
    refine zS_iconst 72 rfl (4 : Int32) (by decide) dX11_othersGive_71 ?_
    refine zS_imul 73 rfl dX11_othersGive_72 ?_
    refine zS_iconst 74 rfl (0 : Int32) (by decide) dX11_othersGive_73 ?_
    refine zS_iadd 75 rfl dX11_othersGive_74 ?_
    refine zS_iald 76 rfl dX11_othersGive_75 (zP0_flows (zP11_trial h0)) ?_
    refine zS_iadd 77 rfl dX11_othersGive_76 ?_
    refine zS_bni (fun x7 => ?_)
    refine zS_istore 79 rfl dX11_othersGive_77 (by show 4 < 7; decide) (show _ = [(4, .int _), (0, .ref _), (3, .int _), (5, .int _), (6, .int _)] from rfl) ?_
    refine zS_iinc 82 rfl 4 (_ + (1 : Int32)) dX11_othersGive_79 rfl (by show 6 < 7; decide) rfl (show _ = [(6, .int _), (4, .int _), (0, .ref _), (3, .int _), (5, .int _)] from rfl) ?_
    refine zS_goto 54 dX11_othersGive_82 (by decide) ?_
    refine zS_sub [2, 3, 1, 4, 0] (show _ = [(0, .ref _), (3, .int _), (4, .int _), (5, .int _), (6, .int _)] from rfl) ?_
    exact hk54 _ _ _

theorem sX11_othersGive_54 (k38 : Int32 × Int32 × zWd → Option (Int32 × zWd)) (v0 : Nat) (v3 : Int32) (v5 : Int32) (v4 : Int32) (v6 : Int32) (hk38 : ∀ (v4 : Int32) (v5 : Int32) (w : zWd), zS gX11_othersGive zEi 38 [(0, .ref v0), (3, .int v3), (4, .int v4), (5, .int v5)] [] w (k38 (v4, v5, w))) (h0 : zShp v0 = (11, 11)) (w : zWd) : zS gX11_othersGive zEi 54 [(0, .ref v0), (3, .int v3), (4, .int v4), (5, .int v5), (6, .int v6)] [] w (mX11_othersGive_54 k38 v0 v3 v5 v4 v6 w) :=
  zS_loop (L := fun q : Int32 × Int32 × zWd => [(0, .ref v0), (3, .int v3), (4, .int q.1), (5, .int v5), (6, .int q.2.1)]) (V := fun q => q.2.2) (T := fun _ => []) (F := fun k q => mX11_othersGive_54b k38 v0 v3 v5 k q.1 q.2.1 q.2.2) (fun k hk q => sX11_othersGive_54b k38 v0 v3 v5 k q.1 q.2.1 hk38 (fun a4 a6 w => hk (a4, a6, w)) h0 q.2.2) zFU (v4, v6, w)
set_option maxHeartbeats 4000000 in
set_option maxRecDepth 100000 in
theorem sX11_othersGive_38b (v0 : Nat) (v3 : Int32) (k38 : Int32 × Int32 × zWd → Option (Int32 × zWd)) (v4 : Int32) (v5 : Int32) (hk38 : ∀ (v4 : Int32) (v5 : Int32) (w : zWd), zS gX11_othersGive zEi 38 [(0, .ref v0), (3, .int v3), (4, .int v4), (5, .int v5)] [] w (k38 (v4, v5, w))) (h0 : zShp v0 = (11, 11)) (w : zWd) : zS gX11_othersGive zEi 38 [(0, .ref v0), (3, .int v3), (4, .int v4), (5, .int v5)] [] w (mX11_othersGive_38b v0 v3 k38 v4 v5 w) := by
  unfold mX11_othersGive_38b
  refine zS_iload 40 rfl 3 rfl dX11_othersGive_38 ?_
  refine zS_iconst 41 rfl (5 : Int32) (by decide) dX11_othersGive_40 ?_
  refine zS_icmp_ge 91 44 rfl dX11_othersGive_41 (by decide) ?_ ?_
  · refine zS_iload 93 rfl 2 rfl dX11_othersGive_91 ?_
    exact zS_reti dX11_othersGive_93 rfl
  · refine zS_aload_n 45 rfl 0 rfl dX11_othersGive_44 ?_
    refine zS_getfp 48 rfl 4 dX11_othersGive_45 zC11 zw469 (by decide) rfl h0 ?_
    refine zS_cVv (as := []) (st := []) (g' := gX0_passDay) 51 rfl (okX0_passDay _ _ (zP11_trial h0)) dX11_othersGive_48 zC0 (zP11_trial h0) zw575 cbX0_passDay rfl rfl (by decide) (Nat.le_of_ble_eq_true rfl) (fun r5 w6 => ?_)
    refine zS_iconst 52 rfl (0 : Int32) (by decide) dX11_othersGive_51 ?_
    refine zS_istore 54 rfl dX11_othersGive_52 (by show 6 < 7; decide) (show _ = [(6, .int _), (0, .ref _), (3, .int _), (4, .int _), (5, .int _)] from rfl) ?_
    refine zS_sub [1, 2, 3, 4, 0] (show _ = [(0, .ref _), (3, .int _), (4, .int _), (5, .int _), (6, .int _)] from rfl) ?_
    exact sX11_othersGive_54 k38 _ _ _ _ _ hk38 h0 _

theorem sX11_othersGive_38 (v0 : Nat) (v3 : Int32) (v4 : Int32) (v5 : Int32) (h0 : zShp v0 = (11, 11)) (w : zWd) : zS gX11_othersGive zEi 38 [(0, .ref v0), (3, .int v3), (4, .int v4), (5, .int v5)] [] w (mX11_othersGive_38 v0 v3 v4 v5 w) :=
  zS_loop (L := fun q : Int32 × Int32 × zWd => [(0, .ref v0), (3, .int v3), (4, .int q.1), (5, .int q.2.1)]) (V := fun q => q.2.2) (T := fun _ => []) (F := fun k q => mX11_othersGive_38b v0 v3 k q.1 q.2.1 q.2.2) (fun k hk q => sX11_othersGive_38b v0 v3 k q.1 q.2.1 (fun a4 a5 w => hk (a4, a5, w)) h0 q.2.2) zFU (v4, v5, w)
set_option maxHeartbeats 4000000 in
set_option maxRecDepth 100000 in
theorem sX11_othersGive (v0 : Nat) (v1 : Int32) (v2 : Int32) (h0 : zShp v0 = (11, 11)) (w : zWd) : zS gX11_othersGive zEi 0 [(0, .ref v0), (1, .int v1), (2, .int v2)] [] w (mX11_othersGive v0 v1 v2 w) := by
  unfold mX11_othersGive
  refine zS_aload_n 1 rfl 0 rfl dX11_othersGive_0 ?_
  refine zS_getfp 4 rfl 4 dX11_othersGive_1 zC11 zw469 (by decide) rfl h0 ?_
  refine zS_aload_n 5 rfl 0 rfl dX11_othersGive_4 ?_
  refine zS_getfp 8 rfl 0 dX11_othersGive_5 zC11 zw465 (by decide) rfl h0 ?_
  refine zS_getfp 11 rfl 1 dX11_othersGive_8 zC10 zw347 (by decide) rfl (zP11_world h0) ?_
  refine zS_cVv (as := [.ref _]) (st := []) (g' := gX0_copyFrom) 14 rfl (okX0_copyFrom _ _ _ (zP11_trial h0) (zP10_ground (zP11_world h0))) dX11_othersGive_11 zC0 (zP11_trial h0) zw1006 cbX0_copyFrom rfl rfl (by decide) (Nat.le_of_ble_eq_true rfl) (fun r1 w2 => ?_)
  refine zS_aload_n 15 rfl 0 rfl dX11_othersGive_14 ?_
  refine zS_getfp 18 rfl 4 dX11_othersGive_15 zC11 zw469 (by decide) rfl h0 ?_
  refine zS_iconst 19 rfl (1 : Int32) (by decide) dX11_othersGive_18 ?_
  refine zS_iload_n 20 rfl 1 rfl dX11_othersGive_19 ?_
  refine zS_iload_n 21 rfl 2 rfl dX11_othersGive_20 ?_
  refine zS_aload_n 22 rfl 0 rfl dX11_othersGive_21 ?_
  refine zS_getfp 25 rfl 0 dX11_othersGive_22 zC11 zw465 (by decide) rfl h0 ?_
  refine zS_getfi 28 rfl 0 dX11_othersGive_25 zC10 zw345 (by decide) rfl (zP11_world h0) ?_
  refine zS_cVi (as := [.int _, .int _, .int _, .int _]) (st := []) (g' := gX0_addTap) 31 rfl (okX0_addTap _ _ _ _ _ _ (zP11_trial h0)) dX11_othersGive_28 zC0 (zP11_trial h0) zw559 cbX0_addTap rfl rfl (by decide) (Nat.le_of_ble_eq_true rfl) (fun r3 w4 => ?_)
  refine zS_istore_n 32 rfl dX11_othersGive_31 (by show 3 < 7; decide) (show _ = [(3, .int _), (0, .ref _), (1, .int _), (2, .int _)] from rfl) ?_
  refine zS_iconst 33 rfl (0 : Int32) (by decide) dX11_othersGive_32 ?_
  refine zS_istore 35 rfl dX11_othersGive_33 (by show 4 < 7; decide) (show _ = [(4, .int _), (3, .int _), (0, .ref _), (1, .int _), (2, .int _)] from rfl) ?_
  refine zS_iconst 36 rfl (0 : Int32) (by decide) dX11_othersGive_35 ?_
  refine zS_istore 38 rfl dX11_othersGive_36 (by show 5 < 7; decide) (show _ = [(5, .int _), (4, .int _), (3, .int _), (0, .ref _), (1, .int _), (2, .int _)] from rfl) ?_
  refine zS_sub [3, 2, 1, 0] (show _ = [(0, .ref _), (3, .int _), (4, .int _), (5, .int _)] from rfl) ?_
  exact sX11_othersGive_38 _ _ _ _ h0 _

theorem okX11_othersGive (v0 : Nat) (v1 : Int32) (v2 : Int32) (w : zWd) (h0 : zShp v0 = (11, 11)) : zOk gX11_othersGive zEi [.ref v0, .int v1, .int v2] w (mX11_othersGive v0 v1 v2 w) := zOk_of (by decide) rfl (Nat.le_of_ble_eq_true rfl) (sX11_othersGive v0 v1 v2 h0 w)
abbrev gX11_place : zMth := (yX11_place, cX11_place, 6, (some .int), 7, zE0)
theorem cbX11_place : zCbV yX11_place cX11_place 6 (some .int) 1 := ⟨zw1045, zw1046, zw77, zw1047, by decide, by decide, by decide +kernel⟩
set_option maxHeartbeats 4000000 in
set_option maxRecDepth 100000 in
theorem sX11_place_12 (w : zWd) : zS gX11_place zEi 12 [] [] w (mX11_place_12 w) := by
  unfold mX11_place_12
  refine zS_bipush 14 rfl (-2 : Int32) (by decide) dX11_place_12 ?_
  exact zS_reti dX11_place_14 rfl

set_option maxHeartbeats 4000000 in
set_option maxRecDepth 100000 in
theorem sX11_place_45 (w : zWd) : zS gX11_place zEi 45 [] [] w (mX11_place_45 w) := by
  unfold mX11_place_45
  refine zS_bipush 47 rfl (-3 : Int32) (by decide) dX11_place_45 ?_
  exact zS_reti dX11_place_47 rfl

set_option maxHeartbeats 4000000 in
set_option maxRecDepth 100000 in
theorem sX11_place_116 (k56 : Int32 × Int32 × Int32 × zWd → Option (Int32 × zWd)) (v0 : Nat) (v1 : Int32) (v2 : Int32) (v3 : Int32) (v4 : Int32) (hk56 : ∀ (v2 : Int32) (v3 : Int32) (v4 : Int32) (w : zWd), zS gX11_place zEi 56 [(0, .ref v0), (1, .int v1), (2, .int v2), (3, .int v3), (4, .int v4)] [] w (k56 (v2, v3, v4, w))) (h0 : zShp v0 = (11, 11)) (w : zWd) : zS gX11_place zEi 116 [(0, .ref v0), (1, .int v1), (2, .int v2), (3, .int v3), (4, .int v4)] [] w (mX11_place_116 k56 v0 v1 v2 v3 v4 w) := by
  unfold mX11_place_116
  refine zS_iinc 119 rfl 4 (_ + (1 : Int32)) dX11_place_116 rfl (by show 4 < 6; decide) rfl (show _ = [(4, .int _), (0, .ref _), (1, .int _), (2, .int _), (3, .int _)] from rfl) ?_
  refine zS_goto 56 dX11_place_119 (by decide) ?_
  refine zS_sub [1, 2, 3, 4, 0] (show _ = [(0, .ref _), (1, .int _), (2, .int _), (3, .int _), (4, .int _)] from rfl) ?_
  exact hk56 _ _ _ _

set_option maxHeartbeats 4000000 in
set_option maxRecDepth 100000 in
theorem sX11_place_56b (v0 : Nat) (v1 : Int32) (k56 : Int32 × Int32 × Int32 × zWd → Option (Int32 × zWd)) (v2 : Int32) (v3 : Int32) (v4 : Int32) (hk56 : ∀ (v2 : Int32) (v3 : Int32) (v4 : Int32) (w : zWd), zS gX11_place zEi 56 [(0, .ref v0), (1, .int v1), (2, .int v2), (3, .int v3), (4, .int v4)] [] w (k56 (v2, v3, v4, w))) (h0 : zShp v0 = (11, 11)) (w : zWd) : zS gX11_place zEi 56 [(0, .ref v0), (1, .int v1), (2, .int v2), (3, .int v3), (4, .int v4)] [] w (mX11_place_56b v0 v1 k56 v2 v3 v4 w) := by
  unfold mX11_place_56b
  refine zS_iload 58 rfl 4 rfl dX11_place_56 ?_
  refine zS_bipush 60 rfl (30 : Int32) (by decide) dX11_place_58 ?_
  refine zS_icmp_ge 122 63 rfl dX11_place_60 (by decide) ?_ ?_
  · refine zS_iload_n 123 rfl 2 rfl dX11_place_122 ?_
    exact zS_reti dX11_place_123 rfl
  · refine zS_aload_n 64 rfl 0 rfl dX11_place_63 ?_
    refine zS_getfp 67 rfl 0 dX11_place_64 zC11 zw465 (by decide) rfl h0 ?_
    refine zS_getfp 70 rfl 1 dX11_place_67 zC10 zw347 (by decide) rfl (zP11_world h0) ?_
    refine zS_iload 72 rfl 4 rfl dX11_place_70 ?_
    refine zS_cVi (as := [.int _]) (st := []) (g' := gX0_hasTapAt) 75 rfl (okX0_hasTapAt _ _ _ (zP10_ground (zP11_world h0))) dX11_place_72 zC0 (zP10_ground (zP11_world h0)) zw515 cbX0_hasTapAt rfl rfl (by decide) (Nat.le_of_ble_eq_true rfl) (fun r1 w2 => ?_)
    refine zS_if_ne 116 78 rfl dX11_place_75 (by decide) ?_ ?_
    · refine zS_aload_n 79 rfl 0 rfl dX11_place_78 ?_
      refine zS_getfp 82 rfl 0 dX11_place_79 zC11 zw465 (by decide) rfl h0 ?_
      refine zS_iconst 83 rfl (1 : Int32) (by decide) dX11_place_82 ?_
      refine zS_iload 85 rfl 4 rfl dX11_place_83 ?_
      refine zS_iconst 86 rfl (1 : Int32) (by decide) dX11_place_85 ?_
      refine zS_cVi (as := [.int _, .int _, .int _]) (st := []) (g' := gX10_mayBe) 89 rfl (okX10_mayBe _ _ _ _ _ (zP11_world h0)) dX11_place_86 zC10 (zP11_world h0) zw519 cbX10_mayBe rfl rfl (by decide) (Nat.le_of_ble_eq_true rfl) (fun r3 w4 => ?_)
      refine zS_if_ne 95 92 rfl dX11_place_89 (by decide) ?_ ?_
      · refine zS_goto 116 dX11_place_92 (by decide) ?_
        exact sX11_place_116 k56 _ _ _ _ _ hk56 h0 _
      · refine zS_aload_n 96 rfl 0 rfl dX11_place_95 ?_
        refine zS_iload 98 rfl 4 rfl dX11_place_96 ?_
        refine zS_iload_n 99 rfl 1 rfl dX11_place_98 ?_
        refine zS_cVi (as := [.int _, .int _]) (st := []) (g' := gX11_othersGive) 102 rfl (okX11_othersGive _ _ _ _ h0) dX11_place_99 zC11 h0 zw1048 cbX11_othersGive rfl rfl (by decide) (Nat.le_of_ble_eq_true rfl) (fun r5 w6 => ?_)
        refine zS_istore 104 rfl dX11_place_102 (by show 5 < 6; decide) (show _ = [(5, .int _), (0, .ref _), (1, .int _), (2, .int _), (3, .int _), (4, .int _)] from rfl) ?_
        refine zS_iload 106 rfl 0 rfl dX11_place_104 ?_
        refine zS_iload_n 107 rfl 4 rfl dX11_place_106 ?_
        refine zS_icmp_le 116 110 rfl dX11_place_107 (by decide) ?_ ?_
        · refine zS_sub [1, 2, 3, 4, 5] (show _ = [(0, .ref _), (1, .int _), (2, .int _), (3, .int _), (4, .int _)] from rfl) ?_
          exact sX11_place_116 k56 _ _ _ _ _ hk56 h0 _
        · refine zS_iload 112 rfl 0 rfl dX11_place_110 ?_
          refine zS_istore_n 113 rfl dX11_place_112 (by show 3 < 6; decide) (show _ = [(3, .int _), (5, .int _), (0, .ref _), (1, .int _), (2, .int _), (4, .int _)] from rfl) ?_
          refine zS_iload 115 rfl 5 rfl dX11_place_113 ?_
          refine zS_istore_n 116 rfl dX11_place_115 (by show 2 < 6; decide) (show _ = [(2, .int _), (3, .int _), (5, .int _), (0, .ref _), (1, .int _), (4, .int _)] from rfl) ?_
          refine zS_sub [3, 4, 0, 1, 5] (show _ = [(0, .ref _), (1, .int _), (2, .int _), (3, .int _), (4, .int _)] from rfl) ?_
          exact sX11_place_116 k56 _ _ _ _ _ hk56 h0 _
    · exact sX11_place_116 k56 _ _ _ _ _ hk56 h0 _

theorem sX11_place_56 (v0 : Nat) (v1 : Int32) (v2 : Int32) (v3 : Int32) (v4 : Int32) (h0 : zShp v0 = (11, 11)) (w : zWd) : zS gX11_place zEi 56 [(0, .ref v0), (1, .int v1), (2, .int v2), (3, .int v3), (4, .int v4)] [] w (mX11_place_56 v0 v1 v2 v3 v4 w) :=
  zS_loop (L := fun q : Int32 × Int32 × Int32 × zWd => [(0, .ref v0), (1, .int v1), (2, .int q.1), (3, .int q.2.1), (4, .int q.2.2.1)]) (V := fun q => q.2.2.2) (T := fun _ => []) (F := fun k q => mX11_place_56b v0 v1 k q.1 q.2.1 q.2.2.1 q.2.2.2) (fun k hk q => sX11_place_56b v0 v1 k q.1 q.2.1 q.2.2.1 (fun a2 a3 a4 w => hk (a2, a3, a4, w)) h0 q.2.2.2) zFU (v2, v3, v4, w)
set_option maxHeartbeats 4000000 in
set_option maxRecDepth 100000 in
theorem sX11_place (v0 : Nat) (v1 : Int32) (h0 : zShp v0 = (11, 11)) (w : zWd) : zS gX11_place zEi 0 [(0, .ref v0), (1, .int v1)] [] w (mX11_place v0 v1 w) := by
  unfold mX11_place
  refine zS_iload_n 1 rfl 1 rfl dX11_place_0 ?_
  refine zS_iconst 2 rfl (1 : Int32) (by decide) dX11_place_1 ?_
  refine zS_icmp_lt 12 5 rfl dX11_place_2 (by decide) ?_ ?_
  · refine zS_sub [] (show _ = [] from rfl) ?_
    exact sX11_place_12 _
  · refine zS_iload_n 6 rfl 1 rfl dX11_place_5 ?_
    refine zS_sipush 9 rfl (500 : Int32) (by decide) dX11_place_6 ?_
    refine zS_icmp_le 15 12 rfl dX11_place_9 (by decide) ?_ ?_
    · refine zS_aload_n 16 rfl 0 rfl dX11_place_15 ?_
      refine zS_getfp 19 rfl 0 dX11_place_16 zC11 zw465 (by decide) rfl h0 ?_
      refine zS_getfp 22 rfl 1 dX11_place_19 zC10 zw347 (by decide) rfl (zP11_world h0) ?_
      refine zS_getfi 25 rfl 1 dX11_place_22 zC0 zw123 (by decide) rfl (zP10_ground (zP11_world h0)) ?_
      refine zS_bipush 27 rfl (12 : Int32) (by decide) dX11_place_25 ?_
      refine zS_icmp_ge 45 30 rfl dX11_place_27 (by decide) ?_ ?_
      · refine zS_sub [] (show _ = [] from rfl) ?_
        exact sX11_place_45 _
      · refine zS_aload_n 31 rfl 0 rfl dX11_place_30 ?_
        refine zS_getfp 34 rfl 0 dX11_place_31 zC11 zw465 (by decide) rfl h0 ?_
        refine zS_getfi 37 rfl 0 dX11_place_34 zC10 zw345 (by decide) rfl (zP11_world h0) ?_
        refine zS_iconst 38 rfl (5 : Int32) (by decide) dX11_place_37 ?_
        refine zS_iadd 39 rfl dX11_place_38 ?_
        refine zS_sipush 42 rfl (400 : Int32) (by decide) dX11_place_39 ?_
        refine zS_icmp_le 48 45 rfl dX11_place_42 (by decide) ?_ ?_
        · refine zS_bipush 50 rfl (-5 : Int32) (by decide) dX11_place_48 ?_
          refine zS_istore_n 51 rfl dX11_place_50 (by show 2 < 6; decide) (show _ = [(2, .int _), (0, .ref _), (1, .int _)] from rfl) ?_
          refine zS_iconst 52 rfl (-1 : Int32) (by decide) dX11_place_51 ?_
          refine zS_istore_n 53 rfl dX11_place_52 (by show 3 < 6; decide) (show _ = [(3, .int _), (2, .int _), (0, .ref _), (1, .int _)] from rfl) ?_
          refine zS_iconst 54 rfl (0 : Int32) (by decide) dX11_place_53 ?_
          refine zS_istore 56 rfl dX11_place_54 (by show 4 < 6; decide) (show _ = [(4, .int _), (3, .int _), (2, .int _), (0, .ref _), (1, .int _)] from rfl) ?_
          refine zS_sub [3, 4, 2, 1, 0] (show _ = [(0, .ref _), (1, .int _), (2, .int _), (3, .int _), (4, .int _)] from rfl) ?_
          exact sX11_place_56 _ _ _ _ _ h0 _
        · refine zS_sub [] (show _ = [] from rfl) ?_
          exact sX11_place_45 _
    · refine zS_sub [] (show _ = [] from rfl) ?_
      exact sX11_place_12 _

theorem okX11_place (v0 : Nat) (v1 : Int32) (w : zWd) (h0 : zShp v0 = (11, 11)) : zOk gX11_place zEi [.ref v0, .int v1] w (mX11_place v0 v1 w) := zOk_of (by decide) rfl (Nat.le_of_ble_eq_true rfl) (sX11_place v0 v1 h0 w)
abbrev gX11_tried : zMth := (yX11_tried, cX11_tried, 4, (some .int), 46, zE0)
theorem cbX11_tried : zCbV yX11_tried cX11_tried 4 (some .int) 2 := ⟨zw1053, zw1054, zw77, zw1055, by decide, by decide, by decide +kernel⟩
set_option maxHeartbeats 4000000 in
set_option maxRecDepth 100000 in
theorem sX11_tried_27 (w : zWd) : zS gX11_tried zEi 27 [] [] w (mX11_tried_27 w) := by
  unfold mX11_tried_27
  refine zS_iconst 28 rfl (-1 : Int32) (by decide) dX11_tried_27 ?_
  exact zS_reti dX11_tried_28 rfl

set_option maxHeartbeats 4000000 in
set_option maxRecDepth 100000 in
theorem sX11_tried_146 (s0 : Int32) (w : zWd) : zS gX11_tried zEi 146 [] [.int s0] w (mX11_tried_146 s0 w) := by
  unfold mX11_tried_146
  exact zS_reti dX11_tried_146 rfl

set_option maxHeartbeats 4000000 in
set_option maxRecDepth 100000 in
theorem sX11_tried_29 (v0 : Nat) (v1 : Int32) (v2 : Int32) (h0 : zShp v0 = (11, 11)) (w : zWd) : zS gX11_tried zEi 29 [(0, .ref v0), (1, .int v1), (2, .int v2)] [] w (mX11_tried_29 v0 v1 v2 w) := by
  unfold mX11_tried_29
  refine zS_aload_n 30 rfl 0 rfl dX11_tried_29 ?_
  refine zS_getfp 33 rfl 5 dX11_tried_30 zC11 zw470 (by decide) rfl h0 ?_
  refine zS_aload_n 34 rfl 0 rfl dX11_tried_33 ?_
  refine zS_getfp 37 rfl 0 dX11_tried_34 zC11 zw465 (by decide) rfl h0 ?_
  refine zS_getfp 40 rfl 2 dX11_tried_37 zC10 zw349 (by decide) rfl (zP11_world h0) ?_
  refine zS_aload_n 41 rfl 0 rfl dX11_tried_40 ?_
  refine zS_getfp 44 rfl 0 dX11_tried_41 zC11 zw465 (by decide) rfl h0 ?_
  refine zS_getfp 47 rfl 3 dX11_tried_44 zC10 zw351 (by decide) rfl (zP11_world h0) ?_
  refine zS_cVr (as := []) (st := [.ref _, .ref _]) (g' := gX3_spare) 50 rfl (okX3_spare _ _ (zP10_book (zP11_world h0))) dX11_tried_47 zC3 (zP10_book (zP11_world h0)) zw647 cbX3_spare rfl rfl (by decide) (Nat.le_of_ble_eq_true rfl) (fun r5 w6 => ?_)
  refine zS_gd (fun g7 => ?_)
  refine zS_aload_n 51 rfl 0 rfl dX11_tried_50 ?_
  refine zS_getfp 54 rfl 0 dX11_tried_51 zC11 zw465 (by decide) rfl h0 ?_
  refine zS_getfi 57 rfl 0 dX11_tried_54 zC10 zw345 (by decide) rfl (zP11_world h0) ?_
  refine zS_cVi (as := [.ref _, .ref _, .int _]) (st := []) (g' := gX4_read) 60 rfl (okX4_read _ _ _ _ _ (zP11_reader h0) (zP10_tape (zP11_world h0)) g7) dX11_tried_57 zC4 (zP11_reader h0) zw652 cbX4_read rfl rfl (by decide) (Nat.le_of_ble_eq_true rfl) (fun r8 w9 => ?_)
  refine zS_istore_n 61 rfl dX11_tried_60 (by show 3 < 4; decide) (show _ = [(3, .int _), (0, .ref _), (1, .int _), (2, .int _)] from rfl) ?_
  refine zS_iload_n 62 rfl 0 rfl dX11_tried_61 ?_
  refine zS_if_lt 70 65 rfl dX11_tried_62 (by decide) ?_ ?_
  · refine zS_aload_n 71 rfl 1 rfl dX11_tried_70 ?_
    refine zS_getfp 74 rfl 0 dX11_tried_71 zC11 zw465 (by decide) rfl h0 ?_
    refine zS_getfp 77 rfl 3 dX11_tried_74 zC10 zw351 (by decide) rfl (zP11_world h0) ?_
    refine zS_cVi (as := []) (st := []) (g' := gX3_accept) 80 rfl (okX3_accept _ _ (zP10_book (zP11_world h0))) dX11_tried_77 zC3 (zP10_book (zP11_world h0)) zw766 cbX3_accept rfl rfl (by decide) (Nat.le_of_ble_eq_true rfl) (fun r10 w11 => ?_)
    refine zS_pop 81 rfl rfl dX11_tried_80 ?_
    refine zS_aload_n 82 rfl 1 rfl dX11_tried_81 ?_
    refine zS_getfp 85 rfl 6 dX11_tried_82 zC11 zw471 (by decide) rfl h0 ?_
    refine zS_aload_n 86 rfl 1 rfl dX11_tried_85 ?_
    refine zS_getfp 89 rfl 0 dX11_tried_86 zC11 zw465 (by decide) rfl h0 ?_
    refine zS_getfp 92 rfl 3 dX11_tried_89 zC10 zw351 (by decide) rfl (zP11_world h0) ?_
    refine zS_aload_n 93 rfl 1 rfl dX11_tried_92 ?_
    refine zS_getfp 96 rfl 0 dX11_tried_93 zC11 zw465 (by decide) rfl h0 ?_
    refine zS_getfp 99 rfl 4 dX11_tried_96 zC10 zw353 (by decide) rfl (zP11_world h0) ?_
    refine zS_aload_n 100 rfl 1 rfl dX11_tried_99 ?_
    refine zS_getfp 103 rfl 0 dX11_tried_100 zC11 zw465 (by decide) rfl h0 ?_
    refine zS_getfi 106 rfl 0 dX11_tried_103 zC10 zw345 (by decide) rfl (zP11_world h0) ?_
    refine zS_cVv (as := [.ref _, .ref _, .int _]) (st := []) (g' := gX5_form) 109 rfl (okX5_form _ _ _ _ _ (zP11_line h0) (zP10_book (zP11_world h0)) (zP10_takers (zP11_world h0))) dX11_tried_106 zC5 (zP11_line h0) zw806 cbX5_form rfl rfl (by decide) (Nat.le_of_ble_eq_true rfl) (fun r12 w13 => ?_)
    refine zS_aload_n 110 rfl 1 rfl dX11_tried_109 ?_
    refine zS_getfp 113 rfl 0 dX11_tried_110 zC11 zw465 (by decide) rfl h0 ?_
    refine zS_getfp 116 rfl 3 dX11_tried_113 zC10 zw351 (by decide) rfl (zP11_world h0) ?_
    refine zS_cVv (as := []) (st := []) (g' := gX3_forgetLast) 119 rfl (okX3_forgetLast _ _ (zP10_book (zP11_world h0))) dX11_tried_116 zC3 (zP10_book (zP11_world h0)) zw1056 cbX3_forgetLast rfl rfl (by decide) (Nat.le_of_ble_eq_true rfl) (fun r14 w15 => ?_)
    refine zS_iload_n 120 rfl 2 rfl dX11_tried_119 ?_
    refine zS_if_ne 147 123 rfl dX11_tried_120 (by decide) ?_ ?_
    · refine zS_aload_n 124 rfl 1 rfl dX11_tried_123 ?_
      refine zS_getfp 127 rfl 6 dX11_tried_124 zC11 zw471 (by decide) rfl h0 ?_
      refine zS_getfi 130 rfl 0 dX11_tried_127 zC5 zw398 (by decide) rfl (zP11_line h0) ?_
      refine zS_if_le 145 133 rfl dX11_tried_130 (by decide) ?_ ?_
      · refine zS_iconst 146 rfl (-1 : Int32) (by decide) dX11_tried_145 ?_
        refine zS_sub [] (show _ = [] from rfl) ?_
        exact sX11_tried_146 _ _
      · refine zS_aload_n 134 rfl 1 rfl dX11_tried_133 ?_
        refine zS_getfp 137 rfl 6 dX11_tried_134 zC11 zw471 (by decide) rfl h0 ?_
        refine zS_getfp 140 rfl 2 dX11_tried_137 zC5 zw403 (by decide) rfl (zP11_line h0) ?_
        refine zS_iconst 141 rfl (0 : Int32) (by decide) dX11_tried_140 ?_
        refine zS_iald 142 rfl dX11_tried_141 (zP5_order (zP11_line h0)) ?_
        refine zS_goto 146 dX11_tried_142 (by decide) ?_
        refine zS_sub [] (show _ = [] from rfl) ?_
        exact sX11_tried_146 _ _
    · refine zS_aload_n 148 rfl 1 rfl dX11_tried_147 ?_
      refine zS_iload_n 149 rfl 3 rfl dX11_tried_148 ?_
      refine zS_cVi (as := [.int _]) (st := []) (g' := gX11_servedOf) 152 rfl (okX11_servedOf _ _ _ h0) dX11_tried_149 zC11 h0 zw882 cbX11_servedOf rfl rfl (by decide) (Nat.le_of_ble_eq_true rfl) (fun r16 w17 => ?_)
      refine zS_cSi (as := [.int _]) (st := []) (g' := gJ6_bitCount_0f7a4) 155 rfl (okJ6_bitCount_0f7a4 _ _) dX11_tried_152 zw1061 cbJ6_bitCount_0f7a4 rfl rfl (by decide) (Nat.le_of_ble_eq_true rfl) (fun r18 w19 => ?_)
      exact zS_reti dX11_tried_155 rfl
  · refine zS_bipush 67 rfl (-10 : Int32) (by decide) dX11_tried_65 ?_
    refine zS_iload_n 68 rfl 0 rfl dX11_tried_67 ?_
    refine zS_isub 69 rfl dX11_tried_68 ?_
    exact zS_reti dX11_tried_69 rfl

set_option maxHeartbeats 4000000 in
set_option maxRecDepth 100000 in
theorem sX11_tried (v0 : Nat) (v1 : Int32) (v2 : Int32) (h0 : zShp v0 = (11, 11)) (w : zWd) : zS gX11_tried zEi 0 [(0, .ref v0), (1, .int v1), (2, .int v2)] [] w (mX11_tried v0 v1 v2 w) := by
  unfold mX11_tried
  refine zS_iload_n 1 rfl 1 rfl dX11_tried_0 ?_
  refine zS_iconst 2 rfl (2 : Int32) (by decide) dX11_tried_1 ?_
  refine zS_cSi (as := [.int _, .int _]) (st := []) (g' := gX11_within) 5 rfl (okX11_within _ _ _) dX11_tried_2 zw503 cbX11_within rfl rfl (by decide) (Nat.le_of_ble_eq_true rfl) (fun r1 w2 => ?_)
  refine zS_if_eq 27 8 rfl dX11_tried_5 (by decide) ?_ ?_
  · refine zS_sub [] (show _ = [] from rfl) ?_
    exact sX11_tried_27 _
  · refine zS_iload_n 9 rfl 1 rfl dX11_tried_8 ?_
    refine zS_iconst 10 rfl (1 : Int32) (by decide) dX11_tried_9 ?_
    refine zS_icmp_ne 29 13 rfl dX11_tried_10 (by decide) ?_ ?_
    · refine zS_iload_n 14 rfl 2 rfl dX11_tried_13 ?_
      refine zS_aload_n 15 rfl 0 rfl dX11_tried_14 ?_
      refine zS_getfp 18 rfl 0 dX11_tried_15 zC11 zw465 (by decide) rfl h0 ?_
      refine zS_getfi 21 rfl 0 dX11_tried_18 zC10 zw345 (by decide) rfl (zP11_world h0) ?_
      refine zS_cSi (as := [.int _, .int _]) (st := []) (g' := gX11_within) 24 rfl (okX11_within _ _ _) dX11_tried_21 zw503 cbX11_within rfl rfl (by decide) (Nat.le_of_ble_eq_true rfl) (fun r3 w4 => ?_)
      refine zS_if_ne 29 27 rfl dX11_tried_24 (by decide) ?_ ?_
      · refine zS_sub [] (show _ = [] from rfl) ?_
        exact sX11_tried_27 _
      · exact sX11_tried_29 _ _ _ h0 _
    · exact sX11_tried_29 _ _ _ h0 _

theorem okX11_tried (v0 : Nat) (v1 : Int32) (v2 : Int32) (w : zWd) (h0 : zShp v0 = (11, 11)) : zOk gX11_tried zEi [.ref v0, .int v1, .int v2] w (mX11_tried v0 v1 v2 w) := zOk_of (by decide) rfl (Nat.le_of_ble_eq_true rfl) (sX11_tried v0 v1 v2 h0 w)
abbrev gX11_image : zMth := (yX11_image, cX11_image, 1, (some .int), 4, zE0)
theorem cbX11_image : zCbV yX11_image cX11_image 1 (some .int) 0 := ⟨zw1063, zw1064, zw77, zw1065, by decide, by decide, by decide +kernel⟩
set_option maxHeartbeats 4000000 in
set_option maxRecDepth 100000 in
theorem sX11_image (v0 : Nat) (h0 : zShp v0 = (11, 11)) (w : zWd) : zS gX11_image zEi 0 [(0, .ref v0)] [] w (mX11_image v0 w) := by
  unfold mX11_image
  refine zS_aload_n 1 rfl 0 rfl dX11_image_0 ?_
  refine zS_getfp 4 rfl 1 dX11_image_1 zC11 zw466 (by decide) rfl h0 ?_
  refine zS_aload_n 5 rfl 0 rfl dX11_image_4 ?_
  refine zS_getfp 8 rfl 0 dX11_image_5 zC11 zw465 (by decide) rfl h0 ?_
  refine zS_cVv (as := [.ref _]) (st := []) (g' := gX10_copyFrom) 11 rfl (okX10_copyFrom _ _ _ (zP11_kept h0) (zP11_world h0)) dX11_image_8 zC10 (zP11_kept h0) zw1066 cbX10_copyFrom rfl rfl (by decide) (Nat.le_of_ble_eq_true rfl) (fun r1 w2 => ?_)
  refine zS_aload_n 12 rfl 0 rfl dX11_image_11 ?_
  refine zS_iconst 13 rfl (1 : Int32) (by decide) dX11_image_12 ?_
  refine zS_putfb 16 rfl 2 dX11_image_13 zC11 zw467 (by decide) rfl rfl rfl h0 ?_
  refine zS_bnw (fun w3 => ?_)
  refine zS_aload_n 17 rfl 0 rfl dX11_image_16 ?_
  refine zS_getfp 20 rfl 0 dX11_image_17 zC11 zw465 (by decide) rfl h0 ?_
  refine zS_getfi 23 rfl 0 dX11_image_20 zC10 zw345 (by decide) rfl (zP11_world h0) ?_
  exact zS_reti dX11_image_23 rfl

theorem okX11_image (v0 : Nat) (w : zWd) (h0 : zShp v0 = (11, 11)) : zOk gX11_image zEi [.ref v0] w (mX11_image v0 w) := zOk_of (by decide) rfl (Nat.le_of_ble_eq_true rfl) (sX11_image v0 h0 w)
abbrev gX11_undo : zMth := (yX11_undo, cX11_undo, 1, (some .int), 4, zE0)
theorem cbX11_undo : zCbV yX11_undo cX11_undo 1 (some .int) 0 := ⟨zw1096, zw1097, zw77, zw1098, by decide, by decide, by decide +kernel⟩
set_option maxHeartbeats 4000000 in
set_option maxRecDepth 100000 in
theorem sX11_undo (v0 : Nat) (h0 : zShp v0 = (11, 11)) (w : zWd) : zS gX11_undo zEi 0 [(0, .ref v0)] [] w (mX11_undo v0 w) := by
  unfold mX11_undo
  refine zS_aload_n 1 rfl 0 rfl dX11_undo_0 ?_
  refine zS_getfi 4 rfl 2 dX11_undo_1 zC11 zw467 (by decide) rfl h0 ?_
  refine zS_if_ne 10 7 rfl dX11_undo_4 (by decide) ?_ ?_
  · refine zS_bipush 9 rfl (-3 : Int32) (by decide) dX11_undo_7 ?_
    exact zS_reti dX11_undo_9 rfl
  · refine zS_aload_n 11 rfl 0 rfl dX11_undo_10 ?_
    refine zS_getfp 14 rfl 0 dX11_undo_11 zC11 zw465 (by decide) rfl h0 ?_
    refine zS_aload_n 15 rfl 0 rfl dX11_undo_14 ?_
    refine zS_getfp 18 rfl 1 dX11_undo_15 zC11 zw466 (by decide) rfl h0 ?_
    refine zS_cVv (as := [.ref _]) (st := []) (g' := gX10_copyFrom) 21 rfl (okX10_copyFrom _ _ _ (zP11_world h0) (zP11_kept h0)) dX11_undo_18 zC10 (zP11_world h0) zw1066 cbX10_copyFrom rfl rfl (by decide) (Nat.le_of_ble_eq_true rfl) (fun r1 w2 => ?_)
    refine zS_aload_n 22 rfl 0 rfl dX11_undo_21 ?_
    refine zS_getfp 25 rfl 0 dX11_undo_22 zC11 zw465 (by decide) rfl h0 ?_
    refine zS_getfi 28 rfl 0 dX11_undo_25 zC10 zw345 (by decide) rfl (zP11_world h0) ?_
    exact zS_reti dX11_undo_28 rfl

theorem okX11_undo (v0 : Nat) (w : zWd) (h0 : zShp v0 = (11, 11)) : zOk gX11_undo zEi [.ref v0] w (mX11_undo v0 w) := zOk_of (by decide) rfl (Nat.le_of_ble_eq_true rfl) (sX11_undo v0 h0 w)
abbrev gX11_count : zMth := (yX11_count, cX11_count, 2, (some .int), 2, zE0)
theorem cbX11_count : zCbV yX11_count cX11_count 2 (some .int) 1 := ⟨zw1100, zw1101, zw77, zw1102, by decide, by decide, by decide +kernel⟩
set_option maxHeartbeats 4000000 in
set_option maxRecDepth 100000 in
theorem sX11_count (v0 : Nat) (v1 : Int32) (h0 : zShp v0 = (11, 11)) (w : zWd) : zS gX11_count zEi 0 [(0, .ref v0), (1, .int v1)] [] w (mX11_count v0 v1 w) := by
  unfold mX11_count
  refine zS_iload_n 1 rfl 1 rfl dX11_count_0 ?_
  refine zS_tsw (lo := 0) ?_
  refine zSw_in (c0 := (0 : Int32)) 0 52 dX11_count_1 (by decide) (by decide) rfl (by decide) ?_ ?_
  · refine zS_aload_n 53 rfl 0 rfl dX11_count_52 ?_
    refine zS_getfp 56 rfl 0 dX11_count_53 zC11 zw465 (by decide) rfl h0 ?_
    refine zS_getfp 59 rfl 1 dX11_count_56 zC10 zw347 (by decide) rfl (zP11_world h0) ?_
    refine zS_getfi 62 rfl 1 dX11_count_59 zC0 zw123 (by decide) rfl (zP10_ground (zP11_world h0)) ?_
    exact zS_reti dX11_count_62 rfl
  refine zSw_in (c0 := (1 : Int32)) 1 63 dX11_count_1 (by decide) (by decide) rfl (by decide) ?_ ?_
  · refine zS_aload_n 64 rfl 0 rfl dX11_count_63 ?_
    refine zS_getfp 67 rfl 0 dX11_count_64 zC11 zw465 (by decide) rfl h0 ?_
    refine zS_getfp 70 rfl 3 dX11_count_67 zC10 zw351 (by decide) rfl (zP11_world h0) ?_
    refine zS_getfi 73 rfl 0 dX11_count_70 zC3 zw223 (by decide) rfl (zP10_book (zP11_world h0)) ?_
    exact zS_reti dX11_count_73 rfl
  refine zSw_in (c0 := (2 : Int32)) 2 74 dX11_count_1 (by decide) (by decide) rfl (by decide) ?_ ?_
  · refine zS_aload_n 75 rfl 0 rfl dX11_count_74 ?_
    refine zS_getfp 78 rfl 0 dX11_count_75 zC11 zw465 (by decide) rfl h0 ?_
    refine zS_getfp 81 rfl 4 dX11_count_78 zC10 zw353 (by decide) rfl (zP11_world h0) ?_
    refine zS_getfi 84 rfl 0 dX11_count_81 zC8 zw238 (by decide) rfl (zP10_takers (zP11_world h0)) ?_
    exact zS_reti dX11_count_84 rfl
  refine zSw_in (c0 := (3 : Int32)) 3 85 dX11_count_1 (by decide) (by decide) rfl (by decide) ?_ ?_
  · refine zS_aload_n 86 rfl 0 rfl dX11_count_85 ?_
    refine zS_getfp 89 rfl 0 dX11_count_86 zC11 zw465 (by decide) rfl h0 ?_
    refine zS_getfp 92 rfl 4 dX11_count_89 zC10 zw353 (by decide) rfl (zP11_world h0) ?_
    refine zS_getfi 95 rfl 8 dX11_count_92 zC8 zw259 (by decide) rfl (zP10_takers (zP11_world h0)) ?_
    exact zS_reti dX11_count_95 rfl
  refine zSw_in (c0 := (4 : Int32)) 4 96 dX11_count_1 (by decide) (by decide) rfl (by decide) ?_ ?_
  · refine zS_aload_n 97 rfl 0 rfl dX11_count_96 ?_
    refine zS_getfp 100 rfl 0 dX11_count_97 zC11 zw465 (by decide) rfl h0 ?_
    refine zS_getfp 103 rfl 5 dX11_count_100 zC10 zw355 (by decide) rfl (zP11_world h0) ?_
    refine zS_getfi 106 rfl 0 dX11_count_103 zC6 zw298 (by decide) rfl (zP10_seen (zP11_world h0)) ?_
    exact zS_reti dX11_count_106 rfl
  refine zSw_in (c0 := (5 : Int32)) 5 107 dX11_count_1 (by decide) (by decide) rfl (by decide) ?_ ?_
  · refine zS_aload_n 108 rfl 0 rfl dX11_count_107 ?_
    refine zS_getfp 111 rfl 0 dX11_count_108 zC11 zw465 (by decide) rfl h0 ?_
    refine zS_getfi 114 rfl 0 dX11_count_111 zC10 zw345 (by decide) rfl (zP11_world h0) ?_
    exact zS_reti dX11_count_114 rfl
  refine zSw_in (c0 := (6 : Int32)) 6 115 dX11_count_1 (by decide) (by decide) rfl (by decide) ?_ ?_
  · refine zS_aload_n 116 rfl 0 rfl dX11_count_115 ?_
    refine zS_getfp 119 rfl 0 dX11_count_116 zC11 zw465 (by decide) rfl h0 ?_
    refine zS_getfp 122 rfl 2 dX11_count_119 zC10 zw349 (by decide) rfl (zP11_world h0) ?_
    refine zS_getfi 125 rfl 0 dX11_count_122 zC9 zw173 (by decide) rfl (zP10_tape (zP11_world h0)) ?_
    exact zS_reti dX11_count_125 rfl
  refine zSw_in (c0 := (7 : Int32)) 7 126 dX11_count_1 (by decide) (by decide) rfl (by decide) ?_ ?_
  · refine zS_aload_n 127 rfl 0 rfl dX11_count_126 ?_
    refine zS_getfp 130 rfl 0 dX11_count_127 zC11 zw465 (by decide) rfl h0 ?_
    refine zS_getfp 133 rfl 5 dX11_count_130 zC10 zw355 (by decide) rfl (zP11_world h0) ?_
    refine zS_getfi 136 rfl 9 dX11_count_133 zC6 zw314 (by decide) rfl (zP10_seen (zP11_world h0)) ?_
    exact zS_reti dX11_count_136 rfl
  refine zSw_in (c0 := (8 : Int32)) 8 137 dX11_count_1 (by decide) (by decide) rfl (by decide) ?_ ?_
  · refine zS_aload_n 138 rfl 0 rfl dX11_count_137 ?_
    refine zS_getfp 141 rfl 0 dX11_count_138 zC11 zw465 (by decide) rfl h0 ?_
    refine zS_getfp 144 rfl 1 dX11_count_141 zC10 zw347 (by decide) rfl (zP11_world h0) ?_
    refine zS_cVi (as := []) (st := []) (g' := gX0_allWater) 147 rfl (okX0_allWater _ _ (zP10_ground (zP11_world h0))) dX11_count_144 zC0 (zP10_ground (zP11_world h0)) zw1103 cbX0_allWater rfl rfl (by decide) (Nat.le_of_ble_eq_true rfl) (fun r1 w2 => ?_)
    exact zS_reti dX11_count_147 rfl
  refine zSw_out 148 dX11_count_1 (by decide) (by decide) ?_
  · refine zS_iconst 149 rfl (-1 : Int32) (by decide) dX11_count_148 ?_
    exact zS_reti dX11_count_149 rfl

theorem okX11_count (v0 : Nat) (v1 : Int32) (w : zWd) (h0 : zShp v0 = (11, 11)) : zOk gX11_count zEi [.ref v0, .int v1] w (mX11_count v0 v1 w) := zOk_of (by decide) rfl (Nat.le_of_ble_eq_true rfl) (sX11_count v0 v1 h0 w)
abbrev gX12_in : zMth := (yX12_in, cX12_in, 3, (some .boolean), 1, zE0)
theorem cbX12_in : zCbS yX12_in cX12_in 3 (some .boolean) 3 := ⟨zw1197, zw89, zw1198, by decide, by decide, by decide +kernel⟩
set_option maxHeartbeats 4000000 in
set_option maxRecDepth 100000 in
theorem sX12_in_15 (s0 : Int32) (w : zWd) : zS gX12_in zEi 15 [] [.int s0] w (mX12_in_15 s0 w) := by
  unfold mX12_in_15
  exact zS_retb dX12_in_15 rfl

set_option maxHeartbeats 4000000 in
set_option maxRecDepth 100000 in
theorem sX12_in_14 (w : zWd) : zS gX12_in zEi 14 [] [] w (mX12_in_14 w) := by
  unfold mX12_in_14
  refine zS_iconst 15 rfl (0 : Int32) (by decide) dX12_in_14 ?_
  exact sX12_in_15 _ _

set_option maxHeartbeats 4000000 in
set_option maxRecDepth 100000 in
theorem sX12_in (v0 : Int32) (v1 : Int32) (v2 : Int32) (w : zWd) : zS gX12_in zEi 0 [(0, .int v0), (1, .int v1), (2, .int v2)] [] w (mX12_in v0 v1 v2 w) := by
  unfold mX12_in
  refine zS_iload_n 1 rfl 0 rfl dX12_in_0 ?_
  refine zS_iload_n 2 rfl 1 rfl dX12_in_1 ?_
  refine zS_icmp_lt 14 5 rfl dX12_in_2 (by decide) ?_ ?_
  · refine zS_sub [] (show _ = [] from rfl) ?_
    exact sX12_in_14 _
  · refine zS_iload_n 6 rfl 0 rfl dX12_in_5 ?_
    refine zS_iload_n 7 rfl 2 rfl dX12_in_6 ?_
    refine zS_icmp_gt 14 10 rfl dX12_in_7 (by decide) ?_ ?_
    · refine zS_sub [] (show _ = [] from rfl) ?_
      exact sX12_in_14 _
    · refine zS_iconst 11 rfl (1 : Int32) (by decide) dX12_in_10 ?_
      refine zS_goto 15 dX12_in_11 (by decide) ?_
      refine zS_sub [] (show _ = [] from rfl) ?_
      exact sX12_in_15 _ _

theorem okX12_in (v0 : Int32) (v1 : Int32) (v2 : Int32) (w : zWd) : zOk gX12_in zEi [.int v0, .int v1, .int v2] w (mX12_in v0 v1 v2 w) := zOk_of (by decide) rfl (Nat.le_of_ble_eq_true rfl) (sX12_in v0 v1 v2 w)
abbrev gX12_isCell : zMth := (yX12_isCell, cX12_isCell, 1, (some .boolean), 2, zE0)
theorem cbX12_isCell : zCbS yX12_isCell cX12_isCell 1 (some .boolean) 1 := ⟨zw1194, zw89, zw1195, by decide, by decide, by decide +kernel⟩
set_option maxHeartbeats 4000000 in
set_option maxRecDepth 100000 in
theorem sX12_isCell (v0 : Int32) (w : zWd) : zS gX12_isCell zEi 0 [(0, .int v0)] [] w (mX12_isCell v0 w) := by
  unfold mX12_isCell
  refine zS_iload_n 1 rfl 0 rfl dX12_isCell_0 ?_
  refine zS_iconst 2 rfl (0 : Int32) (by decide) dX12_isCell_1 ?_
  refine zS_bipush 4 rfl (29 : Int32) (by decide) dX12_isCell_2 ?_
  refine zS_cSi (as := [.int _, .int _, .int _]) (st := []) (g' := gX12_in) 7 rfl (okX12_in _ _ _ _) dX12_isCell_4 zw1196 cbX12_in rfl rfl (by decide) (Nat.le_of_ble_eq_true rfl) (fun r1 w2 => ?_)
  exact zS_retb dX12_isCell_7 rfl

theorem okX12_isCell (v0 : Int32) (w : zWd) : zOk gX12_isCell zEi [.int v0] w (mX12_isCell v0 w) := zOk_of (by decide) rfl (Nat.le_of_ble_eq_true rfl) (sX12_isCell v0 w)
abbrev gX12_isTap : zMth := (yX12_isTap, cX12_isTap, 2, (some .boolean), 2, zE0)
theorem cbX12_isTap : zCbV yX12_isTap cX12_isTap 2 (some .boolean) 1 := ⟨zw1271, zw51, zw89, zw1272, by decide, by decide, by decide +kernel⟩
set_option maxHeartbeats 4000000 in
set_option maxRecDepth 100000 in
theorem sX12_isTap (v0 : Nat) (v1 : Int32) (h0 : zShp v0 = (12, 25)) (w : zWd) : zS gX12_isTap zEi 0 [(0, .ref v0), (1, .int v1)] [] w (mX12_isTap v0 v1 w) := by
  unfold mX12_isTap
  refine zS_iload_n 1 rfl 1 rfl dX12_isTap_0 ?_
  refine zS_iconst 2 rfl (0 : Int32) (by decide) dX12_isTap_1 ?_
  refine zS_aload_n 3 rfl 0 rfl dX12_isTap_2 ?_
  refine zS_getfp 6 rfl 1 dX12_isTap_3 zC12 zw1113 (by decide) rfl h0 ?_
  refine zS_iconst 7 rfl (1 : Int32) (by decide) dX12_isTap_6 ?_
  refine zS_iald 8 rfl dX12_isTap_7 (zP12_s h0) ?_
  refine zS_iconst 9 rfl (1 : Int32) (by decide) dX12_isTap_8 ?_
  refine zS_isub 10 rfl dX12_isTap_9 ?_
  refine zS_cSi (as := [.int _, .int _, .int _]) (st := []) (g' := gX12_in) 13 rfl (okX12_in _ _ _ _) dX12_isTap_10 zw1196 cbX12_in rfl rfl (by decide) (Nat.le_of_ble_eq_true rfl) (fun r1 w2 => ?_)
  exact zS_retb dX12_isTap_13 rfl

theorem okX12_isTap (v0 : Nat) (v1 : Int32) (w : zWd) (h0 : zShp v0 = (12, 25)) : zOk gX12_isTap zEi [.ref v0, .int v1] w (mX12_isTap v0 v1 w) := zOk_of (by decide) rfl (Nat.le_of_ble_eq_true rfl) (sX12_isTap v0 v1 h0 w)
abbrev gX12_isTaker : zMth := (yX12_isTaker, cX12_isTaker, 2, (some .boolean), 2, zE0)
theorem cbX12_isTaker : zCbV yX12_isTaker cX12_isTaker 2 (some .boolean) 1 := ⟨zw1351, zw61, zw89, zw1352, by decide, by decide, by decide +kernel⟩
set_option maxHeartbeats 4000000 in
set_option maxRecDepth 100000 in
theorem sX12_isTaker (v0 : Nat) (v1 : Int32) (h0 : zShp v0 = (12, 25)) (w : zWd) : zS gX12_isTaker zEi 0 [(0, .ref v0), (1, .int v1)] [] w (mX12_isTaker v0 v1 w) := by
  unfold mX12_isTaker
  refine zS_iload_n 1 rfl 1 rfl dX12_isTaker_0 ?_
  refine zS_iconst 2 rfl (0 : Int32) (by decide) dX12_isTaker_1 ?_
  refine zS_aload_n 3 rfl 0 rfl dX12_isTaker_2 ?_
  refine zS_getfp 6 rfl 1 dX12_isTaker_3 zC12 zw1113 (by decide) rfl h0 ?_
  refine zS_iconst 7 rfl (3 : Int32) (by decide) dX12_isTaker_6 ?_
  refine zS_iald 8 rfl dX12_isTaker_7 (zP12_s h0) ?_
  refine zS_iconst 9 rfl (1 : Int32) (by decide) dX12_isTaker_8 ?_
  refine zS_isub 10 rfl dX12_isTaker_9 ?_
  refine zS_cSi (as := [.int _, .int _, .int _]) (st := []) (g' := gX12_in) 13 rfl (okX12_in _ _ _ _) dX12_isTaker_10 zw1196 cbX12_in rfl rfl (by decide) (Nat.le_of_ble_eq_true rfl) (fun r1 w2 => ?_)
  exact zS_retb dX12_isTaker_13 rfl

theorem okX12_isTaker (v0 : Nat) (v1 : Int32) (w : zWd) (h0 : zShp v0 = (12, 25)) : zOk gX12_isTaker zEi [.ref v0, .int v1] w (mX12_isTaker v0 v1 w) := zOk_of (by decide) rfl (Nat.le_of_ble_eq_true rfl) (sX12_isTaker v0 v1 h0 w)
abbrev gX12_isDay : zMth := (yX12_isDay, cX12_isDay, 1, (some .boolean), 2, zE0)
theorem cbX12_isDay : zCbS yX12_isDay cX12_isDay 1 (some .boolean) 1 := ⟨zw1319, zw89, zw1320, by decide, by decide, by decide +kernel⟩
set_option maxHeartbeats 4000000 in
set_option maxRecDepth 100000 in
theorem sX12_isDay (v0 : Int32) (w : zWd) : zS gX12_isDay zEi 0 [(0, .int v0)] [] w (mX12_isDay v0 w) := by
  unfold mX12_isDay
  refine zS_iload_n 1 rfl 0 rfl dX12_isDay_0 ?_
  refine zS_iconst 2 rfl (0 : Int32) (by decide) dX12_isDay_1 ?_
  refine zS_sipush 5 rfl (400 : Int32) (by decide) dX12_isDay_2 ?_
  refine zS_cSi (as := [.int _, .int _, .int _]) (st := []) (g' := gX12_in) 8 rfl (okX12_in _ _ _ _) dX12_isDay_5 zw1196 cbX12_in rfl rfl (by decide) (Nat.le_of_ble_eq_true rfl) (fun r1 w2 => ?_)
  exact zS_retb dX12_isDay_8 rfl

theorem okX12_isDay (v0 : Int32) (w : zWd) : zOk gX12_isDay zEi [.int v0] w (mX12_isDay v0 w) := zOk_of (by decide) rfl (Nat.le_of_ble_eq_true rfl) (sX12_isDay v0 w)
abbrev gX12_isGone : zMth := (yX12_isGone, cX12_isGone, 2, (some .boolean), 2, zE0)
theorem cbX12_isGone : zCbV yX12_isGone cX12_isGone 2 (some .boolean) 1 := ⟨zw1295, zw55, zw89, zw1296, by decide, by decide, by decide +kernel⟩
set_option maxHeartbeats 4000000 in
set_option maxRecDepth 100000 in
theorem sX12_isGone (v0 : Nat) (v1 : Int32) (h0 : zShp v0 = (12, 25)) (w : zWd) : zS gX12_isGone zEi 0 [(0, .ref v0), (1, .int v1)] [] w (mX12_isGone v0 v1 w) := by
  unfold mX12_isGone
  refine zS_iload_n 1 rfl 1 rfl dX12_isGone_0 ?_
  refine zS_iconst 2 rfl (0 : Int32) (by decide) dX12_isGone_1 ?_
  refine zS_aload_n 3 rfl 0 rfl dX12_isGone_2 ?_
  refine zS_getfp 6 rfl 1 dX12_isGone_3 zC12 zw1113 (by decide) rfl h0 ?_
  refine zS_iconst 7 rfl (0 : Int32) (by decide) dX12_isGone_6 ?_
  refine zS_iald 8 rfl dX12_isGone_7 (zP12_s h0) ?_
  refine zS_iconst 9 rfl (1 : Int32) (by decide) dX12_isGone_8 ?_
  refine zS_isub 10 rfl dX12_isGone_9 ?_
  refine zS_cSi (as := [.int _, .int _, .int _]) (st := []) (g' := gX12_in) 13 rfl (okX12_in _ _ _ _) dX12_isGone_10 zw1196 cbX12_in rfl rfl (by decide) (Nat.le_of_ble_eq_true rfl) (fun r1 w2 => ?_)
  exact zS_retb dX12_isGone_13 rfl

theorem okX12_isGone (v0 : Nat) (v1 : Int32) (w : zWd) (h0 : zShp v0 = (12, 25)) : zOk gX12_isGone zEi [.ref v0, .int v1] w (mX12_isGone v0 v1 w) := zOk_of (by decide) rfl (Nat.le_of_ble_eq_true rfl) (sX12_isGone v0 v1 h0 w)
abbrev gX12_size : zMth := (yX12_size, cX12_size, 1, (some .int), 1, zE0)
theorem cbX12_size : zCbS yX12_size cX12_size 1 (some .int) 1 := ⟨zw1263, zw89, zw1264, by decide, by decide, by decide +kernel⟩
set_option maxHeartbeats 4000000 in
set_option maxRecDepth 100000 in
theorem sX12_size_10 (s0 : Int32) (w : zWd) : zS gX12_size zEi 10 [] [.int s0] w (mX12_size_10 s0 w) := by
  unfold mX12_size_10
  exact zS_reti dX12_size_10 rfl

set_option maxHeartbeats 4000000 in
set_option maxRecDepth 100000 in
theorem sX12_size (v0 : Int32) (w : zWd) : zS gX12_size zEi 0 [(0, .int v0)] [] w (mX12_size v0 w) := by
  unfold mX12_size
  refine zS_iload_n 1 rfl 0 rfl dX12_size_0 ?_
  refine zS_if_ge 9 4 rfl dX12_size_1 (by decide) ?_ ?_
  · refine zS_iload_n 10 rfl 0 rfl dX12_size_9 ?_
    refine zS_sub [] (show _ = [] from rfl) ?_
    exact sX12_size_10 _ _
  · refine zS_iload_n 5 rfl 0 rfl dX12_size_4 ?_
    refine zS_ineg 6 rfl dX12_size_5 ?_
    refine zS_goto 10 dX12_size_6 (by decide) ?_
    refine zS_sub [] (show _ = [] from rfl) ?_
    exact sX12_size_10 _ _

theorem okX12_size (v0 : Int32) (w : zWd) : zOk gX12_size zEi [.int v0] w (mX12_size v0 w) := zOk_of (by decide) rfl (Nat.le_of_ble_eq_true rfl) (sX12_size v0 w)
abbrev gX12_apart : zMth := (yX12_apart, cX12_apart, 2, (some .int), 2, zE0)
theorem cbX12_apart : zCbS yX12_apart cX12_apart 2 (some .int) 2 := ⟨zw1260, zw89, zw1261, by decide, by decide, by decide +kernel⟩
set_option maxHeartbeats 4000000 in
set_option maxRecDepth 100000 in
theorem sX12_apart (v0 : Int32) (v1 : Int32) (w : zWd) : zS gX12_apart zEi 0 [(0, .int v0), (1, .int v1)] [] w (mX12_apart v0 v1 w) := by
  unfold mX12_apart
  refine zS_iload_n 1 rfl 0 rfl dX12_apart_0 ?_
  refine zS_bipush 3 rfl (6 : Int32) (by decide) dX12_apart_1 ?_
  refine zS_iremC 4 rfl dX12_apart_3 (by decide) ?_
  refine zS_iload_n 5 rfl 1 rfl dX12_apart_4 ?_
  refine zS_bipush 7 rfl (6 : Int32) (by decide) dX12_apart_5 ?_
  refine zS_iremC 8 rfl dX12_apart_7 (by decide) ?_
  refine zS_isub 9 rfl dX12_apart_8 ?_
  refine zS_cSi (as := [.int _]) (st := []) (g' := gX12_size) 12 rfl (okX12_size _ _) dX12_apart_9 zw1262 cbX12_size rfl rfl (by decide) (Nat.le_of_ble_eq_true rfl) (fun r1 w2 => ?_)
  refine zS_iload_n 13 rfl 0 rfl dX12_apart_12 ?_
  refine zS_bipush 15 rfl (6 : Int32) (by decide) dX12_apart_13 ?_
  refine zS_idivC 16 rfl dX12_apart_15 (by decide) ?_
  refine zS_iload_n 17 rfl 1 rfl dX12_apart_16 ?_
  refine zS_bipush 19 rfl (6 : Int32) (by decide) dX12_apart_17 ?_
  refine zS_idivC 20 rfl dX12_apart_19 (by decide) ?_
  refine zS_isub 21 rfl dX12_apart_20 ?_
  refine zS_cSi (as := [.int _]) (st := [.int _]) (g' := gX12_size) 24 rfl (okX12_size _ _) dX12_apart_21 zw1262 cbX12_size rfl rfl (by decide) (Nat.le_of_ble_eq_true rfl) (fun r3 w4 => ?_)
  refine zS_iadd 25 rfl dX12_apart_24 ?_
  exact zS_reti dX12_apart_25 rfl

theorem okX12_apart (v0 : Int32) (v1 : Int32) (w : zWd) : zOk gX12_apart zEi [.int v0, .int v1] w (mX12_apart v0 v1 w) := zOk_of (by decide) rfl (Nat.le_of_ble_eq_true rfl) (sX12_apart v0 v1 w)
abbrev gX12_under : zMth := (yX12_under, cX12_under, 5, (some .int), 3, zE0)
theorem cbX12_under : zCbV yX12_under cX12_under 5 (some .int) 3 := ⟨zw1190, zw1191, zw89, zw1192, by decide, by decide, by decide +kernel⟩
set_option maxHeartbeats 4000000 in
set_option maxRecDepth 100000 in
theorem sX12_under_16 (w : zWd) : zS gX12_under zEi 16 [] [] w (mX12_under_16 w) := by
  unfold mX12_under_16
  refine zS_iconst 17 rfl (-1 : Int32) (by decide) dX12_under_16 ?_
  exact zS_reti dX12_under_17 rfl

set_option maxHeartbeats 4000000 in
set_option maxRecDepth 100000 in
theorem sX12_under_54 (v0 : Nat) (v1 : Int32) (v2 : Int32) (v3 : Int32) (s0 : Int32) (s1 : Int32) (s2 : Int32) (h0 : zShp v0 = (12, 25)) (w : zWd) : zS gX12_under zEi 54 [(0, .ref v0), (1, .int v1), (2, .int v2), (3, .int v3)] [.int s0, .int s1, .int s2] w (mX12_under_54 v0 v1 v2 v3 s0 s1 s2 w) := by
  unfold mX12_under_54
  refine zS_cSi (as := [.int _, .int _, .int _]) (st := []) (g' := gX12_in) 57 rfl (okX12_in _ _ _ _) dX12_under_54 zw1196 cbX12_in rfl rfl (by decide) (Nat.le_of_ble_eq_true rfl) (fun r5 w6 => ?_)
  refine zS_if_ne 63 60 rfl dX12_under_57 (by decide) ?_ ?_
  · refine zS_bipush 62 rfl (-2 : Int32) (by decide) dX12_under_60 ?_
    exact zS_reti dX12_under_62 rfl
  · refine zS_aload_n 64 rfl 0 rfl dX12_under_63 ?_
    refine zS_getfp 67 rfl 1 dX12_under_64 zC12 zw1113 (by decide) rfl h0 ?_
    refine zS_bipush 69 rfl (20 : Int32) (by decide) dX12_under_67 ?_
    refine zS_bipush 71 rfl (30 : Int32) (by decide) dX12_under_69 ?_
    refine zS_iload_n 72 rfl 2 rfl dX12_under_71 ?_
    refine zS_imul 73 rfl dX12_under_72 ?_
    refine zS_iadd 74 rfl dX12_under_73 ?_
    refine zS_iload_n 75 rfl 1 rfl dX12_under_74 ?_
    refine zS_iadd 76 rfl dX12_under_75 ?_
    refine zS_iald 77 rfl dX12_under_76 (zP12_s h0) ?_
    refine zS_bni (fun x7 => ?_)
    refine zS_istore 79 rfl dX12_under_77 (by show 4 < 5; decide) (show _ = [(4, .int _), (0, .ref _), (1, .int _), (2, .int _), (3, .int _)] from rfl) ?_
    refine zS_aload_n 80 rfl 1 rfl dX12_under_79 ?_
    refine zS_getfp 83 rfl 1 dX12_under_80 zC12 zw1113 (by decide) rfl h0 ?_
    refine zS_bipush 85 rfl (20 : Int32) (by decide) dX12_under_83 ?_
    refine zS_bipush 87 rfl (30 : Int32) (by decide) dX12_under_85 ?_
    refine zS_iload_n 88 rfl 3 rfl dX12_under_87 ?_
    refine zS_imul 89 rfl dX12_under_88 ?_
    refine zS_iadd 90 rfl dX12_under_89 ?_
    refine zS_iload_n 91 rfl 2 rfl dX12_under_90 ?_
    refine zS_iadd 92 rfl dX12_under_91 ?_
    refine zS_iload_n 93 rfl 4 rfl dX12_under_92 ?_
    refine zS_iast 94 rfl dX12_under_93 (zP12_s h0) ?_
    refine zS_bnw (fun w8 => ?_)
    refine zS_iload 96 rfl 0 rfl dX12_under_94 ?_
    exact zS_reti dX12_under_96 rfl

set_option maxHeartbeats 4000000 in
set_option maxRecDepth 100000 in
theorem sX12_under (v0 : Nat) (v1 : Int32) (v2 : Int32) (v3 : Int32) (h0 : zShp v0 = (12, 25)) (w : zWd) : zS gX12_under zEi 0 [(0, .ref v0), (1, .int v1), (2, .int v2), (3, .int v3)] [] w (mX12_under v0 v1 v2 v3 w) := by
  unfold mX12_under
  refine zS_iload_n 1 rfl 1 rfl dX12_under_0 ?_
  refine zS_cSi (as := [.int _]) (st := []) (g' := gX12_isCell) 4 rfl (okX12_isCell _ _) dX12_under_1 zw1193 cbX12_isCell rfl rfl (by decide) (Nat.le_of_ble_eq_true rfl) (fun r1 w2 => ?_)
  refine zS_if_eq 16 7 rfl dX12_under_4 (by decide) ?_ ?_
  · refine zS_sub [] (show _ = [] from rfl) ?_
    exact sX12_under_16 _
  · refine zS_iload_n 8 rfl 2 rfl dX12_under_7 ?_
    refine zS_iconst 9 rfl (0 : Int32) (by decide) dX12_under_8 ?_
    refine zS_iconst 10 rfl (3 : Int32) (by decide) dX12_under_9 ?_
    refine zS_cSi (as := [.int _, .int _, .int _]) (st := []) (g' := gX12_in) 13 rfl (okX12_in _ _ _ _) dX12_under_10 zw1196 cbX12_in rfl rfl (by decide) (Nat.le_of_ble_eq_true rfl) (fun r3 w4 => ?_)
    refine zS_if_ne 18 16 rfl dX12_under_13 (by decide) ?_ ?_
    · refine zS_sub [] (show _ = [] from rfl) ?_
      exact sX12_under_16 _
    · refine zS_iload_n 19 rfl 3 rfl dX12_under_18 ?_
      refine zS_iconst 20 rfl (0 : Int32) (by decide) dX12_under_19 ?_
      refine zS_iload_n 21 rfl 2 rfl dX12_under_20 ?_
      refine zS_if_ne 30 24 rfl dX12_under_21 (by decide) ?_ ?_
      · refine zS_sipush 27 rfl (1500 : Int32) (by decide) dX12_under_24 ?_
        refine zS_goto 54 dX12_under_27 (by decide) ?_
        exact sX12_under_54 _ _ _ _ _ _ _ h0 _
      · refine zS_iload_n 31 rfl 2 rfl dX12_under_30 ?_
        refine zS_iconst 32 rfl (1 : Int32) (by decide) dX12_under_31 ?_
        refine zS_icmp_ne 41 35 rfl dX12_under_32 (by decide) ?_ ?_
        · refine zS_sipush 38 rfl (9999 : Int32) (by decide) dX12_under_35 ?_
          refine zS_goto 54 dX12_under_38 (by decide) ?_
          exact sX12_under_54 _ _ _ _ _ _ _ h0 _
        · refine zS_iload_n 42 rfl 2 rfl dX12_under_41 ?_
          refine zS_iconst 43 rfl (2 : Int32) (by decide) dX12_under_42 ?_
          refine zS_icmp_ne 51 46 rfl dX12_under_43 (by decide) ?_ ?_
          · refine zS_bipush 48 rfl (99 : Int32) (by decide) dX12_under_46 ?_
            refine zS_goto 54 dX12_under_48 (by decide) ?_
            exact sX12_under_54 _ _ _ _ _ _ _ h0 _
          · refine zS_sipush 54 rfl (999 : Int32) (by decide) dX12_under_51 ?_
            exact sX12_under_54 _ _ _ _ _ _ _ h0 _

theorem okX12_under (v0 : Nat) (v1 : Int32) (v2 : Int32) (v3 : Int32) (w : zWd) (h0 : zShp v0 = (12, 25)) : zOk gX12_under zEi [.ref v0, .int v1, .int v2, .int v3] w (mX12_under v0 v1 v2 v3 w) := zOk_of (by decide) rfl (Nat.le_of_ble_eq_true rfl) (sX12_under v0 v1 v2 v3 h0 w)
abbrev gX12_cell : zMth := (yX12_cell, cX12_cell, 3, (some .int), 3, zE0)
theorem cbX12_cell : zCbV yX12_cell cX12_cell 3 (some .int) 2 := ⟨zw1200, zw1201, zw89, zw1202, by decide, by decide, by decide +kernel⟩
set_option maxHeartbeats 4000000 in
set_option maxRecDepth 100000 in
theorem sX12_cell_34 (s0 : Int32) (w : zWd) : zS gX12_cell zEi 34 [] [.int s0] w (mX12_cell_34 s0 w) := by
  unfold mX12_cell_34
  exact zS_reti dX12_cell_34 rfl

set_option maxHeartbeats 4000000 in
set_option maxRecDepth 100000 in
theorem sX12_cell_33 (w : zWd) : zS gX12_cell zEi 33 [] [] w (mX12_cell_33 w) := by
  unfold mX12_cell_33
  refine zS_iconst 34 rfl (-1 : Int32) (by decide) dX12_cell_33 ?_
  exact sX12_cell_34 _ _

set_option maxHeartbeats 4000000 in
set_option maxRecDepth 100000 in
theorem sX12_cell (v0 : Nat) (v1 : Int32) (v2 : Int32) (h0 : zShp v0 = (12, 25)) (w : zWd) : zS gX12_cell zEi 0 [(0, .ref v0), (1, .int v1), (2, .int v2)] [] w (mX12_cell v0 v1 v2 w) := by
  unfold mX12_cell
  refine zS_iload_n 1 rfl 1 rfl dX12_cell_0 ?_
  refine zS_cSi (as := [.int _]) (st := []) (g' := gX12_isCell) 4 rfl (okX12_isCell _ _) dX12_cell_1 zw1193 cbX12_isCell rfl rfl (by decide) (Nat.le_of_ble_eq_true rfl) (fun r1 w2 => ?_)
  refine zS_if_eq 33 7 rfl dX12_cell_4 (by decide) ?_ ?_
  · refine zS_sub [] (show _ = [] from rfl) ?_
    exact sX12_cell_33 _
  · refine zS_iload_n 8 rfl 2 rfl dX12_cell_7 ?_
    refine zS_iconst 9 rfl (0 : Int32) (by decide) dX12_cell_8 ?_
    refine zS_iconst 10 rfl (3 : Int32) (by decide) dX12_cell_9 ?_
    refine zS_cSi (as := [.int _, .int _, .int _]) (st := []) (g' := gX12_in) 13 rfl (okX12_in _ _ _ _) dX12_cell_10 zw1196 cbX12_in rfl rfl (by decide) (Nat.le_of_ble_eq_true rfl) (fun r3 w4 => ?_)
    refine zS_if_eq 33 16 rfl dX12_cell_13 (by decide) ?_ ?_
    · refine zS_sub [] (show _ = [] from rfl) ?_
      exact sX12_cell_33 _
    · refine zS_aload_n 17 rfl 0 rfl dX12_cell_16 ?_
      refine zS_getfp 20 rfl 1 dX12_cell_17 zC12 zw1113 (by decide) rfl h0 ?_
      refine zS_bipush 22 rfl (20 : Int32) (by decide) dX12_cell_20 ?_
      refine zS_bipush 24 rfl (30 : Int32) (by decide) dX12_cell_22 ?_
      refine zS_iload_n 25 rfl 2 rfl dX12_cell_24 ?_
      refine zS_imul 26 rfl dX12_cell_25 ?_
      refine zS_iadd 27 rfl dX12_cell_26 ?_
      refine zS_iload_n 28 rfl 1 rfl dX12_cell_27 ?_
      refine zS_iadd 29 rfl dX12_cell_28 ?_
      refine zS_iald 30 rfl dX12_cell_29 (zP12_s h0) ?_
      refine zS_goto 34 dX12_cell_30 (by decide) ?_
      refine zS_sub [] (show _ = [] from rfl) ?_
      exact sX12_cell_34 _ _

theorem okX12_cell (v0 : Nat) (v1 : Int32) (v2 : Int32) (w : zWd) (h0 : zShp v0 = (12, 25)) : zOk gX12_cell zEi [.ref v0, .int v1, .int v2] w (mX12_cell v0 v1 v2 w) := zOk_of (by decide) rfl (Nat.le_of_ble_eq_true rfl) (sX12_cell v0 v1 v2 h0 w)
abbrev gX12_here : zMth := (yX12_here, cX12_here, 1, (some .int), 1, zE0)
theorem cbX12_here : zCbV yX12_here cX12_here 1 (some .int) 0 := ⟨zw1245, zw47, zw89, zw1246, by decide, by decide, by decide +kernel⟩
set_option maxHeartbeats 4000000 in
set_option maxRecDepth 100000 in
theorem sX12_here_45 (s0 : Int32) (w : zWd) : zS gX12_here zEi 45 [] [.int s0] w (mX12_here_45 s0 w) := by
  unfold mX12_here_45
  exact zS_reti dX12_here_45 rfl

set_option maxHeartbeats 4000000 in
set_option maxRecDepth 100000 in
theorem sX12_here (v0 : Nat) (h0 : zShp v0 = (12, 25)) (w : zWd) : zS gX12_here zEi 0 [(0, .ref v0)] [] w (mX12_here v0 w) := by
  unfold mX12_here
  refine zS_aload_n 1 rfl 0 rfl dX12_here_0 ?_
  refine zS_getfi 4 rfl 11 dX12_here_1 zC12 zw1123 (by decide) rfl h0 ?_
  refine zS_aload_n 5 rfl 0 rfl dX12_here_4 ?_
  refine zS_getfp 8 rfl 1 dX12_here_5 zC12 zw1113 (by decide) rfl h0 ?_
  refine zS_sipush 11 rfl (252 : Int32) (by decide) dX12_here_8 ?_
  refine zS_aload_n 12 rfl 0 rfl dX12_here_11 ?_
  refine zS_getfi 15 rfl 10 dX12_here_12 zC12 zw1122 (by decide) rfl h0 ?_
  refine zS_iadd 16 rfl dX12_here_15 ?_
  refine zS_iald 17 rfl dX12_here_16 (zP12_s h0) ?_
  refine zS_icmp_ge 44 20 rfl dX12_here_17 (by decide) ?_ ?_
  · refine zS_iconst 45 rfl (-1 : Int32) (by decide) dX12_here_44 ?_
    refine zS_sub [] (show _ = [] from rfl) ?_
    exact sX12_here_45 _ _
  · refine zS_aload_n 21 rfl 0 rfl dX12_here_20 ?_
    refine zS_getfp 24 rfl 1 dX12_here_21 zC12 zw1113 (by decide) rfl h0 ?_
    refine zS_sipush 27 rfl (264 : Int32) (by decide) dX12_here_24 ?_
    refine zS_bipush 29 rfl (120 : Int32) (by decide) dX12_here_27 ?_
    refine zS_aload_n 30 rfl 0 rfl dX12_here_29 ?_
    refine zS_getfi 33 rfl 10 dX12_here_30 zC12 zw1122 (by decide) rfl h0 ?_
    refine zS_imul 34 rfl dX12_here_33 ?_
    refine zS_iadd 35 rfl dX12_here_34 ?_
    refine zS_aload_n 36 rfl 0 rfl dX12_here_35 ?_
    refine zS_getfi 39 rfl 11 dX12_here_36 zC12 zw1123 (by decide) rfl h0 ?_
    refine zS_iadd 40 rfl dX12_here_39 ?_
    refine zS_iald 41 rfl dX12_here_40 (zP12_s h0) ?_
    refine zS_goto 45 dX12_here_41 (by decide) ?_
    refine zS_sub [] (show _ = [] from rfl) ?_
    exact sX12_here_45 _ _

theorem okX12_here (v0 : Nat) (w : zWd) (h0 : zShp v0 = (12, 25)) : zOk gX12_here zEi [.ref v0] w (mX12_here v0 w) := zOk_of (by decide) rfl (Nat.le_of_ble_eq_true rfl) (sX12_here v0 h0 w)
abbrev gX12_must : zMth := (yX12_must, cX12_must, 2, none, 2, zE0)
theorem cbX12_must : zCbV yX12_must cX12_must 2 none 1 := ⟨zw1249, zw48, zw89, zw1250, by decide, by decide, by decide +kernel⟩
set_option maxHeartbeats 4000000 in
set_option maxRecDepth 100000 in
theorem sX12_must_41 (s0 : Int32) (s1 : Int32) (s2 : Nat) (t2 : zShp s2 = (12, 25)) (w : zWd) : zS gX12_must zEv 41 [] [.int s0, .int s1, .ref s2] w (mX12_must_41 s0 s1 s2 w) := by
  unfold mX12_must_41
  refine zS_iadd 42 rfl dX12_must_41 ?_
  refine zS_putfi 45 rfl 11 dX12_must_42 zC12 zw1123 (by decide) rfl rfl rfl t2 ?_
  refine zS_bnw (fun w4 => ?_)
  exact zS_retv dX12_must_45 rfl

set_option maxHeartbeats 4000000 in
set_option maxRecDepth 100000 in
theorem sX12_must_21 (v0 : Nat) (s0 : Int32) (s1 : Nat) (h0 : zShp v0 = (12, 25)) (t1 : zShp s1 = (12, 25)) (w : zWd) : zS gX12_must zEv 21 [(0, .ref v0)] [.int s0, .ref s1] w (mX12_must_21 v0 s0 s1 w) := by
  unfold mX12_must_21
  refine zS_putfb 24 rfl 12 dX12_must_21 zC12 zw1124 (by decide) rfl rfl rfl t1 ?_
  refine zS_bnw (fun w3 => ?_)
  refine zS_aload_n 25 rfl 0 rfl dX12_must_24 ?_
  refine zS_dup 26 rfl rfl dX12_must_25 ?_
  refine zS_getfi 29 rfl 11 dX12_must_26 zC12 zw1123 (by decide) rfl h0 ?_
  refine zS_aload_n 30 rfl 0 rfl dX12_must_29 ?_
  refine zS_getfi 33 rfl 12 dX12_must_30 zC12 zw1124 (by decide) rfl h0 ?_
  refine zS_if_eq 40 36 rfl dX12_must_33 (by decide) ?_ ?_
  · refine zS_iconst 41 rfl (1 : Int32) (by decide) dX12_must_40 ?_
    refine zS_sub [] (show _ = [] from rfl) ?_
    exact sX12_must_41 _ _ _ h0 _
  · refine zS_iconst 37 rfl (0 : Int32) (by decide) dX12_must_36 ?_
    refine zS_goto 41 dX12_must_37 (by decide) ?_
    refine zS_sub [] (show _ = [] from rfl) ?_
    exact sX12_must_41 _ _ _ h0 _

set_option maxHeartbeats 4000000 in
set_option maxRecDepth 100000 in
theorem sX12_must_16 (v0 : Nat) (s0 : Nat) (h0 : zShp v0 = (12, 25)) (t0 : zShp s0 = (12, 25)) (w : zWd) : zS gX12_must zEv 16 [(0, .ref v0)] [.ref s0] w (mX12_must_16 v0 s0 w) := by
  unfold mX12_must_16
  refine zS_iconst 17 rfl (1 : Int32) (by decide) dX12_must_16 ?_
  refine zS_goto 21 dX12_must_17 (by decide) ?_
  exact sX12_must_21 _ _ _ h0 t0 _

set_option maxHeartbeats 4000000 in
set_option maxRecDepth 100000 in
theorem sX12_must (v0 : Nat) (v1 : Int32) (h0 : zShp v0 = (12, 25)) (w : zWd) : zS gX12_must zEv 0 [(0, .ref v0), (1, .int v1)] [] w (mX12_must v0 v1 w) := by
  unfold mX12_must
  refine zS_aload_n 1 rfl 0 rfl dX12_must_0 ?_
  refine zS_aload_n 2 rfl 0 rfl dX12_must_1 ?_
  refine zS_getfi 5 rfl 12 dX12_must_2 zC12 zw1124 (by decide) rfl h0 ?_
  refine zS_if_ne 16 8 rfl dX12_must_5 (by decide) ?_ ?_
  · refine zS_aload_n 9 rfl 0 rfl dX12_must_8 ?_
    refine zS_cVi (as := []) (st := [.ref _]) (g' := gX12_here) 12 rfl (okX12_here _ _ h0) dX12_must_9 zC12 h0 zw1243 cbX12_here rfl rfl (by decide) (Nat.le_of_ble_eq_true rfl) (fun r1 w2 => ?_)
    refine zS_iload_n 13 rfl 1 rfl dX12_must_12 ?_
    refine zS_icmp_eq 20 16 rfl dX12_must_13 (by decide) ?_ ?_
    · refine zS_iconst 21 rfl (0 : Int32) (by decide) dX12_must_20 ?_
      refine zS_sub [0] (show _ = [(0, .ref _)] from rfl) ?_
      exact sX12_must_21 _ _ _ h0 h0 _
    · refine zS_sub [0] (show _ = [(0, .ref _)] from rfl) ?_
      exact sX12_must_16 _ _ h0 h0 _
  · refine zS_sub [0] (show _ = [(0, .ref _)] from rfl) ?_
    exact sX12_must_16 _ _ h0 h0 _

theorem okX12_must (v0 : Nat) (v1 : Int32) (w : zWd) (h0 : zShp v0 = (12, 25)) : zOk gX12_must zEv [.ref v0, .int v1] w (mX12_must v0 v1 w) := zOk_of (by decide) rfl (Nat.le_of_ble_eq_true rfl) (sX12_must v0 v1 h0 w)
abbrev gX12_number : zMth := (yX12_number, cX12_number, 3, (some .int), 2, zE0)
theorem cbX12_number : zCbV yX12_number cX12_number 3 (some .int) 0 := ⟨zw1253, zw49, zw89, zw1254, by decide, by decide, by decide +kernel⟩
set_option maxHeartbeats 4000000 in
set_option maxRecDepth 100000 in
theorem sX12_number_97 (v1 : Int32) (w : zWd) : zS gX12_number zEi 97 [(1, .int v1)] [] w (mX12_number_97 v1 w) := by
  unfold mX12_number_97
  refine zS_iload_n 98 rfl 0 rfl dX12_number_97 ?_
  exact zS_reti dX12_number_98 rfl

set_option maxHeartbeats 4000000 in
set_option maxRecDepth 100000 in
theorem sX12_number_68 (k34 : Int32 × Int32 × zWd → Option (Int32 × zWd)) (v0 : Nat) (v1 : Int32) (v2 : Int32) (hk34 : ∀ (v1 : Int32) (v2 : Int32) (w : zWd), zS gX12_number zEi 34 [(0, .ref v0), (1, .int v1), (2, .int v2)] [] w (k34 (v1, v2, w))) (h0 : zShp v0 = (12, 25)) (w : zWd) : zS gX12_number zEi 68 [(0, .ref v0), (1, .int v1), (2, .int v2)] [] w (mX12_number_68 k34 v0 v1 v2 w) := by
  unfold mX12_number_68
  refine zS_bipush 70 rfl (10 : Int32) (by decide) dX12_number_68 ?_
  refine zS_iload_n 71 rfl 1 rfl dX12_number_70 ?_
  refine zS_imul 72 rfl dX12_number_71 ?_
  refine zS_aload_n 73 rfl 0 rfl dX12_number_72 ?_
  refine zS_cVi (as := []) (st := [.int _]) (g' := gX12_here) 76 rfl (okX12_here _ _ h0) dX12_number_73 zC12 h0 zw1243 cbX12_here rfl rfl (by decide) (Nat.le_of_ble_eq_true rfl) (fun r10 w11 => ?_)
  refine zS_iadd 77 rfl dX12_number_76 ?_
  refine zS_bipush 79 rfl (48 : Int32) (by decide) dX12_number_77 ?_
  refine zS_isub 80 rfl dX12_number_79 ?_
  refine zS_bni (fun x12 => ?_)
  refine zS_istore_n 81 rfl dX12_number_80 (by show 1 < 3; decide) (show _ = [(1, .int _), (0, .ref _), (2, .int _)] from rfl) ?_
  refine zS_aload_n 82 rfl 1 rfl dX12_number_81 ?_
  refine zS_dup 83 rfl rfl dX12_number_82 ?_
  refine zS_getfi 86 rfl 11 dX12_number_83 zC12 zw1123 (by decide) rfl h0 ?_
  refine zS_iconst 87 rfl (1 : Int32) (by decide) dX12_number_86 ?_
  refine zS_iadd 88 rfl dX12_number_87 ?_
  refine zS_putfi 91 rfl 11 dX12_number_88 zC12 zw1123 (by decide) rfl rfl rfl h0 ?_
  refine zS_bnw (fun w13 => ?_)
  refine zS_iinc 94 rfl 2 (_ + (1 : Int32)) dX12_number_91 rfl (by show 2 < 3; decide) rfl (show _ = [(2, .int _), (1, .int _), (0, .ref _)] from rfl) ?_
  refine zS_goto 34 dX12_number_94 (by decide) ?_
  refine zS_sub [2, 1, 0] (show _ = [(0, .ref _), (1, .int _), (2, .int _)] from rfl) ?_
  exact hk34 _ _ _

set_option maxHeartbeats 4000000 in
set_option maxRecDepth 100000 in
theorem sX12_number_34b (v0 : Nat) (k34 : Int32 × Int32 × zWd → Option (Int32 × zWd)) (v1 : Int32) (v2 : Int32) (hk34 : ∀ (v1 : Int32) (v2 : Int32) (w : zWd), zS gX12_number zEi 34 [(0, .ref v0), (1, .int v1), (2, .int v2)] [] w (k34 (v1, v2, w))) (h0 : zShp v0 = (12, 25)) (w : zWd) : zS gX12_number zEi 34 [(0, .ref v0), (1, .int v1), (2, .int v2)] [] w (mX12_number_34b v0 k34 v1 v2 w) := by
  unfold mX12_number_34b
  refine zS_iload_n 35 rfl 2 rfl dX12_number_34 ?_
  refine zS_iconst 36 rfl (3 : Int32) (by decide) dX12_number_35 ?_
  refine zS_icmp_ge 97 39 rfl dX12_number_36 (by decide) ?_ ?_
  · refine zS_sub [1] (show _ = [(1, .int _)] from rfl) ?_
    exact sX12_number_97 _ _
  · refine zS_aload_n 40 rfl 0 rfl dX12_number_39 ?_
    refine zS_getfi 43 rfl 12 dX12_number_40 zC12 zw1124 (by decide) rfl h0 ?_
    refine zS_if_ne 97 46 rfl dX12_number_43 (by decide) ?_ ?_
    · refine zS_aload_n 47 rfl 0 rfl dX12_number_46 ?_
      refine zS_cVi (as := []) (st := []) (g' := gX12_here) 50 rfl (okX12_here _ _ h0) dX12_number_47 zC12 h0 zw1243 cbX12_here rfl rfl (by decide) (Nat.le_of_ble_eq_true rfl) (fun r6 w7 => ?_)
      refine zS_bipush 52 rfl (48 : Int32) (by decide) dX12_number_50 ?_
      refine zS_bipush 54 rfl (57 : Int32) (by decide) dX12_number_52 ?_
      refine zS_cSi (as := [.int _, .int _, .int _]) (st := []) (g' := gX12_in) 57 rfl (okX12_in _ _ _ _) dX12_number_54 zw1196 cbX12_in rfl rfl (by decide) (Nat.le_of_ble_eq_true rfl) (fun r8 w9 => ?_)
      refine zS_if_eq 97 60 rfl dX12_number_57 (by decide) ?_ ?_
      · refine zS_sub [1] (show _ = [(1, .int _)] from rfl) ?_
        exact sX12_number_97 _ _
      · refine zS_iload_n 61 rfl 2 rfl dX12_number_60 ?_
        refine zS_if_eq 68 64 rfl dX12_number_61 (by decide) ?_ ?_
        · exact sX12_number_68 k34 _ _ _ hk34 h0 _
        · refine zS_iload_n 65 rfl 1 rfl dX12_number_64 ?_
          refine zS_if_le 97 68 rfl dX12_number_65 (by decide) ?_ ?_
          · refine zS_sub [1] (show _ = [(1, .int _)] from rfl) ?_
            exact sX12_number_97 _ _
          · exact sX12_number_68 k34 _ _ _ hk34 h0 _
    · refine zS_sub [1] (show _ = [(1, .int _)] from rfl) ?_
      exact sX12_number_97 _ _

theorem sX12_number_34 (v0 : Nat) (v1 : Int32) (v2 : Int32) (h0 : zShp v0 = (12, 25)) (w : zWd) : zS gX12_number zEi 34 [(0, .ref v0), (1, .int v1), (2, .int v2)] [] w (mX12_number_34 v0 v1 v2 w) :=
  zS_loop (L := fun q : Int32 × Int32 × zWd => [(0, .ref v0), (1, .int q.1), (2, .int q.2.1)]) (V := fun q => q.2.2) (T := fun _ => []) (F := fun k q => mX12_number_34b v0 k q.1 q.2.1 q.2.2) (fun k hk q => sX12_number_34b v0 k q.1 q.2.1 (fun a1 a2 w => hk (a1, a2, w)) h0 q.2.2) zFU (v1, v2, w)
set_option maxHeartbeats 4000000 in
set_option maxRecDepth 100000 in
theorem sX12_number_27 (v0 : Nat) (s0 : Int32) (s1 : Nat) (h0 : zShp v0 = (12, 25)) (t1 : zShp s1 = (12, 25)) (w : zWd) : zS gX12_number zEi 27 [(0, .ref v0)] [.int s0, .ref s1] w (mX12_number_27 v0 s0 s1 w) := by
  unfold mX12_number_27
  refine zS_putfb 30 rfl 12 dX12_number_27 zC12 zw1124 (by decide) rfl rfl rfl t1 ?_
  refine zS_bnw (fun w5 => ?_)
  refine zS_iconst 31 rfl (0 : Int32) (by decide) dX12_number_30 ?_
  refine zS_istore_n 32 rfl dX12_number_31 (by show 1 < 3; decide) (show _ = [(1, .int _), (0, .ref _)] from rfl) ?_
  refine zS_iconst 33 rfl (0 : Int32) (by decide) dX12_number_32 ?_
  refine zS_istore_n 34 rfl dX12_number_33 (by show 2 < 3; decide) (show _ = [(2, .int _), (1, .int _), (0, .ref _)] from rfl) ?_
  refine zS_sub [2, 1, 0] (show _ = [(0, .ref _), (1, .int _), (2, .int _)] from rfl) ?_
  exact sX12_number_34 _ _ _ h0 _

set_option maxHeartbeats 4000000 in
set_option maxRecDepth 100000 in
theorem sX12_number_22 (v0 : Nat) (s0 : Nat) (h0 : zShp v0 = (12, 25)) (t0 : zShp s0 = (12, 25)) (w : zWd) : zS gX12_number zEi 22 [(0, .ref v0)] [.ref s0] w (mX12_number_22 v0 s0 w) := by
  unfold mX12_number_22
  refine zS_iconst 23 rfl (1 : Int32) (by decide) dX12_number_22 ?_
  refine zS_goto 27 dX12_number_23 (by decide) ?_
  exact sX12_number_27 _ _ _ h0 t0 _

set_option maxHeartbeats 4000000 in
set_option maxRecDepth 100000 in
theorem sX12_number (v0 : Nat) (h0 : zShp v0 = (12, 25)) (w : zWd) : zS gX12_number zEi 0 [(0, .ref v0)] [] w (mX12_number v0 w) := by
  unfold mX12_number
  refine zS_aload_n 1 rfl 0 rfl dX12_number_0 ?_
  refine zS_aload_n 2 rfl 0 rfl dX12_number_1 ?_
  refine zS_getfi 5 rfl 12 dX12_number_2 zC12 zw1124 (by decide) rfl h0 ?_
  refine zS_if_ne 22 8 rfl dX12_number_5 (by decide) ?_ ?_
  · refine zS_aload_n 9 rfl 0 rfl dX12_number_8 ?_
    refine zS_cVi (as := []) (st := [.ref _]) (g' := gX12_here) 12 rfl (okX12_here _ _ h0) dX12_number_9 zC12 h0 zw1243 cbX12_here rfl rfl (by decide) (Nat.le_of_ble_eq_true rfl) (fun r1 w2 => ?_)
    refine zS_bipush 14 rfl (48 : Int32) (by decide) dX12_number_12 ?_
    refine zS_bipush 16 rfl (57 : Int32) (by decide) dX12_number_14 ?_
    refine zS_cSi (as := [.int _, .int _, .int _]) (st := [.ref _]) (g' := gX12_in) 19 rfl (okX12_in _ _ _ _) dX12_number_16 zw1196 cbX12_in rfl rfl (by decide) (Nat.le_of_ble_eq_true rfl) (fun r3 w4 => ?_)
    refine zS_if_ne 26 22 rfl dX12_number_19 (by decide) ?_ ?_
    · exact sX12_number_22 _ _ h0 h0 _
    · refine zS_iconst 27 rfl (0 : Int32) (by decide) dX12_number_26 ?_
      exact sX12_number_27 _ _ _ h0 h0 _
  · exact sX12_number_22 _ _ h0 h0 _

theorem okX12_number (v0 : Nat) (w : zWd) (h0 : zShp v0 = (12, 25)) : zOk gX12_number zEi [.ref v0] w (mX12_number v0 w) := zOk_of (by decide) rfl (Nat.le_of_ble_eq_true rfl) (sX12_number v0 h0 w)
abbrev gX12_told : zMth := (yX12_told, cX12_told, 3, (some .int), 1, zE0)
theorem cbX12_told : zCbV yX12_told cX12_told 3 (some .int) 1 := ⟨zw1257, zw50, zw89, zw1258, by decide, by decide, by decide +kernel⟩
set_option maxHeartbeats 4000000 in
set_option maxRecDepth 100000 in
theorem sX12_told_61 (v0 : Nat) (s0 : Int32) (h0 : zShp v0 = (12, 25)) (w : zWd) : zS gX12_told zEi 61 [(0, .ref v0)] [.int s0] w (mX12_told_61 v0 s0 w) := by
  unfold mX12_told_61
  refine zS_istore_n 62 rfl dX12_told_61 (by show 2 < 3; decide) (show _ = [(2, .int _), (0, .ref _)] from rfl) ?_
  refine zS_aload_n 63 rfl 1 rfl dX12_told_62 ?_
  refine zS_getfp 66 rfl 1 dX12_told_63 zC12 zw1113 (by decide) rfl h0 ?_
  refine zS_iload_n 67 rfl 0 rfl dX12_told_66 ?_
  refine zS_aload_n 68 rfl 1 rfl dX12_told_67 ?_
  refine zS_getfi 71 rfl 14 dX12_told_68 zC12 zw1126 (by decide) rfl h0 ?_
  refine zS_iadd 72 rfl dX12_told_71 ?_
  refine zS_iald 73 rfl dX12_told_72 (zP12_s h0) ?_
  exact zS_reti dX12_told_73 rfl

set_option maxHeartbeats 4000000 in
set_option maxRecDepth 100000 in
theorem sX12_told (v0 : Nat) (v1 : Int32) (h0 : zShp v0 = (12, 25)) (w : zWd) : zS gX12_told zEi 0 [(0, .ref v0), (1, .int v1)] [] w (mX12_told v0 v1 w) := by
  unfold mX12_told
  refine zS_aload_n 1 rfl 0 rfl dX12_told_0 ?_
  refine zS_getfi 4 rfl 14 dX12_told_1 zC12 zw1126 (by decide) rfl h0 ?_
  refine zS_iconst 5 rfl (-1 : Int32) (by decide) dX12_told_4 ?_
  refine zS_icmp_ne 10 8 rfl dX12_told_5 (by decide) ?_ ?_
  · refine zS_iconst 9 rfl (0 : Int32) (by decide) dX12_told_8 ?_
    exact zS_reti dX12_told_9 rfl
  · refine zS_iload_n 11 rfl 1 rfl dX12_told_10 ?_
    refine zS_bipush 13 rfl (107 : Int32) (by decide) dX12_told_11 ?_
    refine zS_icmp_ne 22 16 rfl dX12_told_13 (by decide) ?_ ?_
    · refine zS_sipush 19 rfl (2000 : Int32) (by decide) dX12_told_16 ?_
      refine zS_goto 61 dX12_told_19 (by decide) ?_
      refine zS_sub [0] (show _ = [(0, .ref _)] from rfl) ?_
      exact sX12_told_61 _ _ h0 _
    · refine zS_iload_n 23 rfl 1 rfl dX12_told_22 ?_
      refine zS_bipush 25 rfl (116 : Int32) (by decide) dX12_told_23 ?_
      refine zS_icmp_ne 34 28 rfl dX12_told_25 (by decide) ?_ ?_
      · refine zS_sipush 31 rfl (2008 : Int32) (by decide) dX12_told_28 ?_
        refine zS_goto 61 dX12_told_31 (by decide) ?_
        refine zS_sub [0] (show _ = [(0, .ref _)] from rfl) ?_
        exact sX12_told_61 _ _ h0 _
      · refine zS_iload_n 35 rfl 1 rfl dX12_told_34 ?_
        refine zS_bipush 37 rfl (110 : Int32) (by decide) dX12_told_35 ?_
        refine zS_icmp_ne 46 40 rfl dX12_told_37 (by decide) ?_ ?_
        · refine zS_sipush 43 rfl (2016 : Int32) (by decide) dX12_told_40 ?_
          refine zS_goto 61 dX12_told_43 (by decide) ?_
          refine zS_sub [0] (show _ = [(0, .ref _)] from rfl) ?_
          exact sX12_told_61 _ _ h0 _
        · refine zS_iload_n 47 rfl 1 rfl dX12_told_46 ?_
          refine zS_bipush 49 rfl (115 : Int32) (by decide) dX12_told_47 ?_
          refine zS_icmp_ne 58 52 rfl dX12_told_49 (by decide) ?_ ?_
          · refine zS_sipush 55 rfl (2032 : Int32) (by decide) dX12_told_52 ?_
            refine zS_goto 61 dX12_told_55 (by decide) ?_
            refine zS_sub [0] (show _ = [(0, .ref _)] from rfl) ?_
            exact sX12_told_61 _ _ h0 _
          · refine zS_sipush 61 rfl (2024 : Int32) (by decide) dX12_told_58 ?_
            refine zS_sub [0] (show _ = [(0, .ref _)] from rfl) ?_
            exact sX12_told_61 _ _ h0 _

theorem okX12_told (v0 : Nat) (v1 : Int32) (w : zWd) (h0 : zShp v0 = (12, 25)) : zOk gX12_told zEi [.ref v0, .int v1] w (mX12_told v0 v1 w) := zOk_of (by decide) rfl (Nat.le_of_ble_eq_true rfl) (sX12_told v0 v1 h0 w)
abbrev gX12_some (n : Nat) : zMth := (yX12_some, cX12_some, 3, (some .boolean), 3 + n, zE0)
theorem cbX12_some : zCbV yX12_some cX12_some 3 (some .boolean) 0 := ⟨zw1233, zw44, zw89, zw1234, by decide, by decide, by decide +kernel⟩
abbrev gX12_every (n : Nat) : zMth := (yX12_every, cX12_every, 3, (some .boolean), 3 + n, zE0)
theorem cbX12_every : zCbV yX12_every cX12_every 3 (some .boolean) 0 := ⟨zw1237, zw45, zw89, zw1238, by decide, by decide, by decide +kernel⟩
abbrev gX12_factor (n : Nat) : zMth := (yX12_factor, cX12_factor, 6, (some .boolean), 3 + n, zE0)
theorem cbX12_factor : zCbV yX12_factor cX12_factor 6 (some .boolean) 0 := ⟨zw1241, zw46, zw89, zw1242, by decide, by decide, by decide +kernel⟩
set_option maxHeartbeats 4000000 in
set_option maxRecDepth 100000 in
theorem sX12_some_49 (c_X12_some : Nat → zWd → Option (Int32 × zWd)) (c_X12_every : Nat → zWd → Option (Int32 × zWd)) (c_X12_factor : Nat → zWd → Option (Int32 × zWd)) (dd : Nat) (hc_X12_some : ∀ (a0 : Nat) (w : zWd), zShp a0 = (12, 25) → zOk (gX12_some dd) zEi [.ref a0] w (c_X12_some a0 w)) (hc_X12_every : ∀ (a0 : Nat) (w : zWd), zShp a0 = (12, 25) → zOk (gX12_every dd) zEi [.ref a0] w (c_X12_every a0 w)) (hc_X12_factor : ∀ (a0 : Nat) (w : zWd), zShp a0 = (12, 25) → zOk (gX12_factor dd) zEi [.ref a0] w (c_X12_factor a0 w)) (k5 : Int32 × zWd → Option (Int32 × zWd)) (v0 : Nat) (s0 : Int32) (hk5 : ∀ (v1 : Int32) (w : zWd), zS (gX12_some (dd + 1)) zEi 5 [(0, .ref v0), (1, .int v1)] [] w (k5 (v1, w))) (h0 : zShp v0 = (12, 25)) (w : zWd) : zS (gX12_some (dd + 1)) zEi 49 [(0, .ref v0)] [.int s0] w (mX12_some_49 c_X12_some c_X12_every c_X12_factor k5 v0 s0 w) := by
  unfold mX12_some_49
  refine zS_istore_n 50 rfl dX12_some_49 (by show 1 < 3; decide) (show _ = [(1, .int _), (0, .ref _)] from rfl) ?_
  refine zS_goto 5 dX12_some_50 (by decide) ?_
  refine zS_sub [1, 0] (show _ = [(0, .ref _), (1, .int _)] from rfl) ?_
  exact hk5 _ _

set_option maxHeartbeats 4000000 in
set_option maxRecDepth 100000 in
theorem sX12_some_44 (c_X12_some : Nat → zWd → Option (Int32 × zWd)) (c_X12_every : Nat → zWd → Option (Int32 × zWd)) (c_X12_factor : Nat → zWd → Option (Int32 × zWd)) (dd : Nat) (hc_X12_some : ∀ (a0 : Nat) (w : zWd), zShp a0 = (12, 25) → zOk (gX12_some dd) zEi [.ref a0] w (c_X12_some a0 w)) (hc_X12_every : ∀ (a0 : Nat) (w : zWd), zShp a0 = (12, 25) → zOk (gX12_every dd) zEi [.ref a0] w (c_X12_every a0 w)) (hc_X12_factor : ∀ (a0 : Nat) (w : zWd), zShp a0 = (12, 25) → zOk (gX12_factor dd) zEi [.ref a0] w (c_X12_factor a0 w)) (k5 : Int32 × zWd → Option (Int32 × zWd)) (v0 : Nat) (hk5 : ∀ (v1 : Int32) (w : zWd), zS (gX12_some (dd + 1)) zEi 5 [(0, .ref v0), (1, .int v1)] [] w (k5 (v1, w))) (h0 : zShp v0 = (12, 25)) (w : zWd) : zS (gX12_some (dd + 1)) zEi 44 [(0, .ref v0)] [] w (mX12_some_44 c_X12_some c_X12_every c_X12_factor k5 v0 w) := by
  unfold mX12_some_44
  refine zS_iconst 45 rfl (1 : Int32) (by decide) dX12_some_44 ?_
  refine zS_goto 49 dX12_some_45 (by decide) ?_
  exact sX12_some_49 c_X12_some c_X12_every c_X12_factor dd hc_X12_some hc_X12_every hc_X12_factor k5 _ _ hk5 h0 _

set_option maxHeartbeats 4000000 in
set_option maxRecDepth 100000 in
theorem sX12_some_53 (c_X12_some : Nat → zWd → Option (Int32 × zWd)) (c_X12_every : Nat → zWd → Option (Int32 × zWd)) (c_X12_factor : Nat → zWd → Option (Int32 × zWd)) (dd : Nat) (hc_X12_some : ∀ (a0 : Nat) (w : zWd), zShp a0 = (12, 25) → zOk (gX12_some dd) zEi [.ref a0] w (c_X12_some a0 w)) (hc_X12_every : ∀ (a0 : Nat) (w : zWd), zShp a0 = (12, 25) → zOk (gX12_every dd) zEi [.ref a0] w (c_X12_every a0 w)) (hc_X12_factor : ∀ (a0 : Nat) (w : zWd), zShp a0 = (12, 25) → zOk (gX12_factor dd) zEi [.ref a0] w (c_X12_factor a0 w)) (v1 : Int32) (w : zWd) : zS (gX12_some (dd + 1)) zEi 53 [(1, .int v1)] [] w (mX12_some_53 c_X12_some c_X12_every c_X12_factor v1 w) := by
  unfold mX12_some_53
  refine zS_iload_n 54 rfl 0 rfl dX12_some_53 ?_
  exact zS_retb dX12_some_54 rfl

set_option maxHeartbeats 4000000 in
set_option maxRecDepth 100000 in
theorem sX12_some_5b (c_X12_some : Nat → zWd → Option (Int32 × zWd)) (c_X12_every : Nat → zWd → Option (Int32 × zWd)) (c_X12_factor : Nat → zWd → Option (Int32 × zWd)) (dd : Nat) (hc_X12_some : ∀ (a0 : Nat) (w : zWd), zShp a0 = (12, 25) → zOk (gX12_some dd) zEi [.ref a0] w (c_X12_some a0 w)) (hc_X12_every : ∀ (a0 : Nat) (w : zWd), zShp a0 = (12, 25) → zOk (gX12_every dd) zEi [.ref a0] w (c_X12_every a0 w)) (hc_X12_factor : ∀ (a0 : Nat) (w : zWd), zShp a0 = (12, 25) → zOk (gX12_factor dd) zEi [.ref a0] w (c_X12_factor a0 w)) (v0 : Nat) (k5 : Int32 × zWd → Option (Int32 × zWd)) (v1 : Int32) (hk5 : ∀ (v1 : Int32) (w : zWd), zS (gX12_some (dd + 1)) zEi 5 [(0, .ref v0), (1, .int v1)] [] w (k5 (v1, w))) (h0 : zShp v0 = (12, 25)) (w : zWd) : zS (gX12_some (dd + 1)) zEi 5 [(0, .ref v0), (1, .int v1)] [] w (mX12_some_5b c_X12_some c_X12_every c_X12_factor v0 k5 v1 w) := by
  unfold mX12_some_5b
  refine zS_aload_n 6 rfl 0 rfl dX12_some_5 ?_
  refine zS_getfi 9 rfl 12 dX12_some_6 zC12 zw1124 (by decide) rfl h0 ?_
  refine zS_if_ne 53 12 rfl dX12_some_9 (by decide) ?_ ?_
  · refine zS_aload_n 13 rfl 0 rfl dX12_some_12 ?_
    refine zS_cVi (as := []) (st := []) (g' := gX12_here) 16 rfl (okX12_here _ _ h0) dX12_some_13 zC12 h0 zw1243 cbX12_here rfl rfl ⟨(by show 1 + 1 ≤ 3 + (dd + 1); omega), (by decide)⟩ (Nat.le_of_ble_eq_true rfl) (fun r3 w4 => ?_)
    refine zS_bipush 18 rfl (124 : Int32) (by decide) dX12_some_16 ?_
    refine zS_icmp_ne 53 21 rfl dX12_some_18 (by decide) ?_ ?_
    · refine zS_aload_n 22 rfl 0 rfl dX12_some_21 ?_
      refine zS_dup 23 rfl rfl dX12_some_22 ?_
      refine zS_getfi 26 rfl 11 dX12_some_23 zC12 zw1123 (by decide) rfl h0 ?_
      refine zS_iconst 27 rfl (1 : Int32) (by decide) dX12_some_26 ?_
      refine zS_iadd 28 rfl dX12_some_27 ?_
      refine zS_putfi 31 rfl 11 dX12_some_28 zC12 zw1123 (by decide) rfl rfl rfl h0 ?_
      refine zS_bnw (fun w5 => ?_)
      refine zS_aload_n 32 rfl 0 rfl dX12_some_31 ?_
      refine zS_cVi (as := []) (st := []) (g' := (gX12_every dd)) 35 rfl (hc_X12_every _ _ h0) dX12_some_32 zC12 h0 zw1235 cbX12_every rfl rfl ⟨(by show 3 + dd + 1 ≤ 3 + (dd + 1); omega), (by show 3 ≤ 40; decide)⟩ (Nat.le_of_ble_eq_true rfl) (fun r6 w7 => ?_)
      refine zS_istore_n 36 rfl dX12_some_35 (by show 2 < 3; decide) (show _ = [(2, .int _), (0, .ref _), (1, .int _)] from rfl) ?_
      refine zS_iload_n 37 rfl 2 rfl dX12_some_36 ?_
      refine zS_if_ne 44 40 rfl dX12_some_37 (by decide) ?_ ?_
      · refine zS_iload_n 41 rfl 0 rfl dX12_some_40 ?_
        refine zS_if_eq 48 44 rfl dX12_some_41 (by decide) ?_ ?_
        · refine zS_iconst 49 rfl (0 : Int32) (by decide) dX12_some_48 ?_
          refine zS_sub [1] (show _ = [(0, .ref _)] from rfl) ?_
          exact sX12_some_49 c_X12_some c_X12_every c_X12_factor dd hc_X12_some hc_X12_every hc_X12_factor k5 _ _ hk5 h0 _
        · refine zS_sub [1] (show _ = [(0, .ref _)] from rfl) ?_
          exact sX12_some_44 c_X12_some c_X12_every c_X12_factor dd hc_X12_some hc_X12_every hc_X12_factor k5 _ hk5 h0 _
      · refine zS_sub [1] (show _ = [(0, .ref _)] from rfl) ?_
        exact sX12_some_44 c_X12_some c_X12_every c_X12_factor dd hc_X12_some hc_X12_every hc_X12_factor k5 _ hk5 h0 _
    · refine zS_sub [1] (show _ = [(1, .int _)] from rfl) ?_
      exact sX12_some_53 c_X12_some c_X12_every c_X12_factor dd hc_X12_some hc_X12_every hc_X12_factor _ _
  · refine zS_sub [1] (show _ = [(1, .int _)] from rfl) ?_
    exact sX12_some_53 c_X12_some c_X12_every c_X12_factor dd hc_X12_some hc_X12_every hc_X12_factor _ _

theorem sX12_some_5 (c_X12_some : Nat → zWd → Option (Int32 × zWd)) (c_X12_every : Nat → zWd → Option (Int32 × zWd)) (c_X12_factor : Nat → zWd → Option (Int32 × zWd)) (dd : Nat) (hc_X12_some : ∀ (a0 : Nat) (w : zWd), zShp a0 = (12, 25) → zOk (gX12_some dd) zEi [.ref a0] w (c_X12_some a0 w)) (hc_X12_every : ∀ (a0 : Nat) (w : zWd), zShp a0 = (12, 25) → zOk (gX12_every dd) zEi [.ref a0] w (c_X12_every a0 w)) (hc_X12_factor : ∀ (a0 : Nat) (w : zWd), zShp a0 = (12, 25) → zOk (gX12_factor dd) zEi [.ref a0] w (c_X12_factor a0 w)) (v0 : Nat) (v1 : Int32) (h0 : zShp v0 = (12, 25)) (w : zWd) : zS (gX12_some (dd + 1)) zEi 5 [(0, .ref v0), (1, .int v1)] [] w (mX12_some_5 c_X12_some c_X12_every c_X12_factor v0 v1 w) :=
  zS_loop (L := fun q : Int32 × zWd => [(0, .ref v0), (1, .int q.1)]) (V := fun q => q.2) (T := fun _ => []) (F := fun k q => mX12_some_5b c_X12_some c_X12_every c_X12_factor v0 k q.1 q.2) (fun k hk q => sX12_some_5b c_X12_some c_X12_every c_X12_factor dd hc_X12_some hc_X12_every hc_X12_factor v0 k q.1 (fun a1 w => hk (a1, w)) h0 q.2) zFU (v1, w)
set_option maxHeartbeats 4000000 in
set_option maxRecDepth 100000 in
theorem sX12_someb (c_X12_some : Nat → zWd → Option (Int32 × zWd)) (c_X12_every : Nat → zWd → Option (Int32 × zWd)) (c_X12_factor : Nat → zWd → Option (Int32 × zWd)) (dd : Nat) (hc_X12_some : ∀ (a0 : Nat) (w : zWd), zShp a0 = (12, 25) → zOk (gX12_some dd) zEi [.ref a0] w (c_X12_some a0 w)) (hc_X12_every : ∀ (a0 : Nat) (w : zWd), zShp a0 = (12, 25) → zOk (gX12_every dd) zEi [.ref a0] w (c_X12_every a0 w)) (hc_X12_factor : ∀ (a0 : Nat) (w : zWd), zShp a0 = (12, 25) → zOk (gX12_factor dd) zEi [.ref a0] w (c_X12_factor a0 w)) (v0 : Nat) (h0 : zShp v0 = (12, 25)) (w : zWd) : zS (gX12_some (dd + 1)) zEi 0 [(0, .ref v0)] [] w (mX12_someb c_X12_some c_X12_every c_X12_factor v0 w) := by
  unfold mX12_someb
  refine zS_aload_n 1 rfl 0 rfl dX12_some_0 ?_
  refine zS_cVi (as := []) (st := []) (g' := (gX12_every dd)) 4 rfl (hc_X12_every _ _ h0) dX12_some_1 zC12 h0 zw1235 cbX12_every rfl rfl ⟨(by show 3 + dd + 1 ≤ 3 + (dd + 1); omega), (by show 3 ≤ 40; decide)⟩ (Nat.le_of_ble_eq_true rfl) (fun r1 w2 => ?_)
  refine zS_istore_n 5 rfl dX12_some_4 (by show 1 < 3; decide) (show _ = [(1, .int _), (0, .ref _)] from rfl) ?_
  refine zS_sub [1, 0] (show _ = [(0, .ref _), (1, .int _)] from rfl) ?_
  exact sX12_some_5 c_X12_some c_X12_every c_X12_factor dd hc_X12_some hc_X12_every hc_X12_factor _ _ h0 _

set_option maxHeartbeats 4000000 in
set_option maxRecDepth 100000 in
theorem sX12_every_49 (c_X12_some : Nat → zWd → Option (Int32 × zWd)) (c_X12_every : Nat → zWd → Option (Int32 × zWd)) (c_X12_factor : Nat → zWd → Option (Int32 × zWd)) (dd : Nat) (hc_X12_some : ∀ (a0 : Nat) (w : zWd), zShp a0 = (12, 25) → zOk (gX12_some dd) zEi [.ref a0] w (c_X12_some a0 w)) (hc_X12_every : ∀ (a0 : Nat) (w : zWd), zShp a0 = (12, 25) → zOk (gX12_every dd) zEi [.ref a0] w (c_X12_every a0 w)) (hc_X12_factor : ∀ (a0 : Nat) (w : zWd), zShp a0 = (12, 25) → zOk (gX12_factor dd) zEi [.ref a0] w (c_X12_factor a0 w)) (k5 : Int32 × zWd → Option (Int32 × zWd)) (v0 : Nat) (s0 : Int32) (hk5 : ∀ (v1 : Int32) (w : zWd), zS (gX12_every (dd + 1)) zEi 5 [(0, .ref v0), (1, .int v1)] [] w (k5 (v1, w))) (h0 : zShp v0 = (12, 25)) (w : zWd) : zS (gX12_every (dd + 1)) zEi 49 [(0, .ref v0)] [.int s0] w (mX12_every_49 c_X12_some c_X12_every c_X12_factor k5 v0 s0 w) := by
  unfold mX12_every_49
  refine zS_istore_n 50 rfl dX12_every_49 (by show 1 < 3; decide) (show _ = [(1, .int _), (0, .ref _)] from rfl) ?_
  refine zS_goto 5 dX12_every_50 (by decide) ?_
  refine zS_sub [1, 0] (show _ = [(0, .ref _), (1, .int _)] from rfl) ?_
  exact hk5 _ _

set_option maxHeartbeats 4000000 in
set_option maxRecDepth 100000 in
theorem sX12_every_48 (c_X12_some : Nat → zWd → Option (Int32 × zWd)) (c_X12_every : Nat → zWd → Option (Int32 × zWd)) (c_X12_factor : Nat → zWd → Option (Int32 × zWd)) (dd : Nat) (hc_X12_some : ∀ (a0 : Nat) (w : zWd), zShp a0 = (12, 25) → zOk (gX12_some dd) zEi [.ref a0] w (c_X12_some a0 w)) (hc_X12_every : ∀ (a0 : Nat) (w : zWd), zShp a0 = (12, 25) → zOk (gX12_every dd) zEi [.ref a0] w (c_X12_every a0 w)) (hc_X12_factor : ∀ (a0 : Nat) (w : zWd), zShp a0 = (12, 25) → zOk (gX12_factor dd) zEi [.ref a0] w (c_X12_factor a0 w)) (k5 : Int32 × zWd → Option (Int32 × zWd)) (v0 : Nat) (hk5 : ∀ (v1 : Int32) (w : zWd), zS (gX12_every (dd + 1)) zEi 5 [(0, .ref v0), (1, .int v1)] [] w (k5 (v1, w))) (h0 : zShp v0 = (12, 25)) (w : zWd) : zS (gX12_every (dd + 1)) zEi 48 [(0, .ref v0)] [] w (mX12_every_48 c_X12_some c_X12_every c_X12_factor k5 v0 w) := by
  unfold mX12_every_48
  refine zS_iconst 49 rfl (0 : Int32) (by decide) dX12_every_48 ?_
  exact sX12_every_49 c_X12_some c_X12_every c_X12_factor dd hc_X12_some hc_X12_every hc_X12_factor k5 _ _ hk5 h0 _

set_option maxHeartbeats 4000000 in
set_option maxRecDepth 100000 in
theorem sX12_every_53 (c_X12_some : Nat → zWd → Option (Int32 × zWd)) (c_X12_every : Nat → zWd → Option (Int32 × zWd)) (c_X12_factor : Nat → zWd → Option (Int32 × zWd)) (dd : Nat) (hc_X12_some : ∀ (a0 : Nat) (w : zWd), zShp a0 = (12, 25) → zOk (gX12_some dd) zEi [.ref a0] w (c_X12_some a0 w)) (hc_X12_every : ∀ (a0 : Nat) (w : zWd), zShp a0 = (12, 25) → zOk (gX12_every dd) zEi [.ref a0] w (c_X12_every a0 w)) (hc_X12_factor : ∀ (a0 : Nat) (w : zWd), zShp a0 = (12, 25) → zOk (gX12_factor dd) zEi [.ref a0] w (c_X12_factor a0 w)) (v1 : Int32) (w : zWd) : zS (gX12_every (dd + 1)) zEi 53 [(1, .int v1)] [] w (mX12_every_53 c_X12_some c_X12_every c_X12_factor v1 w) := by
  unfold mX12_every_53
  refine zS_iload_n 54 rfl 0 rfl dX12_every_53 ?_
  exact zS_retb dX12_every_54 rfl

set_option maxHeartbeats 4000000 in
set_option maxRecDepth 100000 in
theorem sX12_every_5b (c_X12_some : Nat → zWd → Option (Int32 × zWd)) (c_X12_every : Nat → zWd → Option (Int32 × zWd)) (c_X12_factor : Nat → zWd → Option (Int32 × zWd)) (dd : Nat) (hc_X12_some : ∀ (a0 : Nat) (w : zWd), zShp a0 = (12, 25) → zOk (gX12_some dd) zEi [.ref a0] w (c_X12_some a0 w)) (hc_X12_every : ∀ (a0 : Nat) (w : zWd), zShp a0 = (12, 25) → zOk (gX12_every dd) zEi [.ref a0] w (c_X12_every a0 w)) (hc_X12_factor : ∀ (a0 : Nat) (w : zWd), zShp a0 = (12, 25) → zOk (gX12_factor dd) zEi [.ref a0] w (c_X12_factor a0 w)) (v0 : Nat) (k5 : Int32 × zWd → Option (Int32 × zWd)) (v1 : Int32) (hk5 : ∀ (v1 : Int32) (w : zWd), zS (gX12_every (dd + 1)) zEi 5 [(0, .ref v0), (1, .int v1)] [] w (k5 (v1, w))) (h0 : zShp v0 = (12, 25)) (w : zWd) : zS (gX12_every (dd + 1)) zEi 5 [(0, .ref v0), (1, .int v1)] [] w (mX12_every_5b c_X12_some c_X12_every c_X12_factor v0 k5 v1 w) := by
  unfold mX12_every_5b
  refine zS_aload_n 6 rfl 0 rfl dX12_every_5 ?_
  refine zS_getfi 9 rfl 12 dX12_every_6 zC12 zw1124 (by decide) rfl h0 ?_
  refine zS_if_ne 53 12 rfl dX12_every_9 (by decide) ?_ ?_
  · refine zS_aload_n 13 rfl 0 rfl dX12_every_12 ?_
    refine zS_cVi (as := []) (st := []) (g' := gX12_here) 16 rfl (okX12_here _ _ h0) dX12_every_13 zC12 h0 zw1243 cbX12_here rfl rfl ⟨(by show 1 + 1 ≤ 3 + (dd + 1); omega), (by decide)⟩ (Nat.le_of_ble_eq_true rfl) (fun r3 w4 => ?_)
    refine zS_bipush 18 rfl (38 : Int32) (by decide) dX12_every_16 ?_
    refine zS_icmp_ne 53 21 rfl dX12_every_18 (by decide) ?_ ?_
    · refine zS_aload_n 22 rfl 0 rfl dX12_every_21 ?_
      refine zS_dup 23 rfl rfl dX12_every_22 ?_
      refine zS_getfi 26 rfl 11 dX12_every_23 zC12 zw1123 (by decide) rfl h0 ?_
      refine zS_iconst 27 rfl (1 : Int32) (by decide) dX12_every_26 ?_
      refine zS_iadd 28 rfl dX12_every_27 ?_
      refine zS_putfi 31 rfl 11 dX12_every_28 zC12 zw1123 (by decide) rfl rfl rfl h0 ?_
      refine zS_bnw (fun w5 => ?_)
      refine zS_aload_n 32 rfl 0 rfl dX12_every_31 ?_
      refine zS_cVi (as := []) (st := []) (g' := (gX12_factor dd)) 35 rfl (hc_X12_factor _ _ h0) dX12_every_32 zC12 h0 zw1239 cbX12_factor rfl rfl ⟨(by show 3 + dd + 1 ≤ 3 + (dd + 1); omega), (by show 6 ≤ 40; decide)⟩ (Nat.le_of_ble_eq_true rfl) (fun r6 w7 => ?_)
      refine zS_istore_n 36 rfl dX12_every_35 (by show 2 < 3; decide) (show _ = [(2, .int _), (0, .ref _), (1, .int _)] from rfl) ?_
      refine zS_iload_n 37 rfl 2 rfl dX12_every_36 ?_
      refine zS_if_eq 48 40 rfl dX12_every_37 (by decide) ?_ ?_
      · refine zS_sub [1] (show _ = [(0, .ref _)] from rfl) ?_
        exact sX12_every_48 c_X12_some c_X12_every c_X12_factor dd hc_X12_some hc_X12_every hc_X12_factor k5 _ hk5 h0 _
      · refine zS_iload_n 41 rfl 0 rfl dX12_every_40 ?_
        refine zS_if_eq 48 44 rfl dX12_every_41 (by decide) ?_ ?_
        · refine zS_sub [1] (show _ = [(0, .ref _)] from rfl) ?_
          exact sX12_every_48 c_X12_some c_X12_every c_X12_factor dd hc_X12_some hc_X12_every hc_X12_factor k5 _ hk5 h0 _
        · refine zS_iconst 45 rfl (1 : Int32) (by decide) dX12_every_44 ?_
          refine zS_goto 49 dX12_every_45 (by decide) ?_
          refine zS_sub [1] (show _ = [(0, .ref _)] from rfl) ?_
          exact sX12_every_49 c_X12_some c_X12_every c_X12_factor dd hc_X12_some hc_X12_every hc_X12_factor k5 _ _ hk5 h0 _
    · refine zS_sub [1] (show _ = [(1, .int _)] from rfl) ?_
      exact sX12_every_53 c_X12_some c_X12_every c_X12_factor dd hc_X12_some hc_X12_every hc_X12_factor _ _
  · refine zS_sub [1] (show _ = [(1, .int _)] from rfl) ?_
    exact sX12_every_53 c_X12_some c_X12_every c_X12_factor dd hc_X12_some hc_X12_every hc_X12_factor _ _

theorem sX12_every_5 (c_X12_some : Nat → zWd → Option (Int32 × zWd)) (c_X12_every : Nat → zWd → Option (Int32 × zWd)) (c_X12_factor : Nat → zWd → Option (Int32 × zWd)) (dd : Nat) (hc_X12_some : ∀ (a0 : Nat) (w : zWd), zShp a0 = (12, 25) → zOk (gX12_some dd) zEi [.ref a0] w (c_X12_some a0 w)) (hc_X12_every : ∀ (a0 : Nat) (w : zWd), zShp a0 = (12, 25) → zOk (gX12_every dd) zEi [.ref a0] w (c_X12_every a0 w)) (hc_X12_factor : ∀ (a0 : Nat) (w : zWd), zShp a0 = (12, 25) → zOk (gX12_factor dd) zEi [.ref a0] w (c_X12_factor a0 w)) (v0 : Nat) (v1 : Int32) (h0 : zShp v0 = (12, 25)) (w : zWd) : zS (gX12_every (dd + 1)) zEi 5 [(0, .ref v0), (1, .int v1)] [] w (mX12_every_5 c_X12_some c_X12_every c_X12_factor v0 v1 w) :=
  zS_loop (L := fun q : Int32 × zWd => [(0, .ref v0), (1, .int q.1)]) (V := fun q => q.2) (T := fun _ => []) (F := fun k q => mX12_every_5b c_X12_some c_X12_every c_X12_factor v0 k q.1 q.2) (fun k hk q => sX12_every_5b c_X12_some c_X12_every c_X12_factor dd hc_X12_some hc_X12_every hc_X12_factor v0 k q.1 (fun a1 w => hk (a1, w)) h0 q.2) zFU (v1, w)
set_option maxHeartbeats 4000000 in
set_option maxRecDepth 100000 in
theorem sX12_everyb (c_X12_some : Nat → zWd → Option (Int32 × zWd)) (c_X12_every : Nat → zWd → Option (Int32 × zWd)) (c_X12_factor : Nat → zWd → Option (Int32 × zWd)) (dd : Nat) (hc_X12_some : ∀ (a0 : Nat) (w : zWd), zShp a0 = (12, 25) → zOk (gX12_some dd) zEi [.ref a0] w (c_X12_some a0 w)) (hc_X12_every : ∀ (a0 : Nat) (w : zWd), zShp a0 = (12, 25) → zOk (gX12_every dd) zEi [.ref a0] w (c_X12_every a0 w)) (hc_X12_factor : ∀ (a0 : Nat) (w : zWd), zShp a0 = (12, 25) → zOk (gX12_factor dd) zEi [.ref a0] w (c_X12_factor a0 w)) (v0 : Nat) (h0 : zShp v0 = (12, 25)) (w : zWd) : zS (gX12_every (dd + 1)) zEi 0 [(0, .ref v0)] [] w (mX12_everyb c_X12_some c_X12_every c_X12_factor v0 w) := by
  unfold mX12_everyb
  refine zS_aload_n 1 rfl 0 rfl dX12_every_0 ?_
  refine zS_cVi (as := []) (st := []) (g' := (gX12_factor dd)) 4 rfl (hc_X12_factor _ _ h0) dX12_every_1 zC12 h0 zw1239 cbX12_factor rfl rfl ⟨(by show 3 + dd + 1 ≤ 3 + (dd + 1); omega), (by show 6 ≤ 40; decide)⟩ (Nat.le_of_ble_eq_true rfl) (fun r1 w2 => ?_)
  refine zS_istore_n 5 rfl dX12_every_4 (by show 1 < 3; decide) (show _ = [(1, .int _), (0, .ref _)] from rfl) ?_
  refine zS_sub [1, 0] (show _ = [(0, .ref _), (1, .int _)] from rfl) ?_
  exact sX12_every_5 c_X12_some c_X12_every c_X12_factor dd hc_X12_some hc_X12_every hc_X12_factor _ _ h0 _

set_option maxHeartbeats 4000000 in
set_option maxRecDepth 100000 in
theorem sX12_factor_123 (c_X12_some : Nat → zWd → Option (Int32 × zWd)) (c_X12_every : Nat → zWd → Option (Int32 × zWd)) (c_X12_factor : Nat → zWd → Option (Int32 × zWd)) (dd : Nat) (hc_X12_some : ∀ (a0 : Nat) (w : zWd), zShp a0 = (12, 25) → zOk (gX12_some dd) zEi [.ref a0] w (c_X12_some a0 w)) (hc_X12_every : ∀ (a0 : Nat) (w : zWd), zShp a0 = (12, 25) → zOk (gX12_every dd) zEi [.ref a0] w (c_X12_every a0 w)) (hc_X12_factor : ∀ (a0 : Nat) (w : zWd), zShp a0 = (12, 25) → zOk (gX12_factor dd) zEi [.ref a0] w (c_X12_factor a0 w)) (v0 : Nat) (v2 : Int32) (h0 : zShp v0 = (12, 25)) (w : zWd) : zS (gX12_factor (dd + 1)) zEi 123 [(0, .ref v0), (2, .int v2)] [] w (mX12_factor_123 c_X12_some c_X12_every c_X12_factor v0 v2 w) := by
  unfold mX12_factor_123
  refine zS_aload_n 124 rfl 0 rfl dX12_factor_123 ?_
  refine zS_dup 125 rfl rfl dX12_factor_124 ?_
  refine zS_getfi 128 rfl 13 dX12_factor_125 zC12 zw1125 (by decide) rfl h0 ?_
  refine zS_iconst 129 rfl (1 : Int32) (by decide) dX12_factor_128 ?_
  refine zS_isub 130 rfl dX12_factor_129 ?_
  refine zS_putfi 133 rfl 13 dX12_factor_130 zC12 zw1125 (by decide) rfl rfl rfl h0 ?_
  refine zS_bnw (fun w10 => ?_)
  refine zS_iload_n 134 rfl 1 rfl dX12_factor_133 ?_
  exact zS_retb dX12_factor_134 rfl

set_option maxHeartbeats 4000000 in
set_option maxRecDepth 100000 in
theorem sX12_factor_110 (c_X12_some : Nat → zWd → Option (Int32 × zWd)) (c_X12_every : Nat → zWd → Option (Int32 × zWd)) (c_X12_factor : Nat → zWd → Option (Int32 × zWd)) (dd : Nat) (hc_X12_some : ∀ (a0 : Nat) (w : zWd), zShp a0 = (12, 25) → zOk (gX12_some dd) zEi [.ref a0] w (c_X12_some a0 w)) (hc_X12_every : ∀ (a0 : Nat) (w : zWd), zShp a0 = (12, 25) → zOk (gX12_every dd) zEi [.ref a0] w (c_X12_every a0 w)) (hc_X12_factor : ∀ (a0 : Nat) (w : zWd), zShp a0 = (12, 25) → zOk (gX12_factor dd) zEi [.ref a0] w (c_X12_factor a0 w)) (v0 : Nat) (v1 : Int32) (s0 : Int32) (h0 : zShp v0 = (12, 25)) (w : zWd) : zS (gX12_factor (dd + 1)) zEi 110 [(0, .ref v0), (1, .int v1)] [.int s0] w (mX12_factor_110 c_X12_some c_X12_every c_X12_factor v0 v1 s0 w) := by
  unfold mX12_factor_110
  refine zS_istore_n 111 rfl dX12_factor_110 (by show 2 < 6; decide) (show _ = [(2, .int _), (0, .ref _), (1, .int _)] from rfl) ?_
  refine zS_iload_n 112 rfl 2 rfl dX12_factor_111 ?_
  refine zS_bipush 114 rfl (40 : Int32) (by decide) dX12_factor_112 ?_
  refine zS_icmp_ne 123 117 rfl dX12_factor_114 (by decide) ?_ ?_
  · refine zS_aload_n 118 rfl 1 rfl dX12_factor_117 ?_
    refine zS_bipush 120 rfl (41 : Int32) (by decide) dX12_factor_118 ?_
    refine zS_cVv (as := [.int _]) (st := []) (g' := gX12_must) 123 rfl (okX12_must _ _ _ h0) dX12_factor_120 zC12 h0 zw1247 cbX12_must rfl rfl ⟨(by show 2 + 1 ≤ 3 + (dd + 1); omega), (by decide)⟩ (Nat.le_of_ble_eq_true rfl) (fun r8 w9 => ?_)
    refine zS_sub [1, 0] (show _ = [(0, .ref _), (2, .int _)] from rfl) ?_
    exact sX12_factor_123 c_X12_some c_X12_every c_X12_factor dd hc_X12_some hc_X12_every hc_X12_factor _ _ h0 _
  · refine zS_sub [1, 0] (show _ = [(0, .ref _), (2, .int _)] from rfl) ?_
    exact sX12_factor_123 c_X12_some c_X12_every c_X12_factor dd hc_X12_some hc_X12_every hc_X12_factor _ _ h0 _

set_option maxHeartbeats 4000000 in
set_option maxRecDepth 100000 in
theorem sX12_factor_70 (c_X12_some : Nat → zWd → Option (Int32 × zWd)) (c_X12_every : Nat → zWd → Option (Int32 × zWd)) (c_X12_factor : Nat → zWd → Option (Int32 × zWd)) (dd : Nat) (hc_X12_some : ∀ (a0 : Nat) (w : zWd), zShp a0 = (12, 25) → zOk (gX12_some dd) zEi [.ref a0] w (c_X12_some a0 w)) (hc_X12_every : ∀ (a0 : Nat) (w : zWd), zShp a0 = (12, 25) → zOk (gX12_every dd) zEi [.ref a0] w (c_X12_every a0 w)) (hc_X12_factor : ∀ (a0 : Nat) (w : zWd), zShp a0 = (12, 25) → zOk (gX12_factor dd) zEi [.ref a0] w (c_X12_factor a0 w)) (v0 : Nat) (v1 : Int32) (s0 : Int32) (s1 : Int32) (s2 : Nat) (h0 : zShp v0 = (12, 25)) (t2 : zShp s2 = (12, 25)) (w : zWd) : zS (gX12_factor (dd + 1)) zEi 70 [(0, .ref v0), (1, .int v1)] [.int s0, .int s1, .ref s2] w (mX12_factor_70 c_X12_some c_X12_every c_X12_factor v0 v1 s0 s1 s2 w) := by
  unfold mX12_factor_70
  refine zS_iadd 71 rfl dX12_factor_70 ?_
  refine zS_putfi 74 rfl 11 dX12_factor_71 zC12 zw1123 (by decide) rfl rfl rfl t2 ?_
  refine zS_bnw (fun w5 => ?_)
  refine zS_aload_n 75 rfl 0 rfl dX12_factor_74 ?_
  refine zS_getfi 78 rfl 12 dX12_factor_75 zC12 zw1124 (by decide) rfl h0 ?_
  refine zS_if_eq 85 81 rfl dX12_factor_78 (by decide) ?_ ?_
  · refine zS_iload_n 86 rfl 1 rfl dX12_factor_85 ?_
    refine zS_bipush 88 rfl (33 : Int32) (by decide) dX12_factor_86 ?_
    refine zS_icmp_ne 106 91 rfl dX12_factor_88 (by decide) ?_ ?_
    · refine zS_aload_n 92 rfl 0 rfl dX12_factor_91 ?_
      refine zS_cVi (as := []) (st := []) (g' := (gX12_factor dd)) 95 rfl (hc_X12_factor _ _ h0) dX12_factor_92 zC12 h0 zw1239 cbX12_factor rfl rfl ⟨(by show 3 + dd + 1 ≤ 3 + (dd + 1); omega), (by show 6 ≤ 40; decide)⟩ (Nat.le_of_ble_eq_true rfl) (fun r6 w7 => ?_)
      refine zS_if_ne 102 98 rfl dX12_factor_95 (by decide) ?_ ?_
      · refine zS_iconst 99 rfl (1 : Int32) (by decide) dX12_factor_98 ?_
        refine zS_goto 110 dX12_factor_99 (by decide) ?_
        exact sX12_factor_110 c_X12_some c_X12_every c_X12_factor dd hc_X12_some hc_X12_every hc_X12_factor _ _ _ h0 _
      · refine zS_iconst 103 rfl (0 : Int32) (by decide) dX12_factor_102 ?_
        refine zS_goto 110 dX12_factor_103 (by decide) ?_
        exact sX12_factor_110 c_X12_some c_X12_every c_X12_factor dd hc_X12_some hc_X12_every hc_X12_factor _ _ _ h0 _
    · refine zS_aload_n 107 rfl 0 rfl dX12_factor_106 ?_
      refine zS_cVi (as := []) (st := []) (g' := (gX12_some dd)) 110 rfl (hc_X12_some _ _ h0) dX12_factor_107 zC12 h0 zw1231 cbX12_some rfl rfl ⟨(by show 3 + dd + 1 ≤ 3 + (dd + 1); omega), (by show 3 ≤ 40; decide)⟩ (Nat.le_of_ble_eq_true rfl) (fun r11 w12 => ?_)
      exact sX12_factor_110 c_X12_some c_X12_every c_X12_factor dd hc_X12_some hc_X12_every hc_X12_factor _ _ _ h0 _
  · refine zS_iconst 82 rfl (0 : Int32) (by decide) dX12_factor_81 ?_
    refine zS_goto 110 dX12_factor_82 (by decide) ?_
    exact sX12_factor_110 c_X12_some c_X12_every c_X12_factor dd hc_X12_some hc_X12_every hc_X12_factor _ _ _ h0 _

set_option maxHeartbeats 4000000 in
set_option maxRecDepth 100000 in
theorem sX12_factor_40 (c_X12_some : Nat → zWd → Option (Int32 × zWd)) (c_X12_every : Nat → zWd → Option (Int32 × zWd)) (c_X12_factor : Nat → zWd → Option (Int32 × zWd)) (dd : Nat) (hc_X12_some : ∀ (a0 : Nat) (w : zWd), zShp a0 = (12, 25) → zOk (gX12_some dd) zEi [.ref a0] w (c_X12_some a0 w)) (hc_X12_every : ∀ (a0 : Nat) (w : zWd), zShp a0 = (12, 25) → zOk (gX12_every dd) zEi [.ref a0] w (c_X12_every a0 w)) (hc_X12_factor : ∀ (a0 : Nat) (w : zWd), zShp a0 = (12, 25) → zOk (gX12_factor dd) zEi [.ref a0] w (c_X12_factor a0 w)) (v0 : Nat) (v1 : Int32) (s0 : Int32) (s1 : Nat) (h0 : zShp v0 = (12, 25)) (t1 : zShp s1 = (12, 25)) (w : zWd) : zS (gX12_factor (dd + 1)) zEi 40 [(0, .ref v0), (1, .int v1)] [.int s0, .ref s1] w (mX12_factor_40 c_X12_some c_X12_every c_X12_factor v0 v1 s0 s1 w) := by
  unfold mX12_factor_40
  refine zS_putfb 43 rfl 12 dX12_factor_40 zC12 zw1124 (by decide) rfl rfl rfl t1 ?_
  refine zS_bnw (fun w3 => ?_)
  refine zS_aload_n 44 rfl 0 rfl dX12_factor_43 ?_
  refine zS_dup 45 rfl rfl dX12_factor_44 ?_
  refine zS_getfi 48 rfl 13 dX12_factor_45 zC12 zw1125 (by decide) rfl h0 ?_
  refine zS_iconst 49 rfl (1 : Int32) (by decide) dX12_factor_48 ?_
  refine zS_iadd 50 rfl dX12_factor_49 ?_
  refine zS_putfi 53 rfl 13 dX12_factor_50 zC12 zw1125 (by decide) rfl rfl rfl h0 ?_
  refine zS_bnw (fun w4 => ?_)
  refine zS_aload_n 54 rfl 0 rfl dX12_factor_53 ?_
  refine zS_dup 55 rfl rfl dX12_factor_54 ?_
  refine zS_getfi 58 rfl 11 dX12_factor_55 zC12 zw1123 (by decide) rfl h0 ?_
  refine zS_aload_n 59 rfl 0 rfl dX12_factor_58 ?_
  refine zS_getfi 62 rfl 12 dX12_factor_59 zC12 zw1124 (by decide) rfl h0 ?_
  refine zS_if_eq 69 65 rfl dX12_factor_62 (by decide) ?_ ?_
  · refine zS_iconst 70 rfl (1 : Int32) (by decide) dX12_factor_69 ?_
    exact sX12_factor_70 c_X12_some c_X12_every c_X12_factor dd hc_X12_some hc_X12_every hc_X12_factor _ _ _ _ _ h0 h0 _
  · refine zS_iconst 66 rfl (0 : Int32) (by decide) dX12_factor_65 ?_
    refine zS_goto 70 dX12_factor_66 (by decide) ?_
    exact sX12_factor_70 c_X12_some c_X12_every c_X12_factor dd hc_X12_some hc_X12_every hc_X12_factor _ _ _ _ _ h0 h0 _

set_option maxHeartbeats 4000000 in
set_option maxRecDepth 100000 in
theorem sX12_factor_26 (c_X12_some : Nat → zWd → Option (Int32 × zWd)) (c_X12_every : Nat → zWd → Option (Int32 × zWd)) (c_X12_factor : Nat → zWd → Option (Int32 × zWd)) (dd : Nat) (hc_X12_some : ∀ (a0 : Nat) (w : zWd), zShp a0 = (12, 25) → zOk (gX12_some dd) zEi [.ref a0] w (c_X12_some a0 w)) (hc_X12_every : ∀ (a0 : Nat) (w : zWd), zShp a0 = (12, 25) → zOk (gX12_every dd) zEi [.ref a0] w (c_X12_every a0 w)) (hc_X12_factor : ∀ (a0 : Nat) (w : zWd), zShp a0 = (12, 25) → zOk (gX12_factor dd) zEi [.ref a0] w (c_X12_factor a0 w)) (v0 : Nat) (v1 : Int32) (h0 : zShp v0 = (12, 25)) (w : zWd) : zS (gX12_factor (dd + 1)) zEi 26 [(0, .ref v0), (1, .int v1)] [] w (mX12_factor_26 c_X12_some c_X12_every c_X12_factor v0 v1 w) := by
  unfold mX12_factor_26
  refine zS_aload_n 27 rfl 0 rfl dX12_factor_26 ?_
  refine zS_aload_n 28 rfl 0 rfl dX12_factor_27 ?_
  refine zS_getfi 31 rfl 13 dX12_factor_28 zC12 zw1125 (by decide) rfl h0 ?_
  refine zS_iconst 32 rfl (5 : Int32) (by decide) dX12_factor_31 ?_
  refine zS_icmp_ne 39 35 rfl dX12_factor_32 (by decide) ?_ ?_
  · refine zS_iconst 36 rfl (1 : Int32) (by decide) dX12_factor_35 ?_
    refine zS_goto 40 dX12_factor_36 (by decide) ?_
    exact sX12_factor_40 c_X12_some c_X12_every c_X12_factor dd hc_X12_some hc_X12_every hc_X12_factor _ _ _ _ h0 h0 _
  · refine zS_iconst 40 rfl (0 : Int32) (by decide) dX12_factor_39 ?_
    exact sX12_factor_40 c_X12_some c_X12_every c_X12_factor dd hc_X12_some hc_X12_every hc_X12_factor _ _ _ _ h0 h0 _

set_option maxHeartbeats 4000000 in
set_option maxRecDepth 100000 in
theorem sX12_factor_350 (c_X12_some : Nat → zWd → Option (Int32 × zWd)) (c_X12_every : Nat → zWd → Option (Int32 × zWd)) (c_X12_factor : Nat → zWd → Option (Int32 × zWd)) (dd : Nat) (hc_X12_some : ∀ (a0 : Nat) (w : zWd), zShp a0 = (12, 25) → zOk (gX12_some dd) zEi [.ref a0] w (c_X12_some a0 w)) (hc_X12_every : ∀ (a0 : Nat) (w : zWd), zShp a0 = (12, 25) → zOk (gX12_every dd) zEi [.ref a0] w (c_X12_every a0 w)) (hc_X12_factor : ∀ (a0 : Nat) (w : zWd), zShp a0 = (12, 25) → zOk (gX12_factor dd) zEi [.ref a0] w (c_X12_factor a0 w)) (s0 : Int32) (w : zWd) : zS (gX12_factor (dd + 1)) zEi 350 [] [.int s0] w (mX12_factor_350 c_X12_some c_X12_every c_X12_factor s0 w) := by
  unfold mX12_factor_350
  exact zS_retb dX12_factor_350 rfl

set_option maxHeartbeats 4000000 in
set_option maxRecDepth 100000 in
theorem sX12_factor_294 (c_X12_some : Nat → zWd → Option (Int32 × zWd)) (c_X12_every : Nat → zWd → Option (Int32 × zWd)) (c_X12_factor : Nat → zWd → Option (Int32 × zWd)) (dd : Nat) (hc_X12_some : ∀ (a0 : Nat) (w : zWd), zShp a0 = (12, 25) → zOk (gX12_some dd) zEi [.ref a0] w (c_X12_some a0 w)) (hc_X12_every : ∀ (a0 : Nat) (w : zWd), zShp a0 = (12, 25) → zOk (gX12_every dd) zEi [.ref a0] w (c_X12_every a0 w)) (hc_X12_factor : ∀ (a0 : Nat) (w : zWd), zShp a0 = (12, 25) → zOk (gX12_factor dd) zEi [.ref a0] w (c_X12_factor a0 w)) (v3 : Int32) (v4 : Int32) (s0 : Int32) (w : zWd) : zS (gX12_factor (dd + 1)) zEi 294 [(3, .int v3), (4, .int v4)] [.int s0] w (mX12_factor_294 c_X12_some c_X12_every c_X12_factor v3 v4 s0 w) := by
  unfold mX12_factor_294
  refine zS_istore 296 rfl dX12_factor_294 (by show 5 < 6; decide) (show _ = [(5, .int _), (3, .int _), (4, .int _)] from rfl) ?_
  refine zS_iload_n 297 rfl 1 rfl dX12_factor_296 ?_
  refine zS_bipush 299 rfl (61 : Int32) (by decide) dX12_factor_297 ?_
  refine zS_icmp_ne 317 302 rfl dX12_factor_299 (by decide) ?_ ?_
  · refine zS_iload 304 rfl 0 rfl dX12_factor_302 ?_
    refine zS_iload 306 rfl 2 rfl dX12_factor_304 ?_
    refine zS_icmp_ne 313 309 rfl dX12_factor_306 (by decide) ?_ ?_
    · refine zS_iconst 310 rfl (1 : Int32) (by decide) dX12_factor_309 ?_
      refine zS_goto 350 dX12_factor_310 (by decide) ?_
      refine zS_sub [] (show _ = [] from rfl) ?_
      exact sX12_factor_350 c_X12_some c_X12_every c_X12_factor dd hc_X12_some hc_X12_every hc_X12_factor _ _
    · refine zS_iconst 314 rfl (0 : Int32) (by decide) dX12_factor_313 ?_
      refine zS_goto 350 dX12_factor_314 (by decide) ?_
      refine zS_sub [] (show _ = [] from rfl) ?_
      exact sX12_factor_350 c_X12_some c_X12_every c_X12_factor dd hc_X12_some hc_X12_every hc_X12_factor _ _
  · refine zS_iload_n 318 rfl 1 rfl dX12_factor_317 ?_
    refine zS_bipush 320 rfl (60 : Int32) (by decide) dX12_factor_318 ?_
    refine zS_icmp_ne 338 323 rfl dX12_factor_320 (by decide) ?_ ?_
    · refine zS_iload 325 rfl 0 rfl dX12_factor_323 ?_
      refine zS_iload 327 rfl 2 rfl dX12_factor_325 ?_
      refine zS_icmp_ge 334 330 rfl dX12_factor_327 (by decide) ?_ ?_
      · refine zS_iconst 335 rfl (0 : Int32) (by decide) dX12_factor_334 ?_
        refine zS_goto 350 dX12_factor_335 (by decide) ?_
        refine zS_sub [] (show _ = [] from rfl) ?_
        exact sX12_factor_350 c_X12_some c_X12_every c_X12_factor dd hc_X12_some hc_X12_every hc_X12_factor _ _
      · refine zS_iconst 331 rfl (1 : Int32) (by decide) dX12_factor_330 ?_
        refine zS_goto 350 dX12_factor_331 (by decide) ?_
        refine zS_sub [] (show _ = [] from rfl) ?_
        exact sX12_factor_350 c_X12_some c_X12_every c_X12_factor dd hc_X12_some hc_X12_every hc_X12_factor _ _
    · refine zS_iload 340 rfl 0 rfl dX12_factor_338 ?_
      refine zS_iload 342 rfl 2 rfl dX12_factor_340 ?_
      refine zS_icmp_le 349 345 rfl dX12_factor_342 (by decide) ?_ ?_
      · refine zS_iconst 350 rfl (0 : Int32) (by decide) dX12_factor_349 ?_
        refine zS_sub [] (show _ = [] from rfl) ?_
        exact sX12_factor_350 c_X12_some c_X12_every c_X12_factor dd hc_X12_some hc_X12_every hc_X12_factor _ _
      · refine zS_iconst 346 rfl (1 : Int32) (by decide) dX12_factor_345 ?_
        refine zS_goto 350 dX12_factor_346 (by decide) ?_
        refine zS_sub [] (show _ = [] from rfl) ?_
        exact sX12_factor_350 c_X12_some c_X12_every c_X12_factor dd hc_X12_some hc_X12_every hc_X12_factor _ _

set_option maxHeartbeats 4000000 in
set_option maxRecDepth 100000 in
theorem sX12_factor_268 (c_X12_some : Nat → zWd → Option (Int32 × zWd)) (c_X12_every : Nat → zWd → Option (Int32 × zWd)) (c_X12_factor : Nat → zWd → Option (Int32 × zWd)) (dd : Nat) (hc_X12_some : ∀ (a0 : Nat) (w : zWd), zShp a0 = (12, 25) → zOk (gX12_some dd) zEi [.ref a0] w (c_X12_some a0 w)) (hc_X12_every : ∀ (a0 : Nat) (w : zWd), zShp a0 = (12, 25) → zOk (gX12_every dd) zEi [.ref a0] w (c_X12_every a0 w)) (hc_X12_factor : ∀ (a0 : Nat) (w : zWd), zShp a0 = (12, 25) → zOk (gX12_factor dd) zEi [.ref a0] w (c_X12_factor a0 w)) (v0 : Nat) (v1 : Int32) (v3 : Int32) (s0 : Int32) (s1 : Int32) (s2 : Nat) (h0 : zShp v0 = (12, 25)) (t2 : zShp s2 = (12, 25)) (w : zWd) : zS (gX12_factor (dd + 1)) zEi 268 [(0, .ref v0), (1, .int v1), (3, .int v3)] [.int s0, .int s1, .ref s2] w (mX12_factor_268 c_X12_some c_X12_every c_X12_factor v0 v1 v3 s0 s1 s2 w) := by
  unfold mX12_factor_268
  refine zS_iadd 269 rfl dX12_factor_268 ?_
  refine zS_putfi 272 rfl 11 dX12_factor_269 zC12 zw1123 (by decide) rfl rfl rfl t2 ?_
  refine zS_bnw (fun w18 => ?_)
  refine zS_aload_n 273 rfl 0 rfl dX12_factor_272 ?_
  refine zS_cVi (as := []) (st := []) (g' := gX12_number) 276 rfl (okX12_number _ _ h0) dX12_factor_273 zC12 h0 zw1251 cbX12_number rfl rfl ⟨(by show 2 + 1 ≤ 3 + (dd + 1); omega), (by decide)⟩ (Nat.le_of_ble_eq_true rfl) (fun r19 w20 => ?_)
  refine zS_istore 278 rfl dX12_factor_276 (by show 4 < 6; decide) (show _ = [(4, .int _), (0, .ref _), (1, .int _), (3, .int _)] from rfl) ?_
  refine zS_aload_n 279 rfl 1 rfl dX12_factor_278 ?_
  refine zS_getfi 282 rfl 12 dX12_factor_279 zC12 zw1124 (by decide) rfl h0 ?_
  refine zS_if_eq 289 285 rfl dX12_factor_282 (by decide) ?_ ?_
  · refine zS_aload_n 290 rfl 1 rfl dX12_factor_289 ?_
    refine zS_iload_n 291 rfl 2 rfl dX12_factor_290 ?_
    refine zS_cVi (as := [.int _]) (st := []) (g' := gX12_told) 294 rfl (okX12_told _ _ _ h0) dX12_factor_291 zC12 h0 zw1255 cbX12_told rfl rfl ⟨(by show 1 + 1 ≤ 3 + (dd + 1); omega), (by decide)⟩ (Nat.le_of_ble_eq_true rfl) (fun r21 w22 => ?_)
    refine zS_sub [3, 0] (show _ = [(3, .int _), (4, .int _)] from rfl) ?_
    exact sX12_factor_294 c_X12_some c_X12_every c_X12_factor dd hc_X12_some hc_X12_every hc_X12_factor _ _ _ _
  · refine zS_iconst 286 rfl (0 : Int32) (by decide) dX12_factor_285 ?_
    refine zS_goto 294 dX12_factor_286 (by decide) ?_
    refine zS_sub [3, 0] (show _ = [(3, .int _), (4, .int _)] from rfl) ?_
    exact sX12_factor_294 c_X12_some c_X12_every c_X12_factor dd hc_X12_some hc_X12_every hc_X12_factor _ _ _ _

set_option maxHeartbeats 4000000 in
set_option maxRecDepth 100000 in
theorem sX12_factor_248 (c_X12_some : Nat → zWd → Option (Int32 × zWd)) (c_X12_every : Nat → zWd → Option (Int32 × zWd)) (c_X12_factor : Nat → zWd → Option (Int32 × zWd)) (dd : Nat) (hc_X12_some : ∀ (a0 : Nat) (w : zWd), zShp a0 = (12, 25) → zOk (gX12_some dd) zEi [.ref a0] w (c_X12_some a0 w)) (hc_X12_every : ∀ (a0 : Nat) (w : zWd), zShp a0 = (12, 25) → zOk (gX12_every dd) zEi [.ref a0] w (c_X12_every a0 w)) (hc_X12_factor : ∀ (a0 : Nat) (w : zWd), zShp a0 = (12, 25) → zOk (gX12_factor dd) zEi [.ref a0] w (c_X12_factor a0 w)) (v0 : Nat) (v1 : Int32) (v3 : Int32) (s0 : Int32) (s1 : Nat) (h0 : zShp v0 = (12, 25)) (t1 : zShp s1 = (12, 25)) (w : zWd) : zS (gX12_factor (dd + 1)) zEi 248 [(0, .ref v0), (1, .int v1), (3, .int v3)] [.int s0, .ref s1] w (mX12_factor_248 c_X12_some c_X12_every c_X12_factor v0 v1 v3 s0 s1 w) := by
  unfold mX12_factor_248
  refine zS_putfb 251 rfl 12 dX12_factor_248 zC12 zw1124 (by decide) rfl rfl rfl t1 ?_
  refine zS_bnw (fun w17 => ?_)
  refine zS_aload_n 252 rfl 0 rfl dX12_factor_251 ?_
  refine zS_dup 253 rfl rfl dX12_factor_252 ?_
  refine zS_getfi 256 rfl 11 dX12_factor_253 zC12 zw1123 (by decide) rfl h0 ?_
  refine zS_aload_n 257 rfl 0 rfl dX12_factor_256 ?_
  refine zS_getfi 260 rfl 12 dX12_factor_257 zC12 zw1124 (by decide) rfl h0 ?_
  refine zS_if_eq 267 263 rfl dX12_factor_260 (by decide) ?_ ?_
  · refine zS_iconst 268 rfl (1 : Int32) (by decide) dX12_factor_267 ?_
    exact sX12_factor_268 c_X12_some c_X12_every c_X12_factor dd hc_X12_some hc_X12_every hc_X12_factor _ _ _ _ _ _ h0 h0 _
  · refine zS_iconst 264 rfl (0 : Int32) (by decide) dX12_factor_263 ?_
    refine zS_goto 268 dX12_factor_264 (by decide) ?_
    exact sX12_factor_268 c_X12_some c_X12_every c_X12_factor dd hc_X12_some hc_X12_every hc_X12_factor _ _ _ _ _ _ h0 h0 _

set_option maxHeartbeats 4000000 in
set_option maxRecDepth 100000 in
theorem sX12_factor_247 (c_X12_some : Nat → zWd → Option (Int32 × zWd)) (c_X12_every : Nat → zWd → Option (Int32 × zWd)) (c_X12_factor : Nat → zWd → Option (Int32 × zWd)) (dd : Nat) (hc_X12_some : ∀ (a0 : Nat) (w : zWd), zShp a0 = (12, 25) → zOk (gX12_some dd) zEi [.ref a0] w (c_X12_some a0 w)) (hc_X12_every : ∀ (a0 : Nat) (w : zWd), zShp a0 = (12, 25) → zOk (gX12_every dd) zEi [.ref a0] w (c_X12_every a0 w)) (hc_X12_factor : ∀ (a0 : Nat) (w : zWd), zShp a0 = (12, 25) → zOk (gX12_factor dd) zEi [.ref a0] w (c_X12_factor a0 w)) (v0 : Nat) (v1 : Int32) (v3 : Int32) (s0 : Nat) (h0 : zShp v0 = (12, 25)) (t0 : zShp s0 = (12, 25)) (w : zWd) : zS (gX12_factor (dd + 1)) zEi 247 [(0, .ref v0), (1, .int v1), (3, .int v3)] [.ref s0] w (mX12_factor_247 c_X12_some c_X12_every c_X12_factor v0 v1 v3 s0 w) := by
  unfold mX12_factor_247
  refine zS_iconst 248 rfl (0 : Int32) (by decide) dX12_factor_247 ?_
  exact sX12_factor_248 c_X12_some c_X12_every c_X12_factor dd hc_X12_some hc_X12_every hc_X12_factor _ _ _ _ _ h0 t0 _

set_option maxHeartbeats 4000000 in
set_option maxRecDepth 100000 in
theorem sX12_factor_243 (c_X12_some : Nat → zWd → Option (Int32 × zWd)) (c_X12_every : Nat → zWd → Option (Int32 × zWd)) (c_X12_factor : Nat → zWd → Option (Int32 × zWd)) (dd : Nat) (hc_X12_some : ∀ (a0 : Nat) (w : zWd), zShp a0 = (12, 25) → zOk (gX12_some dd) zEi [.ref a0] w (c_X12_some a0 w)) (hc_X12_every : ∀ (a0 : Nat) (w : zWd), zShp a0 = (12, 25) → zOk (gX12_every dd) zEi [.ref a0] w (c_X12_every a0 w)) (hc_X12_factor : ∀ (a0 : Nat) (w : zWd), zShp a0 = (12, 25) → zOk (gX12_factor dd) zEi [.ref a0] w (c_X12_factor a0 w)) (v0 : Nat) (v1 : Int32) (v3 : Int32) (s0 : Nat) (h0 : zShp v0 = (12, 25)) (t0 : zShp s0 = (12, 25)) (w : zWd) : zS (gX12_factor (dd + 1)) zEi 243 [(0, .ref v0), (1, .int v1), (3, .int v3)] [.ref s0] w (mX12_factor_243 c_X12_some c_X12_every c_X12_factor v0 v1 v3 s0 w) := by
  unfold mX12_factor_243
  refine zS_iconst 244 rfl (1 : Int32) (by decide) dX12_factor_243 ?_
  refine zS_goto 248 dX12_factor_244 (by decide) ?_
  exact sX12_factor_248 c_X12_some c_X12_every c_X12_factor dd hc_X12_some hc_X12_every hc_X12_factor _ _ _ _ _ h0 t0 _

set_option maxHeartbeats 4000000 in
set_option maxRecDepth 100000 in
theorem sX12_factor_201 (c_X12_some : Nat → zWd → Option (Int32 × zWd)) (c_X12_every : Nat → zWd → Option (Int32 × zWd)) (c_X12_factor : Nat → zWd → Option (Int32 × zWd)) (dd : Nat) (hc_X12_some : ∀ (a0 : Nat) (w : zWd), zShp a0 = (12, 25) → zOk (gX12_some dd) zEi [.ref a0] w (c_X12_some a0 w)) (hc_X12_every : ∀ (a0 : Nat) (w : zWd), zShp a0 = (12, 25) → zOk (gX12_every dd) zEi [.ref a0] w (c_X12_every a0 w)) (hc_X12_factor : ∀ (a0 : Nat) (w : zWd), zShp a0 = (12, 25) → zOk (gX12_factor dd) zEi [.ref a0] w (c_X12_factor a0 w)) (v0 : Nat) (v1 : Int32) (v2 : Int32) (s0 : Int32) (s1 : Int32) (s2 : Nat) (h0 : zShp v0 = (12, 25)) (t2 : zShp s2 = (12, 25)) (w : zWd) : zS (gX12_factor (dd + 1)) zEi 201 [(0, .ref v0), (1, .int v1), (2, .int v2)] [.int s0, .int s1, .ref s2] w (mX12_factor_201 c_X12_some c_X12_every c_X12_factor v0 v1 v2 s0 s1 s2 w) := by
  unfold mX12_factor_201
  refine zS_iadd 202 rfl dX12_factor_201 ?_
  refine zS_putfi 205 rfl 11 dX12_factor_202 zC12 zw1123 (by decide) rfl rfl rfl t2 ?_
  refine zS_bnw (fun w14 => ?_)
  refine zS_aload_n 206 rfl 0 rfl dX12_factor_205 ?_
  refine zS_cVi (as := []) (st := []) (g' := gX12_here) 209 rfl (okX12_here _ _ h0) dX12_factor_206 zC12 h0 zw1243 cbX12_here rfl rfl ⟨(by show 1 + 1 ≤ 3 + (dd + 1); omega), (by decide)⟩ (Nat.le_of_ble_eq_true rfl) (fun r15 w16 => ?_)
  refine zS_istore_n 210 rfl dX12_factor_209 (by show 3 < 6; decide) (show _ = [(3, .int _), (0, .ref _), (1, .int _), (2, .int _)] from rfl) ?_
  refine zS_aload_n 211 rfl 1 rfl dX12_factor_210 ?_
  refine zS_aload_n 212 rfl 1 rfl dX12_factor_211 ?_
  refine zS_getfi 215 rfl 12 dX12_factor_212 zC12 zw1124 (by decide) rfl h0 ?_
  refine zS_if_ne 243 218 rfl dX12_factor_215 (by decide) ?_ ?_
  · refine zS_iload_n 219 rfl 3 rfl dX12_factor_218 ?_
    refine zS_if_eq 231 222 rfl dX12_factor_219 (by decide) ?_ ?_
    · refine zS_iload_n 232 rfl 0 rfl dX12_factor_231 ?_
      refine zS_bipush 234 rfl (60 : Int32) (by decide) dX12_factor_232 ?_
      refine zS_icmp_eq 247 237 rfl dX12_factor_234 (by decide) ?_ ?_
      · refine zS_sub [1, 2, 0] (show _ = [(0, .ref _), (1, .int _), (3, .int _)] from rfl) ?_
        exact sX12_factor_247 c_X12_some c_X12_every c_X12_factor dd hc_X12_some hc_X12_every hc_X12_factor _ _ _ _ h0 h0 _
      · refine zS_iload_n 238 rfl 0 rfl dX12_factor_237 ?_
        refine zS_bipush 240 rfl (62 : Int32) (by decide) dX12_factor_238 ?_
        refine zS_icmp_eq 247 243 rfl dX12_factor_240 (by decide) ?_ ?_
        · refine zS_sub [1, 2, 0] (show _ = [(0, .ref _), (1, .int _), (3, .int _)] from rfl) ?_
          exact sX12_factor_247 c_X12_some c_X12_every c_X12_factor dd hc_X12_some hc_X12_every hc_X12_factor _ _ _ _ h0 h0 _
        · refine zS_sub [1, 2, 0] (show _ = [(0, .ref _), (1, .int _), (3, .int _)] from rfl) ?_
          exact sX12_factor_243 c_X12_some c_X12_every c_X12_factor dd hc_X12_some hc_X12_every hc_X12_factor _ _ _ _ h0 h0 _
    · refine zS_iload_n 223 rfl 0 rfl dX12_factor_222 ?_
      refine zS_bipush 225 rfl (61 : Int32) (by decide) dX12_factor_223 ?_
      refine zS_icmp_eq 247 228 rfl dX12_factor_225 (by decide) ?_ ?_
      · refine zS_sub [1, 2, 0] (show _ = [(0, .ref _), (1, .int _), (3, .int _)] from rfl) ?_
        exact sX12_factor_247 c_X12_some c_X12_every c_X12_factor dd hc_X12_some hc_X12_every hc_X12_factor _ _ _ _ h0 h0 _
      · refine zS_goto 243 dX12_factor_228 (by decide) ?_
        refine zS_sub [1, 2, 0] (show _ = [(0, .ref _), (1, .int _), (3, .int _)] from rfl) ?_
        exact sX12_factor_243 c_X12_some c_X12_every c_X12_factor dd hc_X12_some hc_X12_every hc_X12_factor _ _ _ _ h0 h0 _
  · refine zS_sub [1, 2, 0] (show _ = [(0, .ref _), (1, .int _), (3, .int _)] from rfl) ?_
    exact sX12_factor_243 c_X12_some c_X12_every c_X12_factor dd hc_X12_some hc_X12_every hc_X12_factor _ _ _ _ h0 h0 _

set_option maxHeartbeats 4000000 in
set_option maxRecDepth 100000 in
theorem sX12_factor_181 (c_X12_some : Nat → zWd → Option (Int32 × zWd)) (c_X12_every : Nat → zWd → Option (Int32 × zWd)) (c_X12_factor : Nat → zWd → Option (Int32 × zWd)) (dd : Nat) (hc_X12_some : ∀ (a0 : Nat) (w : zWd), zShp a0 = (12, 25) → zOk (gX12_some dd) zEi [.ref a0] w (c_X12_some a0 w)) (hc_X12_every : ∀ (a0 : Nat) (w : zWd), zShp a0 = (12, 25) → zOk (gX12_every dd) zEi [.ref a0] w (c_X12_every a0 w)) (hc_X12_factor : ∀ (a0 : Nat) (w : zWd), zShp a0 = (12, 25) → zOk (gX12_factor dd) zEi [.ref a0] w (c_X12_factor a0 w)) (v0 : Nat) (v1 : Int32) (v2 : Int32) (s0 : Int32) (s1 : Nat) (h0 : zShp v0 = (12, 25)) (t1 : zShp s1 = (12, 25)) (w : zWd) : zS (gX12_factor (dd + 1)) zEi 181 [(0, .ref v0), (1, .int v1), (2, .int v2)] [.int s0, .ref s1] w (mX12_factor_181 c_X12_some c_X12_every c_X12_factor v0 v1 v2 s0 s1 w) := by
  unfold mX12_factor_181
  refine zS_putfb 184 rfl 12 dX12_factor_181 zC12 zw1124 (by decide) rfl rfl rfl t1 ?_
  refine zS_bnw (fun w13 => ?_)
  refine zS_aload_n 185 rfl 0 rfl dX12_factor_184 ?_
  refine zS_dup 186 rfl rfl dX12_factor_185 ?_
  refine zS_getfi 189 rfl 11 dX12_factor_186 zC12 zw1123 (by decide) rfl h0 ?_
  refine zS_aload_n 190 rfl 0 rfl dX12_factor_189 ?_
  refine zS_getfi 193 rfl 12 dX12_factor_190 zC12 zw1124 (by decide) rfl h0 ?_
  refine zS_if_eq 200 196 rfl dX12_factor_193 (by decide) ?_ ?_
  · refine zS_iconst 201 rfl (1 : Int32) (by decide) dX12_factor_200 ?_
    exact sX12_factor_201 c_X12_some c_X12_every c_X12_factor dd hc_X12_some hc_X12_every hc_X12_factor _ _ _ _ _ _ h0 h0 _
  · refine zS_iconst 197 rfl (0 : Int32) (by decide) dX12_factor_196 ?_
    refine zS_goto 201 dX12_factor_197 (by decide) ?_
    exact sX12_factor_201 c_X12_some c_X12_every c_X12_factor dd hc_X12_some hc_X12_every hc_X12_factor _ _ _ _ _ _ h0 h0 _

set_option maxHeartbeats 4000000 in
set_option maxRecDepth 100000 in
theorem sX12_factor_180 (c_X12_some : Nat → zWd → Option (Int32 × zWd)) (c_X12_every : Nat → zWd → Option (Int32 × zWd)) (c_X12_factor : Nat → zWd → Option (Int32 × zWd)) (dd : Nat) (hc_X12_some : ∀ (a0 : Nat) (w : zWd), zShp a0 = (12, 25) → zOk (gX12_some dd) zEi [.ref a0] w (c_X12_some a0 w)) (hc_X12_every : ∀ (a0 : Nat) (w : zWd), zShp a0 = (12, 25) → zOk (gX12_every dd) zEi [.ref a0] w (c_X12_every a0 w)) (hc_X12_factor : ∀ (a0 : Nat) (w : zWd), zShp a0 = (12, 25) → zOk (gX12_factor dd) zEi [.ref a0] w (c_X12_factor a0 w)) (v0 : Nat) (v1 : Int32) (v2 : Int32) (s0 : Nat) (h0 : zShp v0 = (12, 25)) (t0 : zShp s0 = (12, 25)) (w : zWd) : zS (gX12_factor (dd + 1)) zEi 180 [(0, .ref v0), (1, .int v1), (2, .int v2)] [.ref s0] w (mX12_factor_180 c_X12_some c_X12_every c_X12_factor v0 v1 v2 s0 w) := by
  unfold mX12_factor_180
  refine zS_iconst 181 rfl (0 : Int32) (by decide) dX12_factor_180 ?_
  exact sX12_factor_181 c_X12_some c_X12_every c_X12_factor dd hc_X12_some hc_X12_every hc_X12_factor _ _ _ _ _ h0 t0 _

set_option maxHeartbeats 4000000 in
set_option maxRecDepth 100000 in
theorem sX12_factor_152 (c_X12_some : Nat → zWd → Option (Int32 × zWd)) (c_X12_every : Nat → zWd → Option (Int32 × zWd)) (c_X12_factor : Nat → zWd → Option (Int32 × zWd)) (dd : Nat) (hc_X12_some : ∀ (a0 : Nat) (w : zWd), zShp a0 = (12, 25) → zOk (gX12_some dd) zEi [.ref a0] w (c_X12_some a0 w)) (hc_X12_every : ∀ (a0 : Nat) (w : zWd), zShp a0 = (12, 25) → zOk (gX12_every dd) zEi [.ref a0] w (c_X12_every a0 w)) (hc_X12_factor : ∀ (a0 : Nat) (w : zWd), zShp a0 = (12, 25) → zOk (gX12_factor dd) zEi [.ref a0] w (c_X12_factor a0 w)) (v0 : Nat) (v1 : Int32) (s0 : Int32) (h0 : zShp v0 = (12, 25)) (w : zWd) : zS (gX12_factor (dd + 1)) zEi 152 [(0, .ref v0), (1, .int v1)] [.int s0] w (mX12_factor_152 c_X12_some c_X12_every c_X12_factor v0 v1 s0 w) := by
  unfold mX12_factor_152
  refine zS_istore_n 153 rfl dX12_factor_152 (by show 2 < 6; decide) (show _ = [(2, .int _), (0, .ref _), (1, .int _)] from rfl) ?_
  refine zS_aload_n 154 rfl 1 rfl dX12_factor_153 ?_
  refine zS_iload_n 155 rfl 0 rfl dX12_factor_154 ?_
  refine zS_if_ne 180 158 rfl dX12_factor_155 (by decide) ?_ ?_
  · refine zS_iload_n 159 rfl 2 rfl dX12_factor_158 ?_
    refine zS_bipush 161 rfl (110 : Int32) (by decide) dX12_factor_159 ?_
    refine zS_icmp_eq 180 164 rfl dX12_factor_161 (by decide) ?_ ?_
    · refine zS_sub [1, 2, 0] (show _ = [(0, .ref _), (1, .int _), (2, .int _)] from rfl) ?_
      exact sX12_factor_180 c_X12_some c_X12_every c_X12_factor dd hc_X12_some hc_X12_every hc_X12_factor _ _ _ _ h0 h0 _
    · refine zS_iload_n 165 rfl 2 rfl dX12_factor_164 ?_
      refine zS_bipush 167 rfl (115 : Int32) (by decide) dX12_factor_165 ?_
      refine zS_icmp_eq 180 170 rfl dX12_factor_167 (by decide) ?_ ?_
      · refine zS_sub [1, 2, 0] (show _ = [(0, .ref _), (1, .int _), (2, .int _)] from rfl) ?_
        exact sX12_factor_180 c_X12_some c_X12_every c_X12_factor dd hc_X12_some hc_X12_every hc_X12_factor _ _ _ _ h0 h0 _
      · refine zS_iload_n 171 rfl 2 rfl dX12_factor_170 ?_
        refine zS_bipush 173 rfl (104 : Int32) (by decide) dX12_factor_171 ?_
        refine zS_icmp_eq 180 176 rfl dX12_factor_173 (by decide) ?_ ?_
        · refine zS_sub [1, 2, 0] (show _ = [(0, .ref _), (1, .int _), (2, .int _)] from rfl) ?_
          exact sX12_factor_180 c_X12_some c_X12_every c_X12_factor dd hc_X12_some hc_X12_every hc_X12_factor _ _ _ _ h0 h0 _
        · refine zS_iconst 177 rfl (1 : Int32) (by decide) dX12_factor_176 ?_
          refine zS_goto 181 dX12_factor_177 (by decide) ?_
          refine zS_sub [1, 2, 0] (show _ = [(0, .ref _), (1, .int _), (2, .int _)] from rfl) ?_
          exact sX12_factor_181 c_X12_some c_X12_every c_X12_factor dd hc_X12_some hc_X12_every hc_X12_factor _ _ _ _ _ h0 h0 _
  · refine zS_sub [1, 2, 0] (show _ = [(0, .ref _), (1, .int _), (2, .int _)] from rfl) ?_
    exact sX12_factor_180 c_X12_some c_X12_every c_X12_factor dd hc_X12_some hc_X12_every hc_X12_factor _ _ _ _ h0 h0 _

set_option maxHeartbeats 4000000 in
set_option maxRecDepth 100000 in
theorem sX12_factor_147 (c_X12_some : Nat → zWd → Option (Int32 × zWd)) (c_X12_every : Nat → zWd → Option (Int32 × zWd)) (c_X12_factor : Nat → zWd → Option (Int32 × zWd)) (dd : Nat) (hc_X12_some : ∀ (a0 : Nat) (w : zWd), zShp a0 = (12, 25) → zOk (gX12_some dd) zEi [.ref a0] w (c_X12_some a0 w)) (hc_X12_every : ∀ (a0 : Nat) (w : zWd), zShp a0 = (12, 25) → zOk (gX12_every dd) zEi [.ref a0] w (c_X12_every a0 w)) (hc_X12_factor : ∀ (a0 : Nat) (w : zWd), zShp a0 = (12, 25) → zOk (gX12_factor dd) zEi [.ref a0] w (c_X12_factor a0 w)) (v0 : Nat) (v1 : Int32) (h0 : zShp v0 = (12, 25)) (w : zWd) : zS (gX12_factor (dd + 1)) zEi 147 [(0, .ref v0), (1, .int v1)] [] w (mX12_factor_147 c_X12_some c_X12_every c_X12_factor v0 v1 w) := by
  unfold mX12_factor_147
  refine zS_iconst 148 rfl (1 : Int32) (by decide) dX12_factor_147 ?_
  refine zS_goto 152 dX12_factor_148 (by decide) ?_
  exact sX12_factor_152 c_X12_some c_X12_every c_X12_factor dd hc_X12_some hc_X12_every hc_X12_factor _ _ _ h0 _

set_option maxHeartbeats 4000000 in
set_option maxRecDepth 100000 in
theorem sX12_factorb (c_X12_some : Nat → zWd → Option (Int32 × zWd)) (c_X12_every : Nat → zWd → Option (Int32 × zWd)) (c_X12_factor : Nat → zWd → Option (Int32 × zWd)) (dd : Nat) (hc_X12_some : ∀ (a0 : Nat) (w : zWd), zShp a0 = (12, 25) → zOk (gX12_some dd) zEi [.ref a0] w (c_X12_some a0 w)) (hc_X12_every : ∀ (a0 : Nat) (w : zWd), zShp a0 = (12, 25) → zOk (gX12_every dd) zEi [.ref a0] w (c_X12_every a0 w)) (hc_X12_factor : ∀ (a0 : Nat) (w : zWd), zShp a0 = (12, 25) → zOk (gX12_factor dd) zEi [.ref a0] w (c_X12_factor a0 w)) (v0 : Nat) (h0 : zShp v0 = (12, 25)) (w : zWd) : zS (gX12_factor (dd + 1)) zEi 0 [(0, .ref v0)] [] w (mX12_factorb c_X12_some c_X12_every c_X12_factor v0 w) := by
  unfold mX12_factorb
  refine zS_aload_n 1 rfl 0 rfl dX12_factor_0 ?_
  refine zS_getfi 4 rfl 12 dX12_factor_1 zC12 zw1124 (by decide) rfl h0 ?_
  refine zS_if_eq 9 7 rfl dX12_factor_4 (by decide) ?_ ?_
  · refine zS_aload_n 10 rfl 0 rfl dX12_factor_9 ?_
    refine zS_cVi (as := []) (st := []) (g' := gX12_here) 13 rfl (okX12_here _ _ h0) dX12_factor_10 zC12 h0 zw1243 cbX12_here rfl rfl ⟨(by show 1 + 1 ≤ 3 + (dd + 1); omega), (by decide)⟩ (Nat.le_of_ble_eq_true rfl) (fun r1 w2 => ?_)
    refine zS_istore_n 14 rfl dX12_factor_13 (by show 1 < 6; decide) (show _ = [(1, .int _), (0, .ref _)] from rfl) ?_
    refine zS_iload_n 15 rfl 0 rfl dX12_factor_14 ?_
    refine zS_bipush 17 rfl (33 : Int32) (by decide) dX12_factor_15 ?_
    refine zS_icmp_eq 26 20 rfl dX12_factor_17 (by decide) ?_ ?_
    · refine zS_sub [1, 0] (show _ = [(0, .ref _), (1, .int _)] from rfl) ?_
      exact sX12_factor_26 c_X12_some c_X12_every c_X12_factor dd hc_X12_some hc_X12_every hc_X12_factor _ _ h0 _
    · refine zS_iload_n 21 rfl 0 rfl dX12_factor_20 ?_
      refine zS_bipush 23 rfl (40 : Int32) (by decide) dX12_factor_21 ?_
      refine zS_icmp_ne 135 26 rfl dX12_factor_23 (by decide) ?_ ?_
      · refine zS_sub [1, 0] (show _ = [(0, .ref _), (1, .int _)] from rfl) ?_
        exact sX12_factor_26 c_X12_some c_X12_every c_X12_factor dd hc_X12_some hc_X12_every hc_X12_factor _ _ h0 _
      · refine zS_iload_n 136 rfl 0 rfl dX12_factor_135 ?_
        refine zS_bipush 138 rfl (107 : Int32) (by decide) dX12_factor_136 ?_
        refine zS_icmp_eq 147 141 rfl dX12_factor_138 (by decide) ?_ ?_
        · refine zS_sub [1, 0] (show _ = [(0, .ref _), (1, .int _)] from rfl) ?_
          exact sX12_factor_147 c_X12_some c_X12_every c_X12_factor dd hc_X12_some hc_X12_every hc_X12_factor _ _ h0 _
        · refine zS_iload_n 142 rfl 0 rfl dX12_factor_141 ?_
          refine zS_bipush 144 rfl (116 : Int32) (by decide) dX12_factor_142 ?_
          refine zS_icmp_ne 151 147 rfl dX12_factor_144 (by decide) ?_ ?_
          · refine zS_sub [1, 0] (show _ = [(0, .ref _), (1, .int _)] from rfl) ?_
            exact sX12_factor_147 c_X12_some c_X12_every c_X12_factor dd hc_X12_some hc_X12_every hc_X12_factor _ _ h0 _
          · refine zS_iconst 152 rfl (0 : Int32) (by decide) dX12_factor_151 ?_
            refine zS_sub [1, 0] (show _ = [(0, .ref _), (1, .int _)] from rfl) ?_
            exact sX12_factor_152 c_X12_some c_X12_every c_X12_factor dd hc_X12_some hc_X12_every hc_X12_factor _ _ _ h0 _
  · refine zS_iconst 8 rfl (0 : Int32) (by decide) dX12_factor_7 ?_
    exact zS_retb dX12_factor_8 rfl

