abbrev gX8_ownerOn : zMth := (yX8_ownerOn, cX8_ownerOn, 7, (some .int), 2, zE0)
theorem cbX8_ownerOn : zCbV yX8_ownerOn cX8_ownerOn 7 (some .int) 3 := ⟨zw850, zw851, zw83, zw852, by decide, by decide, by decide +kernel⟩
set_option maxHeartbeats 4000000 in
set_option maxRecDepth 100000 in
theorem sX8_ownerOn_61 (k9 : Int32 × Int32 × Int32 × zWd → Option (Int32 × zWd)) (v0 : Nat) (v1 : Int32) (v2 : Int32) (v3 : Int32) (v4 : Int32) (v5 : Int32) (v6 : Int32) (hk9 : ∀ (v4 : Int32) (v5 : Int32) (v6 : Int32) (w : zWd), zS gX8_ownerOn zEi 9 [(0, .ref v0), (1, .int v1), (2, .int v2), (3, .int v3), (4, .int v4), (5, .int v5), (6, .int v6)] [] w (k9 (v4, v5, v6, w))) (h0 : zShp v0 = (8, 13)) (w : zWd) : zS gX8_ownerOn zEi 61 [(0, .ref v0), (1, .int v1), (2, .int v2), (3, .int v3), (4, .int v4), (5, .int v5), (6, .int v6)] [] w (mX8_ownerOn_61 k9 v0 v1 v2 v3 v4 v5 v6 w) := by
  unfold mX8_ownerOn_61
  refine zS_iinc 64 rfl 6 (_ + (1 : Int32)) dX8_ownerOn_61 rfl (by show 6 < 7; decide) rfl (show _ = [(6, .int _), (0, .ref _), (1, .int _), (2, .int _), (3, .int _), (4, .int _), (5, .int _)] from rfl) ?_
  refine zS_goto 9 dX8_ownerOn_64 (by decide) ?_
  refine zS_sub [1, 2, 3, 4, 5, 6, 0] (show _ = [(0, .ref _), (1, .int _), (2, .int _), (3, .int _), (4, .int _), (5, .int _), (6, .int _)] from rfl) ?_
  exact hk9 _ _ _ _

set_option maxHeartbeats 4000000 in
set_option maxRecDepth 100000 in
theorem sX8_ownerOn_9b (v0 : Nat) (v1 : Int32) (v2 : Int32) (v3 : Int32) (k9 : Int32 × Int32 × Int32 × zWd → Option (Int32 × zWd)) (v4 : Int32) (v5 : Int32) (v6 : Int32) (hk9 : ∀ (v4 : Int32) (v5 : Int32) (v6 : Int32) (w : zWd), zS gX8_ownerOn zEi 9 [(0, .ref v0), (1, .int v1), (2, .int v2), (3, .int v3), (4, .int v4), (5, .int v5), (6, .int v6)] [] w (k9 (v4, v5, v6, w))) (h0 : zShp v0 = (8, 13)) (w : zWd) : zS gX8_ownerOn zEi 9 [(0, .ref v0), (1, .int v1), (2, .int v2), (3, .int v3), (4, .int v4), (5, .int v5), (6, .int v6)] [] w (mX8_ownerOn_9b v0 v1 v2 v3 k9 v4 v5 v6 w) := by
  unfold mX8_ownerOn_9b
  refine zS_iload 11 rfl 6 rfl dX8_ownerOn_9 ?_
  refine zS_iload_n 12 rfl 3 rfl dX8_ownerOn_11 ?_
  refine zS_icmp_ge 67 15 rfl dX8_ownerOn_12 (by decide) ?_ ?_
  · refine zS_iload 69 rfl 4 rfl dX8_ownerOn_67 ?_
    exact zS_reti dX8_ownerOn_69 rfl
  · refine zS_aload_n 16 rfl 0 rfl dX8_ownerOn_15 ?_
    refine zS_iload 18 rfl 5 rfl dX8_ownerOn_16 ?_
    refine zS_iload_n 19 rfl 1 rfl dX8_ownerOn_18 ?_
    refine zS_iload_n 20 rfl 2 rfl dX8_ownerOn_19 ?_
    refine zS_iload_n 21 rfl 3 rfl dX8_ownerOn_20 ?_
    refine zS_cVi (as := [.int _, .int _, .int _, .int _]) (st := []) (g' := gX8_saleKeyAbove) 24 rfl (okX8_saleKeyAbove _ _ _ _ _ _ h0) dX8_ownerOn_21 zC8 h0 zw853 cbX8_saleKeyAbove rfl rfl (by decide) (Nat.le_of_ble_eq_true rfl) (fun r1 w2 => ?_)
    refine zS_istore 26 rfl dX8_ownerOn_24 (by show 5 < 7; decide) (show _ = [(5, .int _), (0, .ref _), (1, .int _), (2, .int _), (3, .int _), (4, .int _), (6, .int _)] from rfl) ?_
    refine zS_iload 28 rfl 0 rfl dX8_ownerOn_26 ?_
    refine zS_if_ge 34 31 rfl dX8_ownerOn_28 (by decide) ?_ ?_
    · refine zS_aload_n 35 rfl 1 rfl dX8_ownerOn_34 ?_
      refine zS_getfp 38 rfl 10 dX8_ownerOn_35 zC8 zw261 (by decide) rfl h0 ?_
      refine zS_iload 40 rfl 0 rfl dX8_ownerOn_38 ?_
      refine zS_bipush 42 rfl (30 : Int32) (by decide) dX8_ownerOn_40 ?_
      refine zS_iremC 43 rfl dX8_ownerOn_42 (by decide) ?_
      refine zS_iald 44 rfl dX8_ownerOn_43 (zP8_saleBy h0) ?_
      refine zS_iload 46 rfl 5 rfl dX8_ownerOn_44 ?_
      refine zS_icmp_ne 61 49 rfl dX8_ownerOn_46 (by decide) ?_ ?_
      · refine zS_aload_n 50 rfl 1 rfl dX8_ownerOn_49 ?_
        refine zS_getfp 53 rfl 11 dX8_ownerOn_50 zC8 zw262 (by decide) rfl h0 ?_
        refine zS_iload 55 rfl 0 rfl dX8_ownerOn_53 ?_
        refine zS_bipush 57 rfl (30 : Int32) (by decide) dX8_ownerOn_55 ?_
        refine zS_iremC 58 rfl dX8_ownerOn_57 (by decide) ?_
        refine zS_iald 59 rfl dX8_ownerOn_58 (zP8_saleTo h0) ?_
        refine zS_bni (fun x3 => ?_)
        refine zS_istore 61 rfl dX8_ownerOn_59 (by show 4 < 7; decide) (show _ = [(4, .int _), (5, .int _), (0, .ref _), (1, .int _), (2, .int _), (3, .int _), (6, .int _)] from rfl) ?_
        refine zS_sub [2, 3, 4, 5, 0, 1, 6] (show _ = [(0, .ref _), (1, .int _), (2, .int _), (3, .int _), (4, .int _), (5, .int _), (6, .int _)] from rfl) ?_
        exact sX8_ownerOn_61 k9 _ _ _ _ _ _ _ hk9 h0 _
      · refine zS_sub [1, 2, 3, 4, 5, 0, 6] (show _ = [(0, .ref _), (1, .int _), (2, .int _), (3, .int _), (4, .int _), (5, .int _), (6, .int _)] from rfl) ?_
        exact sX8_ownerOn_61 k9 _ _ _ _ _ _ _ hk9 h0 _
    · refine zS_iload 33 rfl 5 rfl dX8_ownerOn_31 ?_
      exact zS_reti dX8_ownerOn_33 rfl

theorem sX8_ownerOn_9 (v0 : Nat) (v1 : Int32) (v2 : Int32) (v3 : Int32) (v4 : Int32) (v5 : Int32) (v6 : Int32) (h0 : zShp v0 = (8, 13)) (w : zWd) : zS gX8_ownerOn zEi 9 [(0, .ref v0), (1, .int v1), (2, .int v2), (3, .int v3), (4, .int v4), (5, .int v5), (6, .int v6)] [] w (mX8_ownerOn_9 v0 v1 v2 v3 v4 v5 v6 w) :=
  zS_loop (L := fun q : Int32 × Int32 × Int32 × zWd => [(0, .ref v0), (1, .int v1), (2, .int v2), (3, .int v3), (4, .int q.1), (5, .int q.2.1), (6, .int q.2.2.1)]) (V := fun q => q.2.2.2) (T := fun _ => []) (F := fun k q => mX8_ownerOn_9b v0 v1 v2 v3 k q.1 q.2.1 q.2.2.1 q.2.2.2) (fun k hk q => sX8_ownerOn_9b v0 v1 v2 v3 k q.1 q.2.1 q.2.2.1 (fun a4 a5 a6 w => hk (a4, a5, a6, w)) h0 q.2.2.2) zFU (v4, v5, v6, w)
set_option maxHeartbeats 4000000 in
set_option maxRecDepth 100000 in
theorem sX8_ownerOn (v0 : Nat) (v1 : Int32) (v2 : Int32) (v3 : Int32) (h0 : zShp v0 = (8, 13)) (w : zWd) : zS gX8_ownerOn zEi 0 [(0, .ref v0), (1, .int v1), (2, .int v2), (3, .int v3)] [] w (mX8_ownerOn v0 v1 v2 v3 w) := by
  unfold mX8_ownerOn
  refine zS_iconst 1 rfl (0 : Int32) (by decide) dX8_ownerOn_0 ?_
  refine zS_istore 3 rfl dX8_ownerOn_1 (by show 4 < 7; decide) (show _ = [(4, .int _), (0, .ref _), (1, .int _), (2, .int _), (3, .int _)] from rfl) ?_
  refine zS_iconst 4 rfl (-1 : Int32) (by decide) dX8_ownerOn_3 ?_
  refine zS_istore 6 rfl dX8_ownerOn_4 (by show 5 < 7; decide) (show _ = [(5, .int _), (4, .int _), (0, .ref _), (1, .int _), (2, .int _), (3, .int _)] from rfl) ?_
  refine zS_iconst 7 rfl (0 : Int32) (by decide) dX8_ownerOn_6 ?_
  refine zS_istore 9 rfl dX8_ownerOn_7 (by show 6 < 7; decide) (show _ = [(6, .int _), (5, .int _), (4, .int _), (0, .ref _), (1, .int _), (2, .int _), (3, .int _)] from rfl) ?_
  refine zS_sub [3, 4, 5, 6, 2, 1, 0] (show _ = [(0, .ref _), (1, .int _), (2, .int _), (3, .int _), (4, .int _), (5, .int _), (6, .int _)] from rfl) ?_
  exact sX8_ownerOn_9 _ _ _ _ _ _ _ h0 _

theorem okX8_ownerOn (v0 : Nat) (v1 : Int32) (v2 : Int32) (v3 : Int32) (w : zWd) (h0 : zShp v0 = (8, 13)) : zOk gX8_ownerOn zEi [.ref v0, .int v1, .int v2, .int v3] w (mX8_ownerOn v0 v1 v2 v3 w) := zOk_of (by decide) rfl (Nat.le_of_ble_eq_true rfl) (sX8_ownerOn v0 v1 v2 v3 h0 w)
abbrev gX8_hasUse : zMth := (yX8_hasUse, cX8_hasUse, 4, (some .boolean), 1, zE0)
theorem cbX8_hasUse : zCbV yX8_hasUse cX8_hasUse 4 (some .boolean) 2 := ⟨zw862, zw863, zw83, zw864, by decide, by decide, by decide +kernel⟩
set_option maxHeartbeats 4000000 in
set_option maxRecDepth 100000 in
theorem sX8_hasUse_2b (v0 : Nat) (v1 : Int32) (v2 : Int32) (k2 : Int32 × zWd → Option (Int32 × zWd)) (v3 : Int32) (hk2 : ∀ (v3 : Int32) (w : zWd), zS gX8_hasUse zEi 2 [(0, .ref v0), (1, .int v1), (2, .int v2), (3, .int v3)] [] w (k2 (v3, w))) (h0 : zShp v0 = (8, 13)) (w : zWd) : zS gX8_hasUse zEi 2 [(0, .ref v0), (1, .int v1), (2, .int v2), (3, .int v3)] [] w (mX8_hasUse_2b v0 v1 v2 k2 v3 w) := by
  unfold mX8_hasUse_2b
  refine zS_iload_n 3 rfl 3 rfl dX8_hasUse_2 ?_
  refine zS_aload_n 4 rfl 0 rfl dX8_hasUse_3 ?_
  refine zS_getfp 7 rfl 6 dX8_hasUse_4 zC8 zw255 (by decide) rfl h0 ?_
  refine zS_iload_n 8 rfl 1 rfl dX8_hasUse_7 ?_
  refine zS_iald 9 rfl dX8_hasUse_8 (zP8_uses h0) ?_
  refine zS_icmp_ge 35 12 rfl dX8_hasUse_9 (by decide) ?_ ?_
  · refine zS_iconst 36 rfl (0 : Int32) (by decide) dX8_hasUse_35 ?_
    exact zS_retb dX8_hasUse_36 rfl
  · refine zS_aload_n 13 rfl 0 rfl dX8_hasUse_12 ?_
    refine zS_getfp 16 rfl 7 dX8_hasUse_13 zC8 zw257 (by decide) rfl h0 ?_
    refine zS_iload_n 17 rfl 1 rfl dX8_hasUse_16 ?_
    refine zS_bipush 19 rfl (20 : Int32) (by decide) dX8_hasUse_17 ?_
    refine zS_imul 20 rfl dX8_hasUse_19 ?_
    refine zS_iload_n 21 rfl 3 rfl dX8_hasUse_20 ?_
    refine zS_iadd 22 rfl dX8_hasUse_21 ?_
    refine zS_iald 23 rfl dX8_hasUse_22 (zP8_useDay h0) ?_
    refine zS_iload_n 24 rfl 2 rfl dX8_hasUse_23 ?_
    refine zS_icmp_ne 29 27 rfl dX8_hasUse_24 (by decide) ?_ ?_
    · refine zS_iconst 28 rfl (1 : Int32) (by decide) dX8_hasUse_27 ?_
      exact zS_retb dX8_hasUse_28 rfl
    · refine zS_iinc 32 rfl 3 (_ + (1 : Int32)) dX8_hasUse_29 rfl (by show 3 < 4; decide) rfl (show _ = [(3, .int _), (0, .ref _), (1, .int _), (2, .int _)] from rfl) ?_
      refine zS_goto 2 dX8_hasUse_32 (by decide) ?_
      refine zS_sub [1, 2, 3, 0] (show _ = [(0, .ref _), (1, .int _), (2, .int _), (3, .int _)] from rfl) ?_
      exact hk2 _ _

theorem sX8_hasUse_2 (v0 : Nat) (v1 : Int32) (v2 : Int32) (v3 : Int32) (h0 : zShp v0 = (8, 13)) (w : zWd) : zS gX8_hasUse zEi 2 [(0, .ref v0), (1, .int v1), (2, .int v2), (3, .int v3)] [] w (mX8_hasUse_2 v0 v1 v2 v3 w) :=
  zS_loop (L := fun q : Int32 × zWd => [(0, .ref v0), (1, .int v1), (2, .int v2), (3, .int q.1)]) (V := fun q => q.2) (T := fun _ => []) (F := fun k q => mX8_hasUse_2b v0 v1 v2 k q.1 q.2) (fun k hk q => sX8_hasUse_2b v0 v1 v2 k q.1 (fun a3 w => hk (a3, w)) h0 q.2) zFU (v3, w)
set_option maxHeartbeats 4000000 in
set_option maxRecDepth 100000 in
theorem sX8_hasUse (v0 : Nat) (v1 : Int32) (v2 : Int32) (h0 : zShp v0 = (8, 13)) (w : zWd) : zS gX8_hasUse zEi 0 [(0, .ref v0), (1, .int v1), (2, .int v2)] [] w (mX8_hasUse v0 v1 v2 w) := by
  unfold mX8_hasUse
  refine zS_iconst 1 rfl (0 : Int32) (by decide) dX8_hasUse_0 ?_
  refine zS_istore_n 2 rfl dX8_hasUse_1 (by show 3 < 4; decide) (show _ = [(3, .int _), (0, .ref _), (1, .int _), (2, .int _)] from rfl) ?_
  refine zS_sub [1, 2, 3, 0] (show _ = [(0, .ref _), (1, .int _), (2, .int _), (3, .int _)] from rfl) ?_
  exact sX8_hasUse_2 _ _ _ _ h0 _

theorem okX8_hasUse (v0 : Nat) (v1 : Int32) (v2 : Int32) (w : zWd) (h0 : zShp v0 = (8, 13)) : zOk gX8_hasUse zEi [.ref v0, .int v1, .int v2] w (mX8_hasUse v0 v1 v2 w) := zOk_of (by decide) rfl (Nat.le_of_ble_eq_true rfl) (sX8_hasUse v0 v1 v2 h0 w)
abbrev gX8_addUse : zMth := (yX8_addUse, cX8_addUse, 3, (some .int), 1, zE0)
theorem cbX8_addUse : zCbV yX8_addUse cX8_addUse 3 (some .int) 2 := ⟨zw866, zw867, zw83, zw868, by decide, by decide, by decide +kernel⟩
set_option maxHeartbeats 4000000 in
set_option maxRecDepth 100000 in
theorem sX8_addUse (v0 : Nat) (v1 : Int32) (v2 : Int32) (h0 : zShp v0 = (8, 13)) (w : zWd) : zS gX8_addUse zEi 0 [(0, .ref v0), (1, .int v1), (2, .int v2)] [] w (mX8_addUse v0 v1 v2 w) := by
  unfold mX8_addUse
  refine zS_aload_n 1 rfl 0 rfl dX8_addUse_0 ?_
  refine zS_getfp 4 rfl 6 dX8_addUse_1 zC8 zw255 (by decide) rfl h0 ?_
  refine zS_iload_n 5 rfl 1 rfl dX8_addUse_4 ?_
  refine zS_iald 6 rfl dX8_addUse_5 (zP8_uses h0) ?_
  refine zS_bipush 8 rfl (20 : Int32) (by decide) dX8_addUse_6 ?_
  refine zS_icmp_lt 14 11 rfl dX8_addUse_8 (by decide) ?_ ?_
  · refine zS_aload_n 15 rfl 0 rfl dX8_addUse_14 ?_
    refine zS_getfp 18 rfl 7 dX8_addUse_15 zC8 zw257 (by decide) rfl h0 ?_
    refine zS_iload_n 19 rfl 1 rfl dX8_addUse_18 ?_
    refine zS_bipush 21 rfl (20 : Int32) (by decide) dX8_addUse_19 ?_
    refine zS_imul 22 rfl dX8_addUse_21 ?_
    refine zS_aload_n 23 rfl 0 rfl dX8_addUse_22 ?_
    refine zS_getfp 26 rfl 6 dX8_addUse_23 zC8 zw255 (by decide) rfl h0 ?_
    refine zS_iload_n 27 rfl 1 rfl dX8_addUse_26 ?_
    refine zS_iald 28 rfl dX8_addUse_27 (zP8_uses h0) ?_
    refine zS_iadd 29 rfl dX8_addUse_28 ?_
    refine zS_iload_n 30 rfl 2 rfl dX8_addUse_29 ?_
    refine zS_iast 31 rfl dX8_addUse_30 (zP8_useDay h0) ?_
    refine zS_bnw (fun w1 => ?_)
    refine zS_aload_n 32 rfl 0 rfl dX8_addUse_31 ?_
    refine zS_getfp 35 rfl 6 dX8_addUse_32 zC8 zw255 (by decide) rfl h0 ?_
    refine zS_iload_n 36 rfl 1 rfl dX8_addUse_35 ?_
    refine zS_dup2 37 rfl rfl rfl dX8_addUse_36 ?_
    refine zS_iald 38 rfl dX8_addUse_37 (zP8_uses h0) ?_
    refine zS_iconst 39 rfl (1 : Int32) (by decide) dX8_addUse_38 ?_
    refine zS_iadd 40 rfl dX8_addUse_39 ?_
    refine zS_iast 41 rfl dX8_addUse_40 (zP8_uses h0) ?_
    refine zS_bnw (fun w2 => ?_)
    refine zS_aload_n 42 rfl 0 rfl dX8_addUse_41 ?_
    refine zS_getfp 45 rfl 6 dX8_addUse_42 zC8 zw255 (by decide) rfl h0 ?_
    refine zS_iload_n 46 rfl 1 rfl dX8_addUse_45 ?_
    refine zS_iald 47 rfl dX8_addUse_46 (zP8_uses h0) ?_
    exact zS_reti dX8_addUse_47 rfl
  · refine zS_bipush 13 rfl (-4 : Int32) (by decide) dX8_addUse_11 ?_
    exact zS_reti dX8_addUse_13 rfl

theorem okX8_addUse (v0 : Nat) (v1 : Int32) (v2 : Int32) (w : zWd) (h0 : zShp v0 = (8, 13)) : zOk gX8_addUse zEi [.ref v0, .int v1, .int v2] w (mX8_addUse v0 v1 v2 w) := zOk_of (by decide) rfl (Nat.le_of_ble_eq_true rfl) (sX8_addUse v0 v1 v2 h0 w)
abbrev gX8_lastUse : zMth := (yX8_lastUse, cX8_lastUse, 6, (some .int), 1, zE0)
theorem cbX8_lastUse : zCbV yX8_lastUse cX8_lastUse 6 (some .int) 2 := ⟨zw874, zw875, zw83, zw876, by decide, by decide, by decide +kernel⟩
set_option maxHeartbeats 4000000 in
set_option maxRecDepth 100000 in
theorem sX8_lastUse_50 (k10 : Int32 × Int32 × zWd → Option (Int32 × zWd)) (v0 : Nat) (v1 : Int32) (v2 : Int32) (v3 : Int32) (v4 : Int32) (hk10 : ∀ (v3 : Int32) (v4 : Int32) (w : zWd), zS gX8_lastUse zEi 10 [(0, .ref v0), (1, .int v1), (2, .int v2), (3, .int v3), (4, .int v4)] [] w (k10 (v3, v4, w))) (h0 : zShp v0 = (8, 13)) (w : zWd) : zS gX8_lastUse zEi 50 [(0, .ref v0), (1, .int v1), (2, .int v2), (3, .int v3), (4, .int v4)] [] w (mX8_lastUse_50 k10 v0 v1 v2 v3 v4 w) := by
  unfold mX8_lastUse_50
  refine zS_iinc 53 rfl 4 (_ + (1 : Int32)) dX8_lastUse_50 rfl (by show 4 < 6; decide) rfl (show _ = [(4, .int _), (0, .ref _), (1, .int _), (2, .int _), (3, .int _)] from rfl) ?_
  refine zS_goto 10 dX8_lastUse_53 (by decide) ?_
  refine zS_sub [1, 2, 3, 4, 0] (show _ = [(0, .ref _), (1, .int _), (2, .int _), (3, .int _), (4, .int _)] from rfl) ?_
  exact hk10 _ _ _

set_option maxHeartbeats 4000000 in
set_option maxRecDepth 100000 in
theorem sX8_lastUse_10b (v0 : Nat) (v1 : Int32) (v2 : Int32) (k10 : Int32 × Int32 × zWd → Option (Int32 × zWd)) (v3 : Int32) (v4 : Int32) (hk10 : ∀ (v3 : Int32) (v4 : Int32) (w : zWd), zS gX8_lastUse zEi 10 [(0, .ref v0), (1, .int v1), (2, .int v2), (3, .int v3), (4, .int v4)] [] w (k10 (v3, v4, w))) (h0 : zShp v0 = (8, 13)) (w : zWd) : zS gX8_lastUse zEi 10 [(0, .ref v0), (1, .int v1), (2, .int v2), (3, .int v3), (4, .int v4)] [] w (mX8_lastUse_10b v0 v1 v2 k10 v3 v4 w) := by
  unfold mX8_lastUse_10b
  refine zS_iload 12 rfl 4 rfl dX8_lastUse_10 ?_
  refine zS_aload_n 13 rfl 0 rfl dX8_lastUse_12 ?_
  refine zS_getfp 16 rfl 6 dX8_lastUse_13 zC8 zw255 (by decide) rfl h0 ?_
  refine zS_iload_n 17 rfl 1 rfl dX8_lastUse_16 ?_
  refine zS_iald 18 rfl dX8_lastUse_17 (zP8_uses h0) ?_
  refine zS_icmp_ge 56 21 rfl dX8_lastUse_18 (by decide) ?_ ?_
  · refine zS_iload_n 57 rfl 3 rfl dX8_lastUse_56 ?_
    exact zS_reti dX8_lastUse_57 rfl
  · refine zS_aload_n 22 rfl 0 rfl dX8_lastUse_21 ?_
    refine zS_getfp 25 rfl 7 dX8_lastUse_22 zC8 zw257 (by decide) rfl h0 ?_
    refine zS_iload_n 26 rfl 1 rfl dX8_lastUse_25 ?_
    refine zS_bipush 28 rfl (20 : Int32) (by decide) dX8_lastUse_26 ?_
    refine zS_imul 29 rfl dX8_lastUse_28 ?_
    refine zS_iload 31 rfl 4 rfl dX8_lastUse_29 ?_
    refine zS_iadd 32 rfl dX8_lastUse_31 ?_
    refine zS_iald 33 rfl dX8_lastUse_32 (zP8_useDay h0) ?_
    refine zS_bni (fun x2 => ?_)
    refine zS_istore 35 rfl dX8_lastUse_33 (by show 5 < 6; decide) (show _ = [(5, .int _), (0, .ref _), (1, .int _), (2, .int _), (3, .int _), (4, .int _)] from rfl) ?_
    refine zS_iload 37 rfl 0 rfl dX8_lastUse_35 ?_
    refine zS_iload_n 38 rfl 3 rfl dX8_lastUse_37 ?_
    refine zS_icmp_gt 50 41 rfl dX8_lastUse_38 (by decide) ?_ ?_
    · refine zS_sub [1, 2, 3, 4, 5] (show _ = [(0, .ref _), (1, .int _), (2, .int _), (3, .int _), (4, .int _)] from rfl) ?_
      exact sX8_lastUse_50 k10 _ _ _ _ _ hk10 h0 _
    · refine zS_iload 43 rfl 0 rfl dX8_lastUse_41 ?_
      refine zS_iload_n 44 rfl 4 rfl dX8_lastUse_43 ?_
      refine zS_icmp_le 50 47 rfl dX8_lastUse_44 (by decide) ?_ ?_
      · refine zS_sub [1, 2, 3, 4, 5] (show _ = [(0, .ref _), (1, .int _), (2, .int _), (3, .int _), (4, .int _)] from rfl) ?_
        exact sX8_lastUse_50 k10 _ _ _ _ _ hk10 h0 _
      · refine zS_iload 49 rfl 0 rfl dX8_lastUse_47 ?_
        refine zS_istore_n 50 rfl dX8_lastUse_49 (by show 3 < 6; decide) (show _ = [(3, .int _), (5, .int _), (0, .ref _), (1, .int _), (2, .int _), (4, .int _)] from rfl) ?_
        refine zS_sub [2, 3, 4, 0, 5] (show _ = [(0, .ref _), (1, .int _), (2, .int _), (3, .int _), (4, .int _)] from rfl) ?_
        exact sX8_lastUse_50 k10 _ _ _ _ _ hk10 h0 _

theorem sX8_lastUse_10 (v0 : Nat) (v1 : Int32) (v2 : Int32) (v3 : Int32) (v4 : Int32) (h0 : zShp v0 = (8, 13)) (w : zWd) : zS gX8_lastUse zEi 10 [(0, .ref v0), (1, .int v1), (2, .int v2), (3, .int v3), (4, .int v4)] [] w (mX8_lastUse_10 v0 v1 v2 v3 v4 w) :=
  zS_loop (L := fun q : Int32 × Int32 × zWd => [(0, .ref v0), (1, .int v1), (2, .int v2), (3, .int q.1), (4, .int q.2.1)]) (V := fun q => q.2.2) (T := fun _ => []) (F := fun k q => mX8_lastUse_10b v0 v1 v2 k q.1 q.2.1 q.2.2) (fun k hk q => sX8_lastUse_10b v0 v1 v2 k q.1 q.2.1 (fun a3 a4 w => hk (a3, a4, w)) h0 q.2.2) zFU (v3, v4, w)
set_option maxHeartbeats 4000000 in
set_option maxRecDepth 100000 in
theorem sX8_lastUse (v0 : Nat) (v1 : Int32) (v2 : Int32) (h0 : zShp v0 = (8, 13)) (w : zWd) : zS gX8_lastUse zEi 0 [(0, .ref v0), (1, .int v1), (2, .int v2)] [] w (mX8_lastUse v0 v1 v2 w) := by
  unfold mX8_lastUse
  refine zS_aload_n 1 rfl 0 rfl dX8_lastUse_0 ?_
  refine zS_getfp 4 rfl 5 dX8_lastUse_1 zC8 zw251 (by decide) rfl h0 ?_
  refine zS_iload_n 5 rfl 1 rfl dX8_lastUse_4 ?_
  refine zS_iald 6 rfl dX8_lastUse_5 (zP8_since h0) ?_
  refine zS_bni (fun x1 => ?_)
  refine zS_istore_n 7 rfl dX8_lastUse_6 (by show 3 < 6; decide) (show _ = [(3, .int _), (0, .ref _), (1, .int _), (2, .int _)] from rfl) ?_
  refine zS_iconst 8 rfl (0 : Int32) (by decide) dX8_lastUse_7 ?_
  refine zS_istore 10 rfl dX8_lastUse_8 (by show 4 < 6; decide) (show _ = [(4, .int _), (3, .int _), (0, .ref _), (1, .int _), (2, .int _)] from rfl) ?_
  refine zS_sub [2, 3, 4, 1, 0] (show _ = [(0, .ref _), (1, .int _), (2, .int _), (3, .int _), (4, .int _)] from rfl) ?_
  exact sX8_lastUse_10 _ _ _ _ _ h0 _

theorem okX8_lastUse (v0 : Nat) (v1 : Int32) (v2 : Int32) (w : zWd) (h0 : zShp v0 = (8, 13)) : zOk gX8_lastUse zEi [.ref v0, .int v1, .int v2] w (mX8_lastUse v0 v1 v2 w) := zOk_of (by decide) rfl (Nat.le_of_ble_eq_true rfl) (sX8_lastUse v0 v1 v2 h0 w)
abbrev gX9_copyFrom : zMth := (yX9_copyFrom, cX9_copyFrom, 2, none, 1, zE0)
theorem cbX9_copyFrom : zCbV yX9_copyFrom cX9_copyFrom 2 none 1 := ⟨zw1072, zw1073, zw80, zw1074, by decide, by decide, by decide +kernel⟩
set_option maxHeartbeats 4000000 in
set_option maxRecDepth 100000 in
theorem sX9_copyFrom (v0 : Nat) (v1 : Nat) (h0 : zShp v0 = (9, 2)) (h1 : zShp v1 = (9, 2)) (w : zWd) : zS gX9_copyFrom zEv 0 [(0, .ref v0), (1, .ref v1)] [] w (mX9_copyFrom v0 v1 w) := by
  unfold mX9_copyFrom
  refine zS_aload_n 1 rfl 0 rfl dX9_copyFrom_0 ?_
  refine zS_aload_n 2 rfl 1 rfl dX9_copyFrom_1 ?_
  refine zS_getfi 5 rfl 0 dX9_copyFrom_2 zC9 zw171 (by decide) rfl h1 ?_
  refine zS_putfi 8 rfl 0 dX9_copyFrom_5 zC9 zw171 (by decide) rfl rfl rfl h0 ?_
  refine zS_bnw (fun w1 => ?_)
  refine zS_aload_n 9 rfl 1 rfl dX9_copyFrom_8 ?_
  refine zS_getfp 12 rfl 1 dX9_copyFrom_9 zC9 zw174 (by decide) rfl h1 ?_
  refine zS_iconst 13 rfl (0 : Int32) (by decide) dX9_copyFrom_12 ?_
  refine zS_aload_n 14 rfl 0 rfl dX9_copyFrom_13 ?_
  refine zS_getfp 17 rfl 1 dX9_copyFrom_14 zC9 zw174 (by decide) rfl h0 ?_
  refine zS_iconst 18 rfl (0 : Int32) (by decide) dX9_copyFrom_17 ?_
  refine zS_bipush 20 rfl (120 : Int32) (by decide) dX9_copyFrom_18 ?_
  refine zS_copy 23 rfl dX9_copyFrom_20 zw1075 zw611 zw610 zw91 (zP9_bytes h1) (zP9_bytes h0) (by decide) (Nat.le_of_ble_eq_true rfl) zNfw ?_
  refine zS_bnw (fun w2 => ?_)
  exact zS_retv dX9_copyFrom_23 rfl

theorem okX9_copyFrom (v0 : Nat) (v1 : Nat) (w : zWd) (h0 : zShp v0 = (9, 2)) (h1 : zShp v1 = (9, 2)) : zOk gX9_copyFrom zEv [.ref v0, .ref v1] w (mX9_copyFrom v0 v1 w) := zOk_of (by decide) rfl (Nat.le_of_ble_eq_true rfl) (sX9_copyFrom v0 v1 h0 h1 w)
abbrev gX9_add : zMth := (yX9_add, cX9_add, 5, none, 1, zE0)
theorem cbX9_add : zCbV yX9_add cX9_add 5 none 2 := ⟨zw637, zw638, zw80, zw639, by decide, by decide, by decide +kernel⟩
set_option maxHeartbeats 4000000 in
set_option maxRecDepth 100000 in
theorem sX9_add_56 (w : zWd) : zS gX9_add zEv 56 [] [] w (mX9_add_56 w) := by
  unfold mX9_add_56
  exact zS_retv dX9_add_56 rfl

set_option maxHeartbeats 4000000 in
set_option maxRecDepth 100000 in
theorem sX9_add_5b (v0 : Nat) (v1 : Int64) (k5 : Int32 × zWd → Option (Unit × zWd)) (v4 : Int32) (hk5 : ∀ (v4 : Int32) (w : zWd), zS gX9_add zEv 5 [(0, .ref v0), (1, .long v1), (4, .int v4)] [] w (k5 (v4, w))) (h0 : zShp v0 = (9, 2)) (w : zWd) : zS gX9_add zEv 5 [(0, .ref v0), (1, .long v1), (4, .int v4)] [] w (mX9_add_5b v0 v1 k5 v4 w) := by
  unfold mX9_add_5b
  refine zS_iload 7 rfl 2 rfl dX9_add_5 ?_
  refine zS_if_lt 56 10 rfl dX9_add_7 (by decide) ?_ ?_
  · refine zS_sub [] (show _ = [] from rfl) ?_
    exact sX9_add_56 _
  · refine zS_aload_n 11 rfl 0 rfl dX9_add_10 ?_
    refine zS_getfi 14 rfl 0 dX9_add_11 zC9 zw171 (by decide) rfl h0 ?_
    refine zS_bipush 16 rfl (120 : Int32) (by decide) dX9_add_14 ?_
    refine zS_icmp_ge 56 19 rfl dX9_add_16 (by decide) ?_ ?_
    · refine zS_sub [] (show _ = [] from rfl) ?_
      exact sX9_add_56 _
    · refine zS_aload_n 20 rfl 0 rfl dX9_add_19 ?_
      refine zS_getfp 23 rfl 1 dX9_add_20 zC9 zw174 (by decide) rfl h0 ?_
      refine zS_aload_n 24 rfl 0 rfl dX9_add_23 ?_
      refine zS_getfi 27 rfl 0 dX9_add_24 zC9 zw171 (by decide) rfl h0 ?_
      refine zS_lload_n 28 rfl 1 rfl dX9_add_27 ?_
      refine zS_bipush 30 rfl (8 : Int32) (by decide) dX9_add_28 ?_
      refine zS_iload 32 rfl 2 rfl dX9_add_30 ?_
      refine zS_imul 33 rfl dX9_add_32 ?_
      refine zS_lushr 34 rfl dX9_add_33 ?_
      refine zS_l2i 35 rfl dX9_add_34 ?_
      refine zS_sipush 38 rfl (255 : Int32) (by decide) dX9_add_35 ?_
      refine zS_iand 39 rfl dX9_add_38 ?_
      refine zS_iast 40 rfl dX9_add_39 (zP9_bytes h0) ?_
      refine zS_bnw (fun w2 => ?_)
      refine zS_aload_n 41 rfl 0 rfl dX9_add_40 ?_
      refine zS_dup 42 rfl rfl dX9_add_41 ?_
      refine zS_getfi 45 rfl 0 dX9_add_42 zC9 zw171 (by decide) rfl h0 ?_
      refine zS_iconst 46 rfl (1 : Int32) (by decide) dX9_add_45 ?_
      refine zS_iadd 47 rfl dX9_add_46 ?_
      refine zS_putfi 50 rfl 0 dX9_add_47 zC9 zw171 (by decide) rfl rfl rfl h0 ?_
      refine zS_bnw (fun w3 => ?_)
      refine zS_iinc 53 rfl 2 (_ + (-1 : Int32)) dX9_add_50 rfl (by show 4 < 5; decide) rfl (show _ = [(4, .int _), (0, .ref _), (1, .long _)] from rfl) ?_
      refine zS_goto 5 dX9_add_53 (by decide) ?_
      refine zS_sub [1, 2, 0] (show _ = [(0, .ref _), (1, .long _), (4, .int _)] from rfl) ?_
      exact hk5 _ _

theorem sX9_add_5 (v0 : Nat) (v1 : Int64) (v4 : Int32) (h0 : zShp v0 = (9, 2)) (w : zWd) : zS gX9_add zEv 5 [(0, .ref v0), (1, .long v1), (4, .int v4)] [] w (mX9_add_5 v0 v1 v4 w) :=
  zS_loop (L := fun q : Int32 × zWd => [(0, .ref v0), (1, .long v1), (4, .int q.1)]) (V := fun q => q.2) (T := fun _ => []) (F := fun k q => mX9_add_5b v0 v1 k q.1 q.2) (fun k hk q => sX9_add_5b v0 v1 k q.1 (fun a4 w => hk (a4, w)) h0 q.2) zFU (v4, w)
set_option maxHeartbeats 4000000 in
set_option maxRecDepth 100000 in
theorem sX9_add (v0 : Nat) (v1 : Int64) (v3 : Int32) (h0 : zShp v0 = (9, 2)) (w : zWd) : zS gX9_add zEv 0 [(0, .ref v0), (1, .long v1), (3, .int v3)] [] w (mX9_add v0 v1 v3 w) := by
  unfold mX9_add
  refine zS_iload_n 1 rfl 2 rfl dX9_add_0 ?_
  refine zS_iconst 2 rfl (1 : Int32) (by decide) dX9_add_1 ?_
  refine zS_isub 3 rfl dX9_add_2 ?_
  refine zS_bni (fun x1 => ?_)
  refine zS_istore 5 rfl dX9_add_3 (by show 4 < 5; decide) (show _ = [(4, .int _), (0, .ref _), (1, .long _), (3, .int _)] from rfl) ?_
  refine zS_sub [1, 2, 0] (show _ = [(0, .ref _), (1, .long _), (4, .int _)] from rfl) ?_
  exact sX9_add_5 _ _ _ h0 _

theorem okX9_add (v0 : Nat) (v1 : Int64) (v3 : Int32) (w : zWd) (h0 : zShp v0 = (9, 2)) : zOk gX9_add zEv [.ref v0, .long v1, .int v3] w (mX9_add v0 v1 v3 w) := zOk_of (by decide) rfl (Nat.le_of_ble_eq_true rfl) (sX9_add v0 v1 v3 h0 w)
abbrev gX10_copyFrom : zMth := (yX10_copyFrom, cX10_copyFrom, 2, none, 3, zE0)
theorem cbX10_copyFrom : zCbV yX10_copyFrom cX10_copyFrom 2 none 1 := ⟨zw1067, zw1068, zw78, zw1069, by decide, by decide, by decide +kernel⟩
set_option maxHeartbeats 4000000 in
set_option maxRecDepth 100000 in
theorem sX10_copyFrom (v0 : Nat) (v1 : Nat) (h0 : zShp v0 = (10, 6)) (h1 : zShp v1 = (10, 6)) (w : zWd) : zS gX10_copyFrom zEv 0 [(0, .ref v0), (1, .ref v1)] [] w (mX10_copyFrom v0 v1 w) := by
  unfold mX10_copyFrom
  refine zS_aload_n 1 rfl 0 rfl dX10_copyFrom_0 ?_
  refine zS_aload_n 2 rfl 1 rfl dX10_copyFrom_1 ?_
  refine zS_getfi 5 rfl 0 dX10_copyFrom_2 zC10 zw344 (by decide) rfl h1 ?_
  refine zS_putfi 8 rfl 0 dX10_copyFrom_5 zC10 zw344 (by decide) rfl rfl rfl h0 ?_
  refine zS_bnw (fun w1 => ?_)
  refine zS_aload_n 9 rfl 0 rfl dX10_copyFrom_8 ?_
  refine zS_getfp 12 rfl 1 dX10_copyFrom_9 zC10 zw346 (by decide) rfl h0 ?_
  refine zS_aload_n 13 rfl 1 rfl dX10_copyFrom_12 ?_
  refine zS_getfp 16 rfl 1 dX10_copyFrom_13 zC10 zw346 (by decide) rfl h1 ?_
  refine zS_cVv (as := [.ref _]) (st := []) (g' := gX0_copyFrom) 19 rfl (okX0_copyFrom _ _ _ (zP10_ground h0) (zP10_ground h1)) dX10_copyFrom_16 zC0 (zP10_ground h0) zw1070 cbX0_copyFrom rfl rfl (by decide) (Nat.le_of_ble_eq_true rfl) (fun r2 w3 => ?_)
  refine zS_aload_n 20 rfl 0 rfl dX10_copyFrom_19 ?_
  refine zS_getfp 23 rfl 2 dX10_copyFrom_20 zC10 zw348 (by decide) rfl h0 ?_
  refine zS_aload_n 24 rfl 1 rfl dX10_copyFrom_23 ?_
  refine zS_getfp 27 rfl 2 dX10_copyFrom_24 zC10 zw348 (by decide) rfl h1 ?_
  refine zS_cVv (as := [.ref _]) (st := []) (g' := gX9_copyFrom) 30 rfl (okX9_copyFrom _ _ _ (zP10_tape h0) (zP10_tape h1)) dX10_copyFrom_27 zC9 (zP10_tape h0) zw1071 cbX9_copyFrom rfl rfl (by decide) (Nat.le_of_ble_eq_true rfl) (fun r4 w5 => ?_)
  refine zS_aload_n 31 rfl 0 rfl dX10_copyFrom_30 ?_
  refine zS_getfp 34 rfl 3 dX10_copyFrom_31 zC10 zw350 (by decide) rfl h0 ?_
  refine zS_aload_n 35 rfl 1 rfl dX10_copyFrom_34 ?_
  refine zS_getfp 38 rfl 3 dX10_copyFrom_35 zC10 zw350 (by decide) rfl h1 ?_
  refine zS_cVv (as := [.ref _]) (st := []) (g' := gX3_copyFrom) 41 rfl (okX3_copyFrom _ _ _ (zP10_book h0) (zP10_book h1)) dX10_copyFrom_38 zC3 (zP10_book h0) zw1076 cbX3_copyFrom rfl rfl (by decide) (Nat.le_of_ble_eq_true rfl) (fun r6 w7 => ?_)
  refine zS_aload_n 42 rfl 0 rfl dX10_copyFrom_41 ?_
  refine zS_getfp 45 rfl 4 dX10_copyFrom_42 zC10 zw352 (by decide) rfl h0 ?_
  refine zS_aload_n 46 rfl 1 rfl dX10_copyFrom_45 ?_
  refine zS_getfp 49 rfl 4 dX10_copyFrom_46 zC10 zw352 (by decide) rfl h1 ?_
  refine zS_cVv (as := [.ref _]) (st := []) (g' := gX8_copyFrom) 52 rfl (okX8_copyFrom _ _ _ (zP10_takers h0) (zP10_takers h1)) dX10_copyFrom_49 zC8 (zP10_takers h0) zw1085 cbX8_copyFrom rfl rfl (by decide) (Nat.le_of_ble_eq_true rfl) (fun r8 w9 => ?_)
  refine zS_aload_n 53 rfl 0 rfl dX10_copyFrom_52 ?_
  refine zS_getfp 56 rfl 5 dX10_copyFrom_53 zC10 zw354 (by decide) rfl h0 ?_
  refine zS_aload_n 57 rfl 1 rfl dX10_copyFrom_56 ?_
  refine zS_getfp 60 rfl 5 dX10_copyFrom_57 zC10 zw354 (by decide) rfl h1 ?_
  refine zS_cVv (as := [.ref _]) (st := []) (g' := gX6_copyFrom) 63 rfl (okX6_copyFrom _ _ _ (zP10_seen h0) (zP10_seen h1)) dX10_copyFrom_60 zC6 (zP10_seen h0) zw1090 cbX6_copyFrom rfl rfl (by decide) (Nat.le_of_ble_eq_true rfl) (fun r10 w11 => ?_)
  exact zS_retv dX10_copyFrom_63 rfl

theorem okX10_copyFrom (v0 : Nat) (v1 : Nat) (w : zWd) (h0 : zShp v0 = (10, 6)) (h1 : zShp v1 = (10, 6)) : zOk gX10_copyFrom zEv [.ref v0, .ref v1] w (mX10_copyFrom v0 v1 w) := zOk_of (by decide) rfl (Nat.le_of_ble_eq_true rfl) (sX10_copyFrom v0 v1 h0 h1 w)
abbrev gX10_rules : zMth := (yX10_rules, cX10_rules, 3, (some .int), 5, zE0)
theorem cbX10_rules : zCbV yX10_rules cX10_rules 3 (some .int) 2 := ⟨zw524, zw525, zw78, zw526, by decide, by decide, by decide +kernel⟩
set_option maxHeartbeats 4000000 in
set_option maxRecDepth 100000 in
theorem sX10_rules (v0 : Nat) (v1 : Int32) (v2 : Int32) (h0 : zShp v0 = (10, 6)) (w : zWd) : zS gX10_rules zEi 0 [(0, .ref v0), (1, .int v1), (2, .int v2)] [] w (mX10_rules v0 v1 v2 w) := by
  unfold mX10_rules
  refine zS_aload_n 1 rfl 0 rfl dX10_rules_0 ?_
  refine zS_getfp 4 rfl 3 dX10_rules_1 zC10 zw350 (by decide) rfl h0 ?_
  refine zS_aload_n 5 rfl 0 rfl dX10_rules_4 ?_
  refine zS_getfp 8 rfl 3 dX10_rules_5 zC10 zw350 (by decide) rfl h0 ?_
  refine zS_iload_n 9 rfl 1 rfl dX10_rules_8 ?_
  refine zS_aload_n 10 rfl 0 rfl dX10_rules_9 ?_
  refine zS_getfp 13 rfl 4 dX10_rules_10 zC10 zw352 (by decide) rfl h0 ?_
  refine zS_iconst 14 rfl (0 : Int32) (by decide) dX10_rules_13 ?_
  refine zS_iload_n 15 rfl 2 rfl dX10_rules_14 ?_
  refine zS_cVi (as := [.int _, .ref _, .int _, .int _]) (st := [.ref _]) (g' := gX3_ruling) 18 rfl (okX3_ruling _ _ _ _ _ _ (zP10_book h0) (zP10_takers h0)) dX10_rules_15 zC3 (zP10_book h0) zw527 cbX3_ruling rfl rfl (by decide) (Nat.le_of_ble_eq_true rfl) (fun r1 w2 => ?_)
  refine zS_iload_n 19 rfl 1 rfl dX10_rules_18 ?_
  refine zS_cVi (as := [.int _, .int _]) (st := []) (g' := gX3_numberBy) 22 rfl (okX3_numberBy _ _ _ _ (zP10_book h0)) dX10_rules_19 zC3 (zP10_book h0) zw547 cbX3_numberBy rfl rfl (by decide) (Nat.le_of_ble_eq_true rfl) (fun r3 w4 => ?_)
  exact zS_reti dX10_rules_22 rfl

theorem okX10_rules (v0 : Nat) (v1 : Int32) (v2 : Int32) (w : zWd) (h0 : zShp v0 = (10, 6)) : zOk gX10_rules zEi [.ref v0, .int v1, .int v2] w (mX10_rules v0 v1 v2 w) := zOk_of (by decide) rfl (Nat.le_of_ble_eq_true rfl) (sX10_rules v0 v1 v2 h0 w)
abbrev gX11_distance : zMth := (yX11_distance, cX11_distance, 2, (some .int), 1, zE0)
theorem cbX11_distance : zCbS yX11_distance cX11_distance 2 (some .int) 2 := ⟨zw554, zw77, zw555, by decide, by decide, by decide +kernel⟩
set_option maxHeartbeats 4000000 in
set_option maxRecDepth 100000 in
theorem sX11_distance (v0 : Int32) (v1 : Int32) (w : zWd) : zS gX11_distance zEi 0 [(0, .int v0), (1, .int v1)] [] w (mX11_distance v0 v1 w) := by
  unfold mX11_distance
  refine zS_iload_n 1 rfl 0 rfl dX11_distance_0 ?_
  refine zS_bipush 3 rfl (6 : Int32) (by decide) dX11_distance_1 ?_
  refine zS_iremC 4 rfl dX11_distance_3 (by decide) ?_
  refine zS_iload_n 5 rfl 1 rfl dX11_distance_4 ?_
  refine zS_bipush 7 rfl (6 : Int32) (by decide) dX11_distance_5 ?_
  refine zS_iremC 8 rfl dX11_distance_7 (by decide) ?_
  refine zS_isub 9 rfl dX11_distance_8 ?_
  refine zS_mabs 12 rfl dX11_distance_9 zw556 zw557 zw90 zw558 (by decide) (Nat.le_of_ble_eq_true rfl) ?_
  refine zS_bni (fun x1 => ?_)
  refine zS_iload_n 13 rfl 0 rfl dX11_distance_12 ?_
  refine zS_bipush 15 rfl (6 : Int32) (by decide) dX11_distance_13 ?_
  refine zS_idivC 16 rfl dX11_distance_15 (by decide) ?_
  refine zS_iload_n 17 rfl 1 rfl dX11_distance_16 ?_
  refine zS_bipush 19 rfl (6 : Int32) (by decide) dX11_distance_17 ?_
  refine zS_idivC 20 rfl dX11_distance_19 (by decide) ?_
  refine zS_isub 21 rfl dX11_distance_20 ?_
  refine zS_mabs 24 rfl dX11_distance_21 zw556 zw557 zw90 zw558 (by decide) (Nat.le_of_ble_eq_true rfl) ?_
  refine zS_bni (fun x2 => ?_)
  refine zS_iadd 25 rfl dX11_distance_24 ?_
  exact zS_reti dX11_distance_25 rfl

theorem okX11_distance (v0 : Int32) (v1 : Int32) (w : zWd) : zOk gX11_distance zEi [.int v0, .int v1] w (mX11_distance v0 v1 w) := zOk_of (by decide) rfl (Nat.le_of_ble_eq_true rfl) (sX11_distance v0 v1 w)
abbrev gX10_mayBe : zMth := (yX10_mayBe, cX10_mayBe, 7, (some .boolean), 6, zE0)
theorem cbX10_mayBe : zCbV yX10_mayBe cX10_mayBe 7 (some .boolean) 3 := ⟨zw520, zw521, zw78, zw522, by decide, by decide, by decide +kernel⟩
set_option maxHeartbeats 4000000 in
set_option maxRecDepth 100000 in
theorem sX10_mayBe_45b (v0 : Nat) (v2 : Int32) (v5 : Int32) (k45 : Int32 × zWd → Option (Int32 × zWd)) (v6 : Int32) (hk45 : ∀ (v6 : Int32) (w : zWd), zS gX10_mayBe zEi 45 [(0, .ref v0), (2, .int v2), (5, .int v5), (6, .int v6)] [] w (k45 (v6, w))) (h0 : zShp v0 = (10, 6)) (w : zWd) : zS gX10_mayBe zEi 45 [(0, .ref v0), (2, .int v2), (5, .int v5), (6, .int v6)] [] w (mX10_mayBe_45b v0 v2 v5 k45 v6 w) := by
  unfold mX10_mayBe_45b
  refine zS_iload 47 rfl 3 rfl dX10_mayBe_45 ?_
  refine zS_aload_n 48 rfl 0 rfl dX10_mayBe_47 ?_
  refine zS_getfp 51 rfl 1 dX10_mayBe_48 zC10 zw346 (by decide) rfl h0 ?_
  refine zS_getfi 54 rfl 1 dX10_mayBe_51 zC0 zw122 (by decide) rfl (zP10_ground h0) ?_
  refine zS_icmp_ge 84 57 rfl dX10_mayBe_54 (by decide) ?_ ?_
  · refine zS_iconst 85 rfl (1 : Int32) (by decide) dX10_mayBe_84 ?_
    exact zS_retb dX10_mayBe_85 rfl
  · refine zS_aload_n 58 rfl 0 rfl dX10_mayBe_57 ?_
    refine zS_getfp 61 rfl 1 dX10_mayBe_58 zC10 zw346 (by decide) rfl h0 ?_
    refine zS_getfp 64 rfl 4 dX10_mayBe_61 zC0 zw128 (by decide) rfl (zP10_ground h0) ?_
    refine zS_iload 66 rfl 3 rfl dX10_mayBe_64 ?_
    refine zS_iald 67 rfl dX10_mayBe_66 (zP0_cellOf (zP10_ground h0)) ?_
    refine zS_iload_n 68 rfl 1 rfl dX10_mayBe_67 ?_
    refine zS_cNi (as := [.int _, .int _]) (st := []) (g' := gX11_distance) (host := "HotSprings") 71 rfl (okX11_distance _ _ _) dX10_mayBe_68 (by decide +kernel) cbX11_distance rfl rfl (by decide) (Nat.le_of_ble_eq_true rfl) (fun r5 w6 => ?_)
    refine zS_iload 73 rfl 2 rfl dX10_mayBe_71 ?_
    refine zS_icmp_ge 78 76 rfl dX10_mayBe_73 (by decide) ?_ ?_
    · refine zS_iinc 81 rfl 3 (_ + (1 : Int32)) dX10_mayBe_78 rfl (by show 6 < 7; decide) rfl (show _ = [(6, .int _), (0, .ref _), (2, .int _), (5, .int _)] from rfl) ?_
      refine zS_goto 45 dX10_mayBe_81 (by decide) ?_
      refine zS_sub [1, 2, 3, 0] (show _ = [(0, .ref _), (2, .int _), (5, .int _), (6, .int _)] from rfl) ?_
      exact hk45 _ _
    · refine zS_iconst 77 rfl (0 : Int32) (by decide) dX10_mayBe_76 ?_
      exact zS_retb dX10_mayBe_77 rfl

theorem sX10_mayBe_45 (v0 : Nat) (v2 : Int32) (v5 : Int32) (v6 : Int32) (h0 : zShp v0 = (10, 6)) (w : zWd) : zS gX10_mayBe zEi 45 [(0, .ref v0), (2, .int v2), (5, .int v5), (6, .int v6)] [] w (mX10_mayBe_45 v0 v2 v5 v6 w) :=
  zS_loop (L := fun q : Int32 × zWd => [(0, .ref v0), (2, .int v2), (5, .int v5), (6, .int q.1)]) (V := fun q => q.2) (T := fun _ => []) (F := fun k q => mX10_mayBe_45b v0 v2 v5 k q.1 q.2) (fun k hk q => sX10_mayBe_45b v0 v2 v5 k q.1 (fun a6 w => hk (a6, w)) h0 q.2) zFU (v6, w)
set_option maxHeartbeats 4000000 in
set_option maxRecDepth 100000 in
theorem sX10_mayBe_26 (v0 : Nat) (v2 : Int32) (s0 : Int32) (s1 : Int32) (h0 : zShp v0 = (10, 6)) (w : zWd) : zS gX10_mayBe zEi 26 [(0, .ref v0), (2, .int v2)] [.int s0, .int s1] w (mX10_mayBe_26 v0 v2 s0 s1 w) := by
  unfold mX10_mayBe_26
  refine zS_icmp_le 31 29 rfl dX10_mayBe_26 (by decide) ?_ ?_
  · refine zS_aload_n 32 rfl 0 rfl dX10_mayBe_31 ?_
    refine zS_iconst 33 rfl (2 : Int32) (by decide) dX10_mayBe_32 ?_
    refine zS_aload_n 34 rfl 0 rfl dX10_mayBe_33 ?_
    refine zS_getfi 37 rfl 0 dX10_mayBe_34 zC10 zw344 (by decide) rfl h0 ?_
    refine zS_cVi (as := [.int _, .int _]) (st := []) (g' := gX10_rules) 40 rfl (okX10_rules _ _ _ _ h0) dX10_mayBe_37 zC10 h0 zw523 cbX10_rules rfl rfl (by decide) (Nat.le_of_ble_eq_true rfl) (fun r3 w4 => ?_)
    refine zS_istore 42 rfl dX10_mayBe_40 (by show 5 < 7; decide) (show _ = [(5, .int _), (0, .ref _), (2, .int _)] from rfl) ?_
    refine zS_iconst 43 rfl (0 : Int32) (by decide) dX10_mayBe_42 ?_
    refine zS_istore 45 rfl dX10_mayBe_43 (by show 6 < 7; decide) (show _ = [(6, .int _), (5, .int _), (0, .ref _), (2, .int _)] from rfl) ?_
    refine zS_sub [2, 3, 1, 0] (show _ = [(0, .ref _), (2, .int _), (5, .int _), (6, .int _)] from rfl) ?_
    exact sX10_mayBe_45 _ _ _ _ h0 _
  · refine zS_iconst 30 rfl (0 : Int32) (by decide) dX10_mayBe_29 ?_
    exact zS_retb dX10_mayBe_30 rfl

set_option maxHeartbeats 4000000 in
set_option maxRecDepth 100000 in
theorem sX10_mayBe (v0 : Nat) (v1 : Int32) (v2 : Int32) (v3 : Int32) (h0 : zShp v0 = (10, 6)) (w : zWd) : zS gX10_mayBe zEi 0 [(0, .ref v0), (1, .int v1), (2, .int v2), (3, .int v3)] [] w (mX10_mayBe v0 v1 v2 v3 w) := by
  unfold mX10_mayBe
  refine zS_aload_n 1 rfl 0 rfl dX10_mayBe_0 ?_
  refine zS_iconst 2 rfl (1 : Int32) (by decide) dX10_mayBe_1 ?_
  refine zS_aload_n 3 rfl 0 rfl dX10_mayBe_2 ?_
  refine zS_getfi 6 rfl 0 dX10_mayBe_3 zC10 zw344 (by decide) rfl h0 ?_
  refine zS_cVi (as := [.int _, .int _]) (st := []) (g' := gX10_rules) 9 rfl (okX10_rules _ _ _ _ h0) dX10_mayBe_6 zC10 h0 zw523 cbX10_rules rfl rfl (by decide) (Nat.le_of_ble_eq_true rfl) (fun r1 w2 => ?_)
  refine zS_istore 11 rfl dX10_mayBe_9 (by show 4 < 7; decide) (show _ = [(4, .int _), (0, .ref _), (1, .int _), (2, .int _), (3, .int _)] from rfl) ?_
  refine zS_iload_n 12 rfl 4 rfl dX10_mayBe_11 ?_
  refine zS_iload_n 13 rfl 2 rfl dX10_mayBe_12 ?_
  refine zS_iconst 14 rfl (2 : Int32) (by decide) dX10_mayBe_13 ?_
  refine zS_icmp_ne 24 17 rfl dX10_mayBe_14 (by decide) ?_ ?_
  · refine zS_iconst 18 rfl (2 : Int32) (by decide) dX10_mayBe_17 ?_
    refine zS_iload 20 rfl 0 rfl dX10_mayBe_18 ?_
    refine zS_imul 21 rfl dX10_mayBe_20 ?_
    refine zS_goto 26 dX10_mayBe_21 (by decide) ?_
    refine zS_sub [1, 3] (show _ = [(0, .ref _), (2, .int _)] from rfl) ?_
    exact sX10_mayBe_26 _ _ _ _ h0 _
  · refine zS_iload 26 rfl 0 rfl dX10_mayBe_24 ?_
    refine zS_sub [1, 3] (show _ = [(0, .ref _), (2, .int _)] from rfl) ?_
    exact sX10_mayBe_26 _ _ _ _ h0 _

theorem okX10_mayBe (v0 : Nat) (v1 : Int32) (v2 : Int32) (v3 : Int32) (w : zWd) (h0 : zShp v0 = (10, 6)) : zOk gX10_mayBe zEi [.ref v0, .int v1, .int v2, .int v3] w (mX10_mayBe v0 v1 v2 v3 w) := zOk_of (by decide) rfl (Nat.le_of_ble_eq_true rfl) (sX10_mayBe v0 v1 v2 v3 h0 w)
abbrev gX11_under : zMth := (yX11_under, cX11_under, 5, (some .int), 2, zE0)
theorem cbX11_under : zCbV yX11_under cX11_under 5 (some .int) 3 := ⟨zw500, zw501, zw77, zw502, by decide, by decide, by decide +kernel⟩
set_option maxHeartbeats 4000000 in
set_option maxRecDepth 100000 in
theorem sX11_under_20 (w : zWd) : zS gX11_under zEi 20 [] [] w (mX11_under_20 w) := by
  unfold mX11_under_20
  refine zS_iconst 21 rfl (-1 : Int32) (by decide) dX11_under_20 ?_
  exact zS_reti dX11_under_21 rfl

set_option maxHeartbeats 4000000 in
set_option maxRecDepth 100000 in
theorem sX11_under_35 (w : zWd) : zS gX11_under zEi 35 [] [] w (mX11_under_35 w) := by
  unfold mX11_under_35
  refine zS_bipush 37 rfl (-2 : Int32) (by decide) dX11_under_35 ?_
  exact zS_reti dX11_under_37 rfl

set_option maxHeartbeats 4000000 in
set_option maxRecDepth 100000 in
theorem sX11_under (v0 : Nat) (v1 : Int32) (v2 : Int32) (v3 : Int32) (h0 : zShp v0 = (11, 11)) (w : zWd) : zS gX11_under zEi 0 [(0, .ref v0), (1, .int v1), (2, .int v2), (3, .int v3)] [] w (mX11_under v0 v1 v2 v3 w) := by
  unfold mX11_under
  refine zS_iload_n 1 rfl 1 rfl dX11_under_0 ?_
  refine zS_bipush 3 rfl (30 : Int32) (by decide) dX11_under_1 ?_
  refine zS_cSi (as := [.int _, .int _]) (st := []) (g' := gX11_within) 6 rfl (okX11_within _ _ _) dX11_under_3 zw503 cbX11_within rfl rfl (by decide) (Nat.le_of_ble_eq_true rfl) (fun r1 w2 => ?_)
  refine zS_if_eq 20 9 rfl dX11_under_6 (by decide) ?_ ?_
  · refine zS_sub [] (show _ = [] from rfl) ?_
    exact sX11_under_20 _
  · refine zS_iload_n 10 rfl 2 rfl dX11_under_9 ?_
    refine zS_gets 13 rfl 0 rfl dX11_under_10 zw506 ?_
    refine zS_tlen 14 rfl 0 rfl (4 : Int32) (by decide) dX11_under_13 ?_
    refine zS_cSi (as := [.int _, .int _]) (st := []) (g' := gX11_within) 17 rfl (okX11_within _ _ _) dX11_under_14 zw503 cbX11_within rfl rfl (by decide) (Nat.le_of_ble_eq_true rfl) (fun r3 w4 => ?_)
    refine zS_if_ne 22 20 rfl dX11_under_17 (by decide) ?_ ?_
    · refine zS_sub [] (show _ = [] from rfl) ?_
      exact sX11_under_20 _
    · refine zS_iload_n 23 rfl 3 rfl dX11_under_22 ?_
      refine zS_if_lt 35 26 rfl dX11_under_23 (by decide) ?_ ?_
      · refine zS_sub [] (show _ = [] from rfl) ?_
        exact sX11_under_35 _
      · refine zS_iload_n 27 rfl 3 rfl dX11_under_26 ?_
        refine zS_gets 30 rfl 0 rfl dX11_under_27 zw506 ?_
        refine zS_iload_n 31 rfl 2 rfl dX11_under_30 ?_
        refine zS_tald 32 rfl 0 rfl rfl dX11_under_31 ?_
        refine zS_icmp_le 38 35 rfl dX11_under_32 (by decide) ?_ ?_
        · refine zS_aload_n 39 rfl 0 rfl dX11_under_38 ?_
          refine zS_getfp 42 rfl 0 dX11_under_39 zC11 zw465 (by decide) rfl h0 ?_
          refine zS_getfp 45 rfl 1 dX11_under_42 zC10 zw347 (by decide) rfl (zP11_world h0) ?_
          refine zS_getfp 48 rfl 0 dX11_under_45 zC0 zw120 (by decide) rfl (zP10_ground (zP11_world h0)) ?_
          refine zS_iload_n 49 rfl 2 rfl dX11_under_48 ?_
          refine zS_bipush 51 rfl (30 : Int32) (by decide) dX11_under_49 ?_
          refine zS_imul 52 rfl dX11_under_51 ?_
          refine zS_iload_n 53 rfl 1 rfl dX11_under_52 ?_
          refine zS_iadd 54 rfl dX11_under_53 ?_
          refine zS_iald 55 rfl dX11_under_54 (zP0_cells (zP10_ground (zP11_world h0))) ?_
          refine zS_bni (fun x5 => ?_)
          refine zS_istore 57 rfl dX11_under_55 (by show 4 < 5; decide) (show _ = [(4, .int _), (0, .ref _), (1, .int _), (2, .int _), (3, .int _)] from rfl) ?_
          refine zS_aload_n 58 rfl 1 rfl dX11_under_57 ?_
          refine zS_getfp 61 rfl 0 dX11_under_58 zC11 zw465 (by decide) rfl h0 ?_
          refine zS_getfp 64 rfl 1 dX11_under_61 zC10 zw347 (by decide) rfl (zP11_world h0) ?_
          refine zS_getfp 67 rfl 0 dX11_under_64 zC0 zw120 (by decide) rfl (zP10_ground (zP11_world h0)) ?_
          refine zS_iload_n 68 rfl 3 rfl dX11_under_67 ?_
          refine zS_bipush 70 rfl (30 : Int32) (by decide) dX11_under_68 ?_
          refine zS_imul 71 rfl dX11_under_70 ?_
          refine zS_iload_n 72 rfl 2 rfl dX11_under_71 ?_
          refine zS_iadd 73 rfl dX11_under_72 ?_
          refine zS_iload_n 74 rfl 4 rfl dX11_under_73 ?_
          refine zS_iast 75 rfl dX11_under_74 (zP0_cells (zP10_ground (zP11_world h0))) ?_
          refine zS_bnw (fun w6 => ?_)
          refine zS_iload 77 rfl 0 rfl dX11_under_75 ?_
          exact zS_reti dX11_under_77 rfl
        · refine zS_sub [] (show _ = [] from rfl) ?_
          exact sX11_under_35 _

theorem okX11_under (v0 : Nat) (v1 : Int32) (v2 : Int32) (v3 : Int32) (w : zWd) (h0 : zShp v0 = (11, 11)) : zOk gX11_under zEi [.ref v0, .int v1, .int v2, .int v3] w (mX11_under v0 v1 v2 v3 w) := zOk_of (by decide) rfl (Nat.le_of_ble_eq_true rfl) (sX11_under v0 v1 v2 v3 h0 w)
abbrev gX11_cell : zMth := (yX11_cell, cX11_cell, 3, (some .int), 2, zE0)
theorem cbX11_cell : zCbV yX11_cell cX11_cell 3 (some .int) 2 := ⟨zw508, zw509, zw77, zw510, by decide, by decide, by decide +kernel⟩
set_option maxHeartbeats 4000000 in
set_option maxRecDepth 100000 in
theorem sX11_cell_20 (w : zWd) : zS gX11_cell zEi 20 [] [] w (mX11_cell_20 w) := by
  unfold mX11_cell_20
  refine zS_iconst 21 rfl (-1 : Int32) (by decide) dX11_cell_20 ?_
  exact zS_reti dX11_cell_21 rfl

set_option maxHeartbeats 4000000 in
set_option maxRecDepth 100000 in
theorem sX11_cell (v0 : Nat) (v1 : Int32) (v2 : Int32) (h0 : zShp v0 = (11, 11)) (w : zWd) : zS gX11_cell zEi 0 [(0, .ref v0), (1, .int v1), (2, .int v2)] [] w (mX11_cell v0 v1 v2 w) := by
  unfold mX11_cell
  refine zS_iload_n 1 rfl 1 rfl dX11_cell_0 ?_
  refine zS_bipush 3 rfl (30 : Int32) (by decide) dX11_cell_1 ?_
  refine zS_cSi (as := [.int _, .int _]) (st := []) (g' := gX11_within) 6 rfl (okX11_within _ _ _) dX11_cell_3 zw503 cbX11_within rfl rfl (by decide) (Nat.le_of_ble_eq_true rfl) (fun r1 w2 => ?_)
  refine zS_if_eq 20 9 rfl dX11_cell_6 (by decide) ?_ ?_
  · refine zS_sub [] (show _ = [] from rfl) ?_
    exact sX11_cell_20 _
  · refine zS_iload_n 10 rfl 2 rfl dX11_cell_9 ?_
    refine zS_gets 13 rfl 0 rfl dX11_cell_10 zw506 ?_
    refine zS_tlen 14 rfl 0 rfl (4 : Int32) (by decide) dX11_cell_13 ?_
    refine zS_cSi (as := [.int _, .int _]) (st := []) (g' := gX11_within) 17 rfl (okX11_within _ _ _) dX11_cell_14 zw503 cbX11_within rfl rfl (by decide) (Nat.le_of_ble_eq_true rfl) (fun r3 w4 => ?_)
    refine zS_if_ne 22 20 rfl dX11_cell_17 (by decide) ?_ ?_
    · refine zS_sub [] (show _ = [] from rfl) ?_
      exact sX11_cell_20 _
    · refine zS_aload_n 23 rfl 0 rfl dX11_cell_22 ?_
      refine zS_getfp 26 rfl 0 dX11_cell_23 zC11 zw465 (by decide) rfl h0 ?_
      refine zS_getfp 29 rfl 1 dX11_cell_26 zC10 zw347 (by decide) rfl (zP11_world h0) ?_
      refine zS_getfp 32 rfl 0 dX11_cell_29 zC0 zw120 (by decide) rfl (zP10_ground (zP11_world h0)) ?_
      refine zS_iload_n 33 rfl 2 rfl dX11_cell_32 ?_
      refine zS_bipush 35 rfl (30 : Int32) (by decide) dX11_cell_33 ?_
      refine zS_imul 36 rfl dX11_cell_35 ?_
      refine zS_iload_n 37 rfl 1 rfl dX11_cell_36 ?_
      refine zS_iadd 38 rfl dX11_cell_37 ?_
      refine zS_iald 39 rfl dX11_cell_38 (zP0_cells (zP10_ground (zP11_world h0))) ?_
      exact zS_reti dX11_cell_39 rfl

theorem okX11_cell (v0 : Nat) (v1 : Int32) (v2 : Int32) (w : zWd) (h0 : zShp v0 = (11, 11)) : zOk gX11_cell zEi [.ref v0, .int v1, .int v2] w (mX11_cell v0 v1 v2 w) := zOk_of (by decide) rfl (Nat.le_of_ble_eq_true rfl) (sX11_cell v0 v1 v2 h0 w)
abbrev gX11_tap : zMth := (yX11_tap, cX11_tap, 5, (some .int), 7, zE0)
theorem cbX11_tap : zCbV yX11_tap cX11_tap 5 (some .int) 4 := ⟨zw512, zw513, zw77, zw514, by decide, by decide, by decide +kernel⟩
set_option maxHeartbeats 4000000 in
set_option maxRecDepth 100000 in
theorem sX11_tap_18 (w : zWd) : zS gX11_tap zEi 18 [] [] w (mX11_tap_18 w) := by
  unfold mX11_tap_18
  refine zS_iconst 19 rfl (-1 : Int32) (by decide) dX11_tap_18 ?_
  exact zS_reti dX11_tap_19 rfl

set_option maxHeartbeats 4000000 in
set_option maxRecDepth 100000 in
theorem sX11_tap_86 (v0 : Nat) (v1 : Int32) (v2 : Int32) (v3 : Int32) (h0 : zShp v0 = (11, 11)) (w : zWd) : zS gX11_tap zEi 86 [(0, .ref v0), (1, .int v1), (2, .int v2), (3, .int v3)] [] w (mX11_tap_86 v0 v1 v2 v3 w) := by
  unfold mX11_tap_86
  refine zS_aload_n 87 rfl 0 rfl dX11_tap_86 ?_
  refine zS_getfp 90 rfl 0 dX11_tap_87 zC11 zw465 (by decide) rfl h0 ?_
  refine zS_getfp 93 rfl 1 dX11_tap_90 zC10 zw347 (by decide) rfl (zP11_world h0) ?_
  refine zS_getfi 96 rfl 1 dX11_tap_93 zC0 zw123 (by decide) rfl (zP10_ground (zP11_world h0)) ?_
  refine zS_bipush 98 rfl (12 : Int32) (by decide) dX11_tap_96 ?_
  refine zS_icmp_lt 104 101 rfl dX11_tap_98 (by decide) ?_ ?_
  · refine zS_aload_n 105 rfl 0 rfl dX11_tap_104 ?_
    refine zS_getfp 108 rfl 0 dX11_tap_105 zC11 zw465 (by decide) rfl h0 ?_
    refine zS_getfp 111 rfl 1 dX11_tap_108 zC10 zw347 (by decide) rfl (zP11_world h0) ?_
    refine zS_iload_n 112 rfl 1 rfl dX11_tap_111 ?_
    refine zS_iload_n 113 rfl 2 rfl dX11_tap_112 ?_
    refine zS_iload_n 114 rfl 3 rfl dX11_tap_113 ?_
    refine zS_aload_n 115 rfl 0 rfl dX11_tap_114 ?_
    refine zS_getfp 118 rfl 0 dX11_tap_115 zC11 zw465 (by decide) rfl h0 ?_
    refine zS_getfi 121 rfl 0 dX11_tap_118 zC10 zw345 (by decide) rfl (zP11_world h0) ?_
    refine zS_cVi (as := [.int _, .int _, .int _, .int _]) (st := []) (g' := gX0_addTap) 124 rfl (okX0_addTap _ _ _ _ _ _ (zP10_ground (zP11_world h0))) dX11_tap_121 zC0 (zP10_ground (zP11_world h0)) zw559 cbX0_addTap rfl rfl (by decide) (Nat.le_of_ble_eq_true rfl) (fun r5 w6 => ?_)
    exact zS_reti dX11_tap_124 rfl
  · refine zS_bipush 103 rfl (-4 : Int32) (by decide) dX11_tap_101 ?_
    exact zS_reti dX11_tap_103 rfl

set_option maxHeartbeats 4000000 in
set_option maxRecDepth 100000 in
theorem sX11_tap_83 (w : zWd) : zS gX11_tap zEi 83 [] [] w (mX11_tap_83 w) := by
  unfold mX11_tap_83
  refine zS_bipush 85 rfl (-3 : Int32) (by decide) dX11_tap_83 ?_
  exact zS_reti dX11_tap_85 rfl

set_option maxHeartbeats 4000000 in
set_option maxRecDepth 100000 in
theorem sX11_tap_51 (v0 : Nat) (v1 : Int32) (v2 : Int32) (v3 : Int32) (v4 : Int32) (h0 : zShp v0 = (11, 11)) (w : zWd) : zS gX11_tap zEi 51 [(0, .ref v0), (1, .int v1), (2, .int v2), (3, .int v3), (4, .int v4)] [] w (mX11_tap_51 v0 v1 v2 v3 v4 w) := by
  unfold mX11_tap_51
  refine zS_aload_n 52 rfl 0 rfl dX11_tap_51 ?_
  refine zS_getfp 55 rfl 0 dX11_tap_52 zC11 zw465 (by decide) rfl h0 ?_
  refine zS_getfp 58 rfl 1 dX11_tap_55 zC10 zw347 (by decide) rfl (zP11_world h0) ?_
  refine zS_iload_n 59 rfl 2 rfl dX11_tap_58 ?_
  refine zS_cVi (as := [.int _]) (st := []) (g' := gX0_hasTapAt) 62 rfl (okX0_hasTapAt _ _ _ (zP10_ground (zP11_world h0))) dX11_tap_59 zC0 (zP10_ground (zP11_world h0)) zw515 cbX0_hasTapAt rfl rfl (by decide) (Nat.le_of_ble_eq_true rfl) (fun r3 w4 => ?_)
  refine zS_if_ne 83 65 rfl dX11_tap_62 (by decide) ?_ ?_
  · refine zS_iload_n 66 rfl 1 rfl dX11_tap_65 ?_
    refine zS_if_eq 86 69 rfl dX11_tap_66 (by decide) ?_ ?_
    · refine zS_sub [0, 1, 2, 3] (show _ = [(0, .ref _), (1, .int _), (2, .int _), (3, .int _)] from rfl) ?_
      exact sX11_tap_86 _ _ _ _ h0 _
    · refine zS_aload_n 70 rfl 0 rfl dX11_tap_69 ?_
      refine zS_getfp 73 rfl 0 dX11_tap_70 zC11 zw465 (by decide) rfl h0 ?_
      refine zS_iload_n 74 rfl 1 rfl dX11_tap_73 ?_
      refine zS_iload_n 75 rfl 2 rfl dX11_tap_74 ?_
      refine zS_iload 77 rfl 4 rfl dX11_tap_75 ?_
      refine zS_cVi (as := [.int _, .int _, .int _]) (st := []) (g' := gX10_mayBe) 80 rfl (okX10_mayBe _ _ _ _ _ (zP11_world h0)) dX11_tap_77 zC10 (zP11_world h0) zw519 cbX10_mayBe rfl rfl (by decide) (Nat.le_of_ble_eq_true rfl) (fun r7 w8 => ?_)
      refine zS_if_ne 86 83 rfl dX11_tap_80 (by decide) ?_ ?_
      · refine zS_sub [] (show _ = [] from rfl) ?_
        exact sX11_tap_83 _
      · refine zS_sub [0, 1, 2, 3] (show _ = [(0, .ref _), (1, .int _), (2, .int _), (3, .int _)] from rfl) ?_
        exact sX11_tap_86 _ _ _ _ h0 _
  · refine zS_sub [] (show _ = [] from rfl) ?_
    exact sX11_tap_83 _

set_option maxHeartbeats 4000000 in
set_option maxRecDepth 100000 in
theorem sX11_tap_48 (w : zWd) : zS gX11_tap zEi 48 [] [] w (mX11_tap_48 w) := by
  unfold mX11_tap_48
  refine zS_bipush 50 rfl (-2 : Int32) (by decide) dX11_tap_48 ?_
  exact zS_reti dX11_tap_50 rfl

set_option maxHeartbeats 4000000 in
set_option maxRecDepth 100000 in
theorem sX11_tap (v0 : Nat) (v1 : Int32) (v2 : Int32) (v3 : Int32) (v4 : Int32) (h0 : zShp v0 = (11, 11)) (w : zWd) : zS gX11_tap zEi 0 [(0, .ref v0), (1, .int v1), (2, .int v2), (3, .int v3), (4, .int v4)] [] w (mX11_tap v0 v1 v2 v3 v4 w) := by
  unfold mX11_tap
  refine zS_iload_n 1 rfl 1 rfl dX11_tap_0 ?_
  refine zS_if_lt 18 4 rfl dX11_tap_1 (by decide) ?_ ?_
  · refine zS_sub [] (show _ = [] from rfl) ?_
    exact sX11_tap_18 _
  · refine zS_iload_n 5 rfl 1 rfl dX11_tap_4 ?_
    refine zS_iconst 6 rfl (2 : Int32) (by decide) dX11_tap_5 ?_
    refine zS_icmp_gt 18 9 rfl dX11_tap_6 (by decide) ?_ ?_
    · refine zS_sub [] (show _ = [] from rfl) ?_
      exact sX11_tap_18 _
    · refine zS_iload_n 10 rfl 2 rfl dX11_tap_9 ?_
      refine zS_bipush 12 rfl (30 : Int32) (by decide) dX11_tap_10 ?_
      refine zS_cSi (as := [.int _, .int _]) (st := []) (g' := gX11_within) 15 rfl (okX11_within _ _ _) dX11_tap_12 zw503 cbX11_within rfl rfl (by decide) (Nat.le_of_ble_eq_true rfl) (fun r1 w2 => ?_)
      refine zS_if_ne 20 18 rfl dX11_tap_15 (by decide) ?_ ?_
      · refine zS_sub [] (show _ = [] from rfl) ?_
        exact sX11_tap_18 _
      · refine zS_iload_n 21 rfl 1 rfl dX11_tap_20 ?_
        refine zS_if_eq 51 24 rfl dX11_tap_21 (by decide) ?_ ?_
        · exact sX11_tap_51 _ _ _ _ _ h0 _
        · refine zS_iload_n 25 rfl 3 rfl dX11_tap_24 ?_
          refine zS_iconst 26 rfl (1 : Int32) (by decide) dX11_tap_25 ?_
          refine zS_icmp_lt 48 29 rfl dX11_tap_26 (by decide) ?_ ?_
          · refine zS_sub [] (show _ = [] from rfl) ?_
            exact sX11_tap_48 _
          · refine zS_iload_n 30 rfl 3 rfl dX11_tap_29 ?_
            refine zS_sipush 33 rfl (500 : Int32) (by decide) dX11_tap_30 ?_
            refine zS_icmp_gt 48 36 rfl dX11_tap_33 (by decide) ?_ ?_
            · refine zS_sub [] (show _ = [] from rfl) ?_
              exact sX11_tap_48 _
            · refine zS_iload 38 rfl 4 rfl dX11_tap_36 ?_
              refine zS_if_lt 48 41 rfl dX11_tap_38 (by decide) ?_ ?_
              · refine zS_sub [] (show _ = [] from rfl) ?_
                exact sX11_tap_48 _
              · refine zS_iload 43 rfl 4 rfl dX11_tap_41 ?_
                refine zS_bipush 45 rfl (99 : Int32) (by decide) dX11_tap_43 ?_
                refine zS_icmp_le 51 48 rfl dX11_tap_45 (by decide) ?_ ?_
                · exact sX11_tap_51 _ _ _ _ _ h0 _
                · refine zS_sub [] (show _ = [] from rfl) ?_
                  exact sX11_tap_48 _

theorem okX11_tap (v0 : Nat) (v1 : Int32) (v2 : Int32) (v3 : Int32) (v4 : Int32) (w : zWd) (h0 : zShp v0 = (11, 11)) : zOk gX11_tap zEi [.ref v0, .int v1, .int v2, .int v3, .int v4] w (mX11_tap v0 v1 v2 v3 v4 w) := zOk_of (by decide) rfl (Nat.le_of_ble_eq_true rfl) (sX11_tap v0 v1 v2 v3 v4 h0 w)
abbrev gX11_isTap : zMth := (yX11_isTap, cX11_isTap, 2, (some .boolean), 2, zE0)
theorem cbX11_isTap : zCbV yX11_isTap cX11_isTap 2 (some .boolean) 1 := ⟨zw569, zw2, zw77, zw570, by decide, by decide, by decide +kernel⟩
set_option maxHeartbeats 4000000 in
set_option maxRecDepth 100000 in
theorem sX11_isTap (v0 : Nat) (v1 : Int32) (h0 : zShp v0 = (11, 11)) (w : zWd) : zS gX11_isTap zEi 0 [(0, .ref v0), (1, .int v1)] [] w (mX11_isTap v0 v1 w) := by
  unfold mX11_isTap
  refine zS_iload_n 1 rfl 1 rfl dX11_isTap_0 ?_
  refine zS_aload_n 2 rfl 0 rfl dX11_isTap_1 ?_
  refine zS_getfp 5 rfl 0 dX11_isTap_2 zC11 zw465 (by decide) rfl h0 ?_
  refine zS_getfp 8 rfl 1 dX11_isTap_5 zC10 zw347 (by decide) rfl (zP11_world h0) ?_
  refine zS_getfi 11 rfl 1 dX11_isTap_8 zC0 zw123 (by decide) rfl (zP10_ground (zP11_world h0)) ?_
  refine zS_cSi (as := [.int _, .int _]) (st := []) (g' := gX11_within) 14 rfl (okX11_within _ _ _) dX11_isTap_11 zw503 cbX11_within rfl rfl (by decide) (Nat.le_of_ble_eq_true rfl) (fun r1 w2 => ?_)
  exact zS_retb dX11_isTap_14 rfl

theorem okX11_isTap (v0 : Nat) (v1 : Int32) (w : zWd) (h0 : zShp v0 = (11, 11)) : zOk gX11_isTap zEi [.ref v0, .int v1] w (mX11_isTap v0 v1 w) := zOk_of (by decide) rfl (Nat.le_of_ble_eq_true rfl) (sX11_isTap v0 v1 h0 w)
abbrev gX11_shut : zMth := (yX11_shut, cX11_shut, 4, (some .int), 3, zE0)
theorem cbX11_shut : zCbV yX11_shut cX11_shut 4 (some .int) 2 := ⟨zw564, zw565, zw77, zw566, by decide, by decide, by decide +kernel⟩
set_option maxHeartbeats 4000000 in
set_option maxRecDepth 100000 in
theorem sX11_shut_69 (v3 : Int32) (s0 : Int32) (s1 : Nat) (t1 : zShp s1 = (0, 11)) (w : zWd) : zS gX11_shut zEi 69 [(3, .int v3)] [.int s0, .ref s1] w (mX11_shut_69 v3 s0 s1 w) := by
  unfold mX11_shut_69
  refine zS_putfi 72 rfl 2 dX11_shut_69 zC0 zw125 (by decide) rfl rfl rfl t1 ?_
  refine zS_bnw (fun w4 => ?_)
  refine zS_iload_n 73 rfl 0 rfl dX11_shut_72 ?_
  exact zS_reti dX11_shut_73 rfl

set_option maxHeartbeats 4000000 in
set_option maxRecDepth 100000 in
theorem sX11_shut (v0 : Nat) (v1 : Int32) (v2 : Int32) (h0 : zShp v0 = (11, 11)) (w : zWd) : zS gX11_shut zEi 0 [(0, .ref v0), (1, .int v1), (2, .int v2)] [] w (mX11_shut v0 v1 v2 w) := by
  unfold mX11_shut
  refine zS_aload_n 1 rfl 0 rfl dX11_shut_0 ?_
  refine zS_iload_n 2 rfl 1 rfl dX11_shut_1 ?_
  refine zS_cVi (as := [.int _]) (st := []) (g' := gX11_isTap) 5 rfl (okX11_isTap _ _ _ h0) dX11_shut_2 zC11 h0 zw567 cbX11_isTap rfl rfl (by decide) (Nat.le_of_ble_eq_true rfl) (fun r1 w2 => ?_)
  refine zS_if_ne 10 8 rfl dX11_shut_5 (by decide) ?_ ?_
  · refine zS_iconst 9 rfl (-1 : Int32) (by decide) dX11_shut_8 ?_
    exact zS_reti dX11_shut_9 rfl
  · refine zS_aload_n 11 rfl 0 rfl dX11_shut_10 ?_
    refine zS_getfp 14 rfl 0 dX11_shut_11 zC11 zw465 (by decide) rfl h0 ?_
    refine zS_getfp 17 rfl 1 dX11_shut_14 zC10 zw347 (by decide) rfl (zP11_world h0) ?_
    refine zS_getfi 20 rfl 2 dX11_shut_17 zC0 zw125 (by decide) rfl (zP10_ground (zP11_world h0)) ?_
    refine zS_iload_n 21 rfl 1 rfl dX11_shut_20 ?_
    refine zS_ishr 22 rfl dX11_shut_21 ?_
    refine zS_iconst 23 rfl (1 : Int32) (by decide) dX11_shut_22 ?_
    refine zS_iand 24 rfl dX11_shut_23 ?_
    refine zS_bni (fun x3 => ?_)
    refine zS_istore_n 25 rfl dX11_shut_24 (by show 3 < 4; decide) (show _ = [(3, .int _), (0, .ref _), (1, .int _), (2, .int _)] from rfl) ?_
    refine zS_aload_n 26 rfl 1 rfl dX11_shut_25 ?_
    refine zS_getfp 29 rfl 0 dX11_shut_26 zC11 zw465 (by decide) rfl h0 ?_
    refine zS_getfp 32 rfl 1 dX11_shut_29 zC10 zw347 (by decide) rfl (zP11_world h0) ?_
    refine zS_iload_n 33 rfl 3 rfl dX11_shut_32 ?_
    refine zS_if_eq 53 36 rfl dX11_shut_33 (by decide) ?_ ?_
    · refine zS_aload_n 54 rfl 1 rfl dX11_shut_53 ?_
      refine zS_getfp 57 rfl 0 dX11_shut_54 zC11 zw465 (by decide) rfl h0 ?_
      refine zS_getfp 60 rfl 1 dX11_shut_57 zC10 zw347 (by decide) rfl (zP11_world h0) ?_
      refine zS_getfi 63 rfl 2 dX11_shut_60 zC0 zw125 (by decide) rfl (zP10_ground (zP11_world h0)) ?_
      refine zS_iconst 64 rfl (1 : Int32) (by decide) dX11_shut_63 ?_
      refine zS_iload_n 65 rfl 2 rfl dX11_shut_64 ?_
      refine zS_ishl 66 rfl dX11_shut_65 ?_
      refine zS_iconst 67 rfl (-1 : Int32) (by decide) dX11_shut_66 ?_
      refine zS_ixor 68 rfl dX11_shut_67 ?_
      refine zS_iand 69 rfl dX11_shut_68 ?_
      refine zS_sub [0] (show _ = [(3, .int _)] from rfl) ?_
      exact sX11_shut_69 _ _ _ (zP10_ground (zP11_world h0)) _
    · refine zS_aload_n 37 rfl 1 rfl dX11_shut_36 ?_
      refine zS_getfp 40 rfl 0 dX11_shut_37 zC11 zw465 (by decide) rfl h0 ?_
      refine zS_getfp 43 rfl 1 dX11_shut_40 zC10 zw347 (by decide) rfl (zP11_world h0) ?_
      refine zS_getfi 46 rfl 2 dX11_shut_43 zC0 zw125 (by decide) rfl (zP10_ground (zP11_world h0)) ?_
      refine zS_iconst 47 rfl (1 : Int32) (by decide) dX11_shut_46 ?_
      refine zS_iload_n 48 rfl 2 rfl dX11_shut_47 ?_
      refine zS_ishl 49 rfl dX11_shut_48 ?_
      refine zS_ior 50 rfl dX11_shut_49 ?_
      refine zS_goto 69 dX11_shut_50 (by decide) ?_
      refine zS_sub [0] (show _ = [(3, .int _)] from rfl) ?_
      exact sX11_shut_69 _ _ _ (zP10_ground (zP11_world h0)) _

theorem okX11_shut (v0 : Nat) (v1 : Int32) (v2 : Int32) (w : zWd) (h0 : zShp v0 = (11, 11)) : zOk gX11_shut zEi [.ref v0, .int v1, .int v2] w (mX11_shut v0 v1 v2 w) := zOk_of (by decide) rfl (Nat.le_of_ble_eq_true rfl) (sX11_shut v0 v1 v2 h0 w)
abbrev gX11_dawn : zMth := (yX11_dawn, cX11_dawn, 3, (some .int), 4, zE0)
theorem cbX11_dawn : zCbV yX11_dawn cX11_dawn 3 (some .int) 1 := ⟨zw572, zw573, zw77, zw574, by decide, by decide, by decide +kernel⟩
set_option maxHeartbeats 4000000 in
set_option maxRecDepth 100000 in
theorem sX11_dawn_26 (w : zWd) : zS gX11_dawn zEi 26 [] [] w (mX11_dawn_26 w) := by
  unfold mX11_dawn_26
  refine zS_bipush 28 rfl (-2 : Int32) (by decide) dX11_dawn_26 ?_
  exact zS_reti dX11_dawn_28 rfl

set_option maxHeartbeats 4000000 in
set_option maxRecDepth 100000 in
theorem sX11_dawn_31b (v0 : Nat) (v1 : Int32) (k31 : Int32 × zWd → Option (Int32 × zWd)) (v2 : Int32) (hk31 : ∀ (v2 : Int32) (w : zWd), zS gX11_dawn zEi 31 [(0, .ref v0), (1, .int v1), (2, .int v2)] [] w (k31 (v2, w))) (h0 : zShp v0 = (11, 11)) (w : zWd) : zS gX11_dawn zEi 31 [(0, .ref v0), (1, .int v1), (2, .int v2)] [] w (mX11_dawn_31b v0 v1 k31 v2 w) := by
  unfold mX11_dawn_31b
  refine zS_iload_n 32 rfl 2 rfl dX11_dawn_31 ?_
  refine zS_iload_n 33 rfl 1 rfl dX11_dawn_32 ?_
  refine zS_icmp_ge 97 36 rfl dX11_dawn_33 (by decide) ?_ ?_
  · refine zS_aload_n 98 rfl 0 rfl dX11_dawn_97 ?_
    refine zS_getfp 101 rfl 0 dX11_dawn_98 zC11 zw465 (by decide) rfl h0 ?_
    refine zS_getfi 104 rfl 0 dX11_dawn_101 zC10 zw345 (by decide) rfl (zP11_world h0) ?_
    exact zS_reti dX11_dawn_104 rfl
  · refine zS_aload_n 37 rfl 0 rfl dX11_dawn_36 ?_
    refine zS_getfp 40 rfl 0 dX11_dawn_37 zC11 zw465 (by decide) rfl h0 ?_
    refine zS_getfp 43 rfl 1 dX11_dawn_40 zC10 zw347 (by decide) rfl (zP11_world h0) ?_
    refine zS_cVv (as := []) (st := []) (g' := gX0_passDay) 46 rfl (okX0_passDay _ _ (zP10_ground (zP11_world h0))) dX11_dawn_43 zC0 (zP10_ground (zP11_world h0)) zw575 cbX0_passDay rfl rfl (by decide) (Nat.le_of_ble_eq_true rfl) (fun r1 w2 => ?_)
    refine zS_aload_n 47 rfl 0 rfl dX11_dawn_46 ?_
    refine zS_getfp 50 rfl 0 dX11_dawn_47 zC11 zw465 (by decide) rfl h0 ?_
    refine zS_getfp 53 rfl 1 dX11_dawn_50 zC10 zw347 (by decide) rfl (zP11_world h0) ?_
    refine zS_getfp 56 rfl 9 dX11_dawn_53 zC0 zw139 (by decide) rfl (zP10_ground (zP11_world h0)) ?_
    refine zS_iconst 57 rfl (0 : Int32) (by decide) dX11_dawn_56 ?_
    refine zS_aload_n 58 rfl 0 rfl dX11_dawn_57 ?_
    refine zS_getfp 61 rfl 3 dX11_dawn_58 zC11 zw468 (by decide) rfl h0 ?_
    refine zS_aload_n 62 rfl 0 rfl dX11_dawn_61 ?_
    refine zS_getfp 65 rfl 0 dX11_dawn_62 zC11 zw465 (by decide) rfl h0 ?_
    refine zS_getfi 68 rfl 0 dX11_dawn_65 zC10 zw345 (by decide) rfl (zP11_world h0) ?_
    refine zS_bipush 70 rfl (12 : Int32) (by decide) dX11_dawn_68 ?_
    refine zS_imul 71 rfl dX11_dawn_70 ?_
    refine zS_iconst 72 rfl (4 : Int32) (by decide) dX11_dawn_71 ?_
    refine zS_imul 73 rfl dX11_dawn_72 ?_
    refine zS_bipush 75 rfl (48 : Int32) (by decide) dX11_dawn_73 ?_
    refine zS_copy 78 rfl dX11_dawn_75 zw609 zw611 zw610 zw91 (zP0_flows (zP10_ground (zP11_world h0))) (zP11_past h0) (by decide) (Nat.le_of_ble_eq_true rfl) zNfw ?_
    refine zS_bnw (fun w3 => ?_)
    refine zS_aload_n 79 rfl 0 rfl dX11_dawn_78 ?_
    refine zS_getfp 82 rfl 0 dX11_dawn_79 zC11 zw465 (by decide) rfl h0 ?_
    refine zS_dup 83 rfl rfl dX11_dawn_82 ?_
    refine zS_getfi 86 rfl 0 dX11_dawn_83 zC10 zw345 (by decide) rfl (zP11_world h0) ?_
    refine zS_iconst 87 rfl (1 : Int32) (by decide) dX11_dawn_86 ?_
    refine zS_iadd 88 rfl dX11_dawn_87 ?_
    refine zS_putfi 91 rfl 0 dX11_dawn_88 zC10 zw345 (by decide) rfl rfl rfl (zP11_world h0) ?_
    refine zS_bnw (fun w4 => ?_)
    refine zS_iinc 94 rfl 2 (_ + (1 : Int32)) dX11_dawn_91 rfl (by show 2 < 3; decide) rfl (show _ = [(2, .int _), (0, .ref _), (1, .int _)] from rfl) ?_
    refine zS_goto 31 dX11_dawn_94 (by decide) ?_
    refine zS_sub [1, 2, 0] (show _ = [(0, .ref _), (1, .int _), (2, .int _)] from rfl) ?_
    exact hk31 _ _

theorem sX11_dawn_31 (v0 : Nat) (v1 : Int32) (v2 : Int32) (h0 : zShp v0 = (11, 11)) (w : zWd) : zS gX11_dawn zEi 31 [(0, .ref v0), (1, .int v1), (2, .int v2)] [] w (mX11_dawn_31 v0 v1 v2 w) :=
  zS_loop (L := fun q : Int32 × zWd => [(0, .ref v0), (1, .int v1), (2, .int q.1)]) (V := fun q => q.2) (T := fun _ => []) (F := fun k q => mX11_dawn_31b v0 v1 k q.1 q.2) (fun k hk q => sX11_dawn_31b v0 v1 k q.1 (fun a2 w => hk (a2, w)) h0 q.2) zFU (v2, w)
set_option maxHeartbeats 4000000 in
set_option maxRecDepth 100000 in
theorem sX11_dawn (v0 : Nat) (v1 : Int32) (h0 : zShp v0 = (11, 11)) (w : zWd) : zS gX11_dawn zEi 0 [(0, .ref v0), (1, .int v1)] [] w (mX11_dawn v0 v1 w) := by
  unfold mX11_dawn
  refine zS_iload_n 1 rfl 1 rfl dX11_dawn_0 ?_
  refine zS_iconst 2 rfl (1 : Int32) (by decide) dX11_dawn_1 ?_
  refine zS_icmp_lt 26 5 rfl dX11_dawn_2 (by decide) ?_ ?_
  · refine zS_sub [] (show _ = [] from rfl) ?_
    exact sX11_dawn_26 _
  · refine zS_iload_n 6 rfl 1 rfl dX11_dawn_5 ?_
    refine zS_bipush 8 rfl (30 : Int32) (by decide) dX11_dawn_6 ?_
    refine zS_icmp_gt 26 11 rfl dX11_dawn_8 (by decide) ?_ ?_
    · refine zS_sub [] (show _ = [] from rfl) ?_
      exact sX11_dawn_26 _
    · refine zS_aload_n 12 rfl 0 rfl dX11_dawn_11 ?_
      refine zS_getfp 15 rfl 0 dX11_dawn_12 zC11 zw465 (by decide) rfl h0 ?_
      refine zS_getfi 18 rfl 0 dX11_dawn_15 zC10 zw345 (by decide) rfl (zP11_world h0) ?_
      refine zS_iload_n 19 rfl 1 rfl dX11_dawn_18 ?_
      refine zS_iadd 20 rfl dX11_dawn_19 ?_
      refine zS_sipush 23 rfl (400 : Int32) (by decide) dX11_dawn_20 ?_
      refine zS_icmp_le 29 26 rfl dX11_dawn_23 (by decide) ?_ ?_
      · refine zS_iconst 30 rfl (0 : Int32) (by decide) dX11_dawn_29 ?_
        refine zS_istore_n 31 rfl dX11_dawn_30 (by show 2 < 3; decide) (show _ = [(2, .int _), (0, .ref _), (1, .int _)] from rfl) ?_
        refine zS_sub [1, 2, 0] (show _ = [(0, .ref _), (1, .int _), (2, .int _)] from rfl) ?_
        exact sX11_dawn_31 _ _ _ h0 _
      · refine zS_sub [] (show _ = [] from rfl) ?_
        exact sX11_dawn_26 _

theorem okX11_dawn (v0 : Nat) (v1 : Int32) (w : zWd) (h0 : zShp v0 = (11, 11)) : zOk gX11_dawn zEi [.ref v0, .int v1] w (mX11_dawn v0 v1 w) := zOk_of (by decide) rfl (Nat.le_of_ble_eq_true rfl) (sX11_dawn v0 v1 h0 w)
abbrev gX11_wentBy : zMth := (yX11_wentBy, cX11_wentBy, 3, (some .boolean), 1, zE0)
theorem cbX11_wentBy : zCbV yX11_wentBy cX11_wentBy 3 (some .boolean) 2 := ⟨zw618, zw9, zw77, zw619, by decide, by decide, by decide +kernel⟩
set_option maxHeartbeats 4000000 in
set_option maxRecDepth 100000 in
theorem sX11_wentBy_32 (s0 : Int32) (w : zWd) : zS gX11_wentBy zEi 32 [] [.int s0] w (mX11_wentBy_32 s0 w) := by
  unfold mX11_wentBy_32
  exact zS_retb dX11_wentBy_32 rfl

set_option maxHeartbeats 4000000 in
set_option maxRecDepth 100000 in
theorem sX11_wentBy_31 (w : zWd) : zS gX11_wentBy zEi 31 [] [] w (mX11_wentBy_31 w) := by
  unfold mX11_wentBy_31
  refine zS_iconst 32 rfl (0 : Int32) (by decide) dX11_wentBy_31 ?_
  exact sX11_wentBy_32 _ _

set_option maxHeartbeats 4000000 in
set_option maxRecDepth 100000 in
theorem sX11_wentBy (v0 : Nat) (v1 : Int32) (v2 : Int32) (h0 : zShp v0 = (11, 11)) (w : zWd) : zS gX11_wentBy zEi 0 [(0, .ref v0), (1, .int v1), (2, .int v2)] [] w (mX11_wentBy v0 v1 v2 w) := by
  unfold mX11_wentBy
  refine zS_iload_n 1 rfl 2 rfl dX11_wentBy_0 ?_
  refine zS_aload_n 2 rfl 0 rfl dX11_wentBy_1 ?_
  refine zS_getfp 5 rfl 0 dX11_wentBy_2 zC11 zw465 (by decide) rfl h0 ?_
  refine zS_getfp 8 rfl 1 dX11_wentBy_5 zC10 zw347 (by decide) rfl (zP11_world h0) ?_
  refine zS_getfp 11 rfl 6 dX11_wentBy_8 zC0 zw133 (by decide) rfl (zP10_ground (zP11_world h0)) ?_
  refine zS_iload_n 12 rfl 1 rfl dX11_wentBy_11 ?_
  refine zS_iald 13 rfl dX11_wentBy_12 (zP0_from (zP10_ground (zP11_world h0))) ?_
  refine zS_icmp_lt 31 16 rfl dX11_wentBy_13 (by decide) ?_ ?_
  · refine zS_sub [] (show _ = [] from rfl) ?_
    exact sX11_wentBy_31 _
  · refine zS_iload_n 17 rfl 2 rfl dX11_wentBy_16 ?_
    refine zS_aload_n 18 rfl 0 rfl dX11_wentBy_17 ?_
    refine zS_getfp 21 rfl 0 dX11_wentBy_18 zC11 zw465 (by decide) rfl h0 ?_
    refine zS_getfi 24 rfl 0 dX11_wentBy_21 zC10 zw345 (by decide) rfl (zP11_world h0) ?_
    refine zS_icmp_ge 31 27 rfl dX11_wentBy_24 (by decide) ?_ ?_
    · refine zS_sub [] (show _ = [] from rfl) ?_
      exact sX11_wentBy_31 _
    · refine zS_iconst 28 rfl (1 : Int32) (by decide) dX11_wentBy_27 ?_
      refine zS_goto 32 dX11_wentBy_28 (by decide) ?_
      refine zS_sub [] (show _ = [] from rfl) ?_
      exact sX11_wentBy_32 _ _

theorem okX11_wentBy (v0 : Nat) (v1 : Int32) (v2 : Int32) (w : zWd) (h0 : zShp v0 = (11, 11)) : zOk gX11_wentBy zEi [.ref v0, .int v1, .int v2] w (mX11_wentBy v0 v1 v2 w) := zOk_of (by decide) rfl (Nat.le_of_ble_eq_true rfl) (sX11_wentBy v0 v1 v2 h0 w)
abbrev gX11_pastFlow : zMth := (yX11_pastFlow, cX11_pastFlow, 4, (some .int), 1, zE0)
theorem cbX11_pastFlow : zCbV yX11_pastFlow cX11_pastFlow 4 (some .int) 3 := ⟨zw622, zw10, zw77, zw623, by decide, by decide, by decide +kernel⟩
set_option maxHeartbeats 4000000 in
set_option maxRecDepth 100000 in
theorem sX11_pastFlow (v0 : Nat) (v1 : Int32) (v2 : Int32) (v3 : Int32) (h0 : zShp v0 = (11, 11)) (w : zWd) : zS gX11_pastFlow zEi 0 [(0, .ref v0), (1, .int v1), (2, .int v2), (3, .int v3)] [] w (mX11_pastFlow v0 v1 v2 v3 w) := by
  unfold mX11_pastFlow
  refine zS_aload_n 1 rfl 0 rfl dX11_pastFlow_0 ?_
  refine zS_getfp 4 rfl 3 dX11_pastFlow_1 zC11 zw468 (by decide) rfl h0 ?_
  refine zS_iload_n 5 rfl 2 rfl dX11_pastFlow_4 ?_
  refine zS_bipush 7 rfl (12 : Int32) (by decide) dX11_pastFlow_5 ?_
  refine zS_imul 8 rfl dX11_pastFlow_7 ?_
  refine zS_iload_n 9 rfl 1 rfl dX11_pastFlow_8 ?_
  refine zS_iadd 10 rfl dX11_pastFlow_9 ?_
  refine zS_iconst 11 rfl (4 : Int32) (by decide) dX11_pastFlow_10 ?_
  refine zS_imul 12 rfl dX11_pastFlow_11 ?_
  refine zS_iload_n 13 rfl 3 rfl dX11_pastFlow_12 ?_
  refine zS_iadd 14 rfl dX11_pastFlow_13 ?_
  refine zS_iald 15 rfl dX11_pastFlow_14 (zP11_past h0) ?_
  exact zS_reti dX11_pastFlow_15 rfl

theorem okX11_pastFlow (v0 : Nat) (v1 : Int32) (v2 : Int32) (v3 : Int32) (w : zWd) (h0 : zShp v0 = (11, 11)) : zOk gX11_pastFlow zEi [.ref v0, .int v1, .int v2, .int v3] w (mX11_pastFlow v0 v1 v2 v3 w) := zOk_of (by decide) rfl (Nat.le_of_ble_eq_true rfl) (sX11_pastFlow v0 v1 v2 v3 h0 w)
abbrev gX11_flow : zMth := (yX11_flow, cX11_flow, 4, (some .int), 3, zE0)
theorem cbX11_flow : zCbV yX11_flow cX11_flow 4 (some .int) 3 := ⟨zw613, zw614, zw77, zw615, by decide, by decide, by decide +kernel⟩
set_option maxHeartbeats 4000000 in
set_option maxRecDepth 100000 in
theorem sX11_flow_25 (w : zWd) : zS gX11_flow zEi 25 [] [] w (mX11_flow_25 w) := by
  unfold mX11_flow_25
  refine zS_iconst 26 rfl (-1 : Int32) (by decide) dX11_flow_25 ?_
  exact zS_reti dX11_flow_26 rfl

set_option maxHeartbeats 4000000 in
set_option maxRecDepth 100000 in
theorem sX11_flow (v0 : Nat) (v1 : Int32) (v2 : Int32) (v3 : Int32) (h0 : zShp v0 = (11, 11)) (w : zWd) : zS gX11_flow zEi 0 [(0, .ref v0), (1, .int v1), (2, .int v2), (3, .int v3)] [] w (mX11_flow v0 v1 v2 v3 w) := by
  unfold mX11_flow
  refine zS_aload_n 1 rfl 0 rfl dX11_flow_0 ?_
  refine zS_iload_n 2 rfl 1 rfl dX11_flow_1 ?_
  refine zS_cVi (as := [.int _]) (st := []) (g' := gX11_isTap) 5 rfl (okX11_isTap _ _ _ h0) dX11_flow_2 zC11 h0 zw567 cbX11_isTap rfl rfl (by decide) (Nat.le_of_ble_eq_true rfl) (fun r1 w2 => ?_)
  refine zS_if_eq 25 8 rfl dX11_flow_5 (by decide) ?_ ?_
  · refine zS_sub [] (show _ = [] from rfl) ?_
    exact sX11_flow_25 _
  · refine zS_aload_n 9 rfl 0 rfl dX11_flow_8 ?_
    refine zS_iload_n 10 rfl 1 rfl dX11_flow_9 ?_
    refine zS_iload_n 11 rfl 2 rfl dX11_flow_10 ?_
    refine zS_cVi (as := [.int _, .int _]) (st := []) (g' := gX11_wentBy) 14 rfl (okX11_wentBy _ _ _ _ h0) dX11_flow_11 zC11 h0 zw616 cbX11_wentBy rfl rfl (by decide) (Nat.le_of_ble_eq_true rfl) (fun r3 w4 => ?_)
    refine zS_if_eq 25 17 rfl dX11_flow_14 (by decide) ?_ ?_
    · refine zS_sub [] (show _ = [] from rfl) ?_
      exact sX11_flow_25 _
    · refine zS_iload_n 18 rfl 3 rfl dX11_flow_17 ?_
      refine zS_iconst 19 rfl (4 : Int32) (by decide) dX11_flow_18 ?_
      refine zS_cSi (as := [.int _, .int _]) (st := []) (g' := gX11_within) 22 rfl (okX11_within _ _ _) dX11_flow_19 zw503 cbX11_within rfl rfl (by decide) (Nat.le_of_ble_eq_true rfl) (fun r5 w6 => ?_)
      refine zS_if_ne 27 25 rfl dX11_flow_22 (by decide) ?_ ?_
      · refine zS_sub [] (show _ = [] from rfl) ?_
        exact sX11_flow_25 _
      · refine zS_aload_n 28 rfl 0 rfl dX11_flow_27 ?_
        refine zS_iload_n 29 rfl 1 rfl dX11_flow_28 ?_
        refine zS_iload_n 30 rfl 2 rfl dX11_flow_29 ?_
        refine zS_iload_n 31 rfl 3 rfl dX11_flow_30 ?_
        refine zS_cVi (as := [.int _, .int _, .int _]) (st := []) (g' := gX11_pastFlow) 34 rfl (okX11_pastFlow _ _ _ _ _ h0) dX11_flow_31 zC11 h0 zw620 cbX11_pastFlow rfl rfl (by decide) (Nat.le_of_ble_eq_true rfl) (fun r7 w8 => ?_)
        exact zS_reti dX11_flow_34 rfl

theorem okX11_flow (v0 : Nat) (v1 : Int32) (v2 : Int32) (v3 : Int32) (w : zWd) (h0 : zShp v0 = (11, 11)) : zOk gX11_flow zEi [.ref v0, .int v1, .int v2, .int v3] w (mX11_flow v0 v1 v2 v3 w) := zOk_of (by decide) rfl (Nat.le_of_ble_eq_true rfl) (sX11_flow v0 v1 v2 v3 h0 w)
abbrev gX11_pipe : zMth := (yX11_pipe, cX11_pipe, 4, (some .int), 3, zE0)
theorem cbX11_pipe : zCbV yX11_pipe cX11_pipe 4 (some .int) 2 := ⟨zw625, zw626, zw77, zw627, by decide, by decide, by decide +kernel⟩
set_option maxHeartbeats 4000000 in
set_option maxRecDepth 100000 in
theorem sX11_pipe_20 (w : zWd) : zS gX11_pipe zEi 20 [] [] w (mX11_pipe_20 w) := by
  unfold mX11_pipe_20
  refine zS_bipush 22 rfl (-2 : Int32) (by decide) dX11_pipe_20 ?_
  exact zS_reti dX11_pipe_22 rfl

set_option maxHeartbeats 4000000 in
set_option maxRecDepth 100000 in
theorem sX11_pipe (v0 : Nat) (v1 : Int32) (v2 : Int32) (h0 : zShp v0 = (11, 11)) (w : zWd) : zS gX11_pipe zEi 0 [(0, .ref v0), (1, .int v1), (2, .int v2)] [] w (mX11_pipe v0 v1 v2 w) := by
  unfold mX11_pipe
  refine zS_aload_n 1 rfl 0 rfl dX11_pipe_0 ?_
  refine zS_iload_n 2 rfl 1 rfl dX11_pipe_1 ?_
  refine zS_cVi (as := [.int _]) (st := []) (g' := gX11_isTap) 5 rfl (okX11_isTap _ _ _ h0) dX11_pipe_2 zC11 h0 zw567 cbX11_isTap rfl rfl (by decide) (Nat.le_of_ble_eq_true rfl) (fun r1 w2 => ?_)
  refine zS_if_ne 10 8 rfl dX11_pipe_5 (by decide) ?_ ?_
  · refine zS_iconst 9 rfl (-1 : Int32) (by decide) dX11_pipe_8 ?_
    exact zS_reti dX11_pipe_9 rfl
  · refine zS_iload_n 11 rfl 2 rfl dX11_pipe_10 ?_
    refine zS_if_lt 20 14 rfl dX11_pipe_11 (by decide) ?_ ?_
    · refine zS_sub [] (show _ = [] from rfl) ?_
      exact sX11_pipe_20 _
    · refine zS_iload_n 15 rfl 2 rfl dX11_pipe_14 ?_
      refine zS_bipush 17 rfl (99 : Int32) (by decide) dX11_pipe_15 ?_
      refine zS_icmp_le 23 20 rfl dX11_pipe_17 (by decide) ?_ ?_
      · refine zS_aload_n 24 rfl 0 rfl dX11_pipe_23 ?_
        refine zS_getfp 27 rfl 0 dX11_pipe_24 zC11 zw465 (by decide) rfl h0 ?_
        refine zS_getfp 30 rfl 1 dX11_pipe_27 zC10 zw347 (by decide) rfl (zP11_world h0) ?_
        refine zS_getfp 33 rfl 7 dX11_pipe_30 zC0 zw135 (by decide) rfl (zP10_ground (zP11_world h0)) ?_
        refine zS_iload_n 34 rfl 1 rfl dX11_pipe_33 ?_
        refine zS_iald 35 rfl dX11_pipe_34 (zP0_length (zP10_ground (zP11_world h0))) ?_
        refine zS_bni (fun x3 => ?_)
        refine zS_istore_n 36 rfl dX11_pipe_35 (by show 3 < 4; decide) (show _ = [(3, .int _), (0, .ref _), (1, .int _), (2, .int _)] from rfl) ?_
        refine zS_aload_n 37 rfl 1 rfl dX11_pipe_36 ?_
        refine zS_getfp 40 rfl 0 dX11_pipe_37 zC11 zw465 (by decide) rfl h0 ?_
        refine zS_getfp 43 rfl 1 dX11_pipe_40 zC10 zw347 (by decide) rfl (zP11_world h0) ?_
        refine zS_getfp 46 rfl 7 dX11_pipe_43 zC0 zw135 (by decide) rfl (zP10_ground (zP11_world h0)) ?_
        refine zS_iload_n 47 rfl 2 rfl dX11_pipe_46 ?_
        refine zS_iload_n 48 rfl 3 rfl dX11_pipe_47 ?_
        refine zS_iast 49 rfl dX11_pipe_48 (zP0_length (zP10_ground (zP11_world h0))) ?_
        refine zS_bnw (fun w4 => ?_)
        refine zS_iload_n 50 rfl 0 rfl dX11_pipe_49 ?_
        exact zS_reti dX11_pipe_50 rfl
      · refine zS_sub [] (show _ = [] from rfl) ?_
        exact sX11_pipe_20 _

theorem okX11_pipe (v0 : Nat) (v1 : Int32) (v2 : Int32) (w : zWd) (h0 : zShp v0 = (11, 11)) : zOk gX11_pipe zEi [.ref v0, .int v1, .int v2] w (mX11_pipe v0 v1 v2 w) := zOk_of (by decide) rfl (Nat.le_of_ble_eq_true rfl) (sX11_pipe v0 v1 v2 h0 w)
abbrev gX11_scale : zMth := (yX11_scale, cX11_scale, 3, (some .int), 3, zE0)
theorem cbX11_scale : zCbV yX11_scale cX11_scale 3 (some .int) 1 := ⟨zw629, zw630, zw77, zw631, by decide, by decide, by decide +kernel⟩
set_option maxHeartbeats 4000000 in
set_option maxRecDepth 100000 in
theorem sX11_scale (v0 : Nat) (v1 : Int32) (h0 : zShp v0 = (11, 11)) (w : zWd) : zS gX11_scale zEi 0 [(0, .ref v0), (1, .int v1)] [] w (mX11_scale v0 v1 w) := by
  unfold mX11_scale
  refine zS_aload_n 1 rfl 0 rfl dX11_scale_0 ?_
  refine zS_iload_n 2 rfl 1 rfl dX11_scale_1 ?_
  refine zS_cVi (as := [.int _]) (st := []) (g' := gX11_isTap) 5 rfl (okX11_isTap _ _ _ h0) dX11_scale_2 zC11 h0 zw567 cbX11_isTap rfl rfl (by decide) (Nat.le_of_ble_eq_true rfl) (fun r1 w2 => ?_)
  refine zS_if_ne 10 8 rfl dX11_scale_5 (by decide) ?_ ?_
  · refine zS_iconst 9 rfl (-1 : Int32) (by decide) dX11_scale_8 ?_
    exact zS_reti dX11_scale_9 rfl
  · refine zS_aload_n 11 rfl 0 rfl dX11_scale_10 ?_
    refine zS_getfp 14 rfl 0 dX11_scale_11 zC11 zw465 (by decide) rfl h0 ?_
    refine zS_getfp 17 rfl 1 dX11_scale_14 zC10 zw347 (by decide) rfl (zP11_world h0) ?_
    refine zS_getfp 20 rfl 8 dX11_scale_17 zC0 zw137 (by decide) rfl (zP10_ground (zP11_world h0)) ?_
    refine zS_iload_n 21 rfl 1 rfl dX11_scale_20 ?_
    refine zS_iald 22 rfl dX11_scale_21 (zP0_closing (zP10_ground (zP11_world h0))) ?_
    refine zS_bni (fun x3 => ?_)
    refine zS_istore_n 23 rfl dX11_scale_22 (by show 2 < 3; decide) (show _ = [(2, .int _), (0, .ref _), (1, .int _)] from rfl) ?_
    refine zS_aload_n 24 rfl 1 rfl dX11_scale_23 ?_
    refine zS_getfp 27 rfl 0 dX11_scale_24 zC11 zw465 (by decide) rfl h0 ?_
    refine zS_getfp 30 rfl 1 dX11_scale_27 zC10 zw347 (by decide) rfl (zP11_world h0) ?_
    refine zS_getfp 33 rfl 8 dX11_scale_30 zC0 zw137 (by decide) rfl (zP10_ground (zP11_world h0)) ?_
    refine zS_iload_n 34 rfl 2 rfl dX11_scale_33 ?_
    refine zS_iconst 35 rfl (0 : Int32) (by decide) dX11_scale_34 ?_
    refine zS_iast 36 rfl dX11_scale_35 (zP0_closing (zP10_ground (zP11_world h0))) ?_
    refine zS_bnw (fun w4 => ?_)
    refine zS_iload_n 37 rfl 0 rfl dX11_scale_36 ?_
    exact zS_reti dX11_scale_37 rfl

theorem okX11_scale (v0 : Nat) (v1 : Int32) (w : zWd) (h0 : zShp v0 = (11, 11)) : zOk gX11_scale zEi [.ref v0, .int v1] w (mX11_scale v0 v1 w) := zOk_of (by decide) rfl (Nat.le_of_ble_eq_true rfl) (sX11_scale v0 v1 h0 w)
abbrev gX11_feed : zMth := (yX11_feed, cX11_feed, 4, (some .int), 2, zE0)
theorem cbX11_feed : zCbV yX11_feed cX11_feed 4 (some .int) 2 := ⟨zw633, zw634, zw77, zw635, by decide, by decide, by decide +kernel⟩
set_option maxHeartbeats 4000000 in
set_option maxRecDepth 100000 in
theorem sX11_feed_11 (w : zWd) : zS gX11_feed zEi 11 [] [] w (mX11_feed_11 w) := by
  unfold mX11_feed_11
  refine zS_bipush 13 rfl (-2 : Int32) (by decide) dX11_feed_11 ?_
  exact zS_reti dX11_feed_13 rfl

set_option maxHeartbeats 4000000 in
set_option maxRecDepth 100000 in
theorem sX11_feed (v0 : Nat) (v1 : Int64) (v3 : Int32) (h0 : zShp v0 = (11, 11)) (w : zWd) : zS gX11_feed zEi 0 [(0, .ref v0), (1, .long v1), (3, .int v3)] [] w (mX11_feed v0 v1 v3 w) := by
  unfold mX11_feed
  refine zS_iload_n 1 rfl 2 rfl dX11_feed_0 ?_
  refine zS_iconst 2 rfl (1 : Int32) (by decide) dX11_feed_1 ?_
  refine zS_icmp_lt 11 5 rfl dX11_feed_2 (by decide) ?_ ?_
  · refine zS_sub [] (show _ = [] from rfl) ?_
    exact sX11_feed_11 _
  · refine zS_iload_n 6 rfl 2 rfl dX11_feed_5 ?_
    refine zS_bipush 8 rfl (8 : Int32) (by decide) dX11_feed_6 ?_
    refine zS_icmp_le 14 11 rfl dX11_feed_8 (by decide) ?_ ?_
    · refine zS_aload_n 15 rfl 0 rfl dX11_feed_14 ?_
      refine zS_getfp 18 rfl 0 dX11_feed_15 zC11 zw465 (by decide) rfl h0 ?_
      refine zS_getfp 21 rfl 2 dX11_feed_18 zC10 zw349 (by decide) rfl (zP11_world h0) ?_
      refine zS_getfi 24 rfl 0 dX11_feed_21 zC9 zw173 (by decide) rfl (zP10_tape (zP11_world h0)) ?_
      refine zS_iload_n 25 rfl 2 rfl dX11_feed_24 ?_
      refine zS_iadd 26 rfl dX11_feed_25 ?_
      refine zS_bipush 28 rfl (120 : Int32) (by decide) dX11_feed_26 ?_
      refine zS_icmp_le 34 31 rfl dX11_feed_28 (by decide) ?_ ?_
      · refine zS_aload_n 35 rfl 0 rfl dX11_feed_34 ?_
        refine zS_getfp 38 rfl 0 dX11_feed_35 zC11 zw465 (by decide) rfl h0 ?_
        refine zS_getfp 41 rfl 2 dX11_feed_38 zC10 zw349 (by decide) rfl (zP11_world h0) ?_
        refine zS_lload_n 42 rfl 1 rfl dX11_feed_41 ?_
        refine zS_iload_n 43 rfl 2 rfl dX11_feed_42 ?_
        refine zS_cVv (as := [.long _, .int _]) (st := []) (g' := gX9_add) 46 rfl (okX9_add _ _ _ _ (zP10_tape (zP11_world h0))) dX11_feed_43 zC9 (zP10_tape (zP11_world h0)) zw636 cbX9_add rfl rfl (by decide) (Nat.le_of_ble_eq_true rfl) (fun r1 w2 => ?_)
        refine zS_aload_n 47 rfl 0 rfl dX11_feed_46 ?_
        refine zS_getfp 50 rfl 0 dX11_feed_47 zC11 zw465 (by decide) rfl h0 ?_
        refine zS_getfp 53 rfl 2 dX11_feed_50 zC10 zw349 (by decide) rfl (zP11_world h0) ?_
        refine zS_getfi 56 rfl 0 dX11_feed_53 zC9 zw173 (by decide) rfl (zP10_tape (zP11_world h0)) ?_
        exact zS_reti dX11_feed_56 rfl
      · refine zS_bipush 33 rfl (-4 : Int32) (by decide) dX11_feed_31 ?_
        exact zS_reti dX11_feed_33 rfl
    · refine zS_sub [] (show _ = [] from rfl) ?_
      exact sX11_feed_11 _

theorem okX11_feed (v0 : Nat) (v1 : Int64) (v3 : Int32) (w : zWd) (h0 : zShp v0 = (11, 11)) : zOk gX11_feed zEi [.ref v0, .long v1, .int v3] w (mX11_feed v0 v1 v3 w) := zOk_of (by decide) rfl (Nat.le_of_ble_eq_true rfl) (sX11_feed v0 v1 v3 h0 w)
abbrev gX11_isDay : zMth := (yX11_isDay, cX11_isDay, 1, (some .boolean), 1, zE0)
theorem cbX11_isDay : zCbS yX11_isDay cX11_isDay 1 (some .boolean) 1 := ⟨zw645, zw77, zw646, by decide, by decide, by decide +kernel⟩
set_option maxHeartbeats 4000000 in
set_option maxRecDepth 100000 in
theorem sX11_isDay_16 (s0 : Int32) (w : zWd) : zS gX11_isDay zEi 16 [] [.int s0] w (mX11_isDay_16 s0 w) := by
  unfold mX11_isDay_16
  exact zS_retb dX11_isDay_16 rfl

set_option maxHeartbeats 4000000 in
set_option maxRecDepth 100000 in
theorem sX11_isDay_15 (w : zWd) : zS gX11_isDay zEi 15 [] [] w (mX11_isDay_15 w) := by
  unfold mX11_isDay_15
  refine zS_iconst 16 rfl (0 : Int32) (by decide) dX11_isDay_15 ?_
  exact sX11_isDay_16 _ _

set_option maxHeartbeats 4000000 in
set_option maxRecDepth 100000 in
theorem sX11_isDay (v0 : Int32) (w : zWd) : zS gX11_isDay zEi 0 [(0, .int v0)] [] w (mX11_isDay v0 w) := by
  unfold mX11_isDay
  refine zS_iload_n 1 rfl 0 rfl dX11_isDay_0 ?_
  refine zS_if_lt 15 4 rfl dX11_isDay_1 (by decide) ?_ ?_
  · refine zS_sub [] (show _ = [] from rfl) ?_
    exact sX11_isDay_15 _
  · refine zS_iload_n 5 rfl 0 rfl dX11_isDay_4 ?_
    refine zS_sipush 8 rfl (400 : Int32) (by decide) dX11_isDay_5 ?_
    refine zS_icmp_gt 15 11 rfl dX11_isDay_8 (by decide) ?_ ?_
    · refine zS_sub [] (show _ = [] from rfl) ?_
      exact sX11_isDay_15 _
    · refine zS_iconst 12 rfl (1 : Int32) (by decide) dX11_isDay_11 ?_
      refine zS_goto 16 dX11_isDay_12 (by decide) ?_
      refine zS_sub [] (show _ = [] from rfl) ?_
      exact sX11_isDay_16 _ _

theorem okX11_isDay (v0 : Int32) (w : zWd) : zOk gX11_isDay zEi [.int v0] w (mX11_isDay v0 w) := zOk_of (by decide) rfl (Nat.le_of_ble_eq_true rfl) (sX11_isDay v0 w)
abbrev gX11_text : zMth := (yX11_text, cX11_text, 3, (some .int), 46, zE0)
theorem cbX11_text : zCbV yX11_text cX11_text 3 (some .int) 1 := ⟨zw641, zw642, zw77, zw643, by decide, by decide, by decide +kernel⟩
set_option maxHeartbeats 4000000 in
set_option maxRecDepth 100000 in
theorem sX11_text_75 (s0 : Int32) (w : zWd) : zS gX11_text zEi 75 [] [.int s0] w (mX11_text_75 s0 w) := by
  unfold mX11_text_75
  exact zS_reti dX11_text_75 rfl

set_option maxHeartbeats 4000000 in
set_option maxRecDepth 100000 in
theorem sX11_text (v0 : Nat) (v1 : Int32) (h0 : zShp v0 = (11, 11)) (w : zWd) : zS gX11_text zEi 0 [(0, .ref v0), (1, .int v1)] [] w (mX11_text v0 v1 w) := by
  unfold mX11_text
  refine zS_iload_n 1 rfl 1 rfl dX11_text_0 ?_
  refine zS_cSi (as := [.int _]) (st := []) (g' := gX11_isDay) 4 rfl (okX11_isDay _ _) dX11_text_1 zw644 cbX11_isDay rfl rfl (by decide) (Nat.le_of_ble_eq_true rfl) (fun r1 w2 => ?_)
  refine zS_if_ne 10 7 rfl dX11_text_4 (by decide) ?_ ?_
  · refine zS_bipush 9 rfl (-2 : Int32) (by decide) dX11_text_7 ?_
    exact zS_reti dX11_text_9 rfl
  · refine zS_aload_n 11 rfl 0 rfl dX11_text_10 ?_
    refine zS_getfp 14 rfl 0 dX11_text_11 zC11 zw465 (by decide) rfl h0 ?_
    refine zS_getfp 17 rfl 3 dX11_text_14 zC10 zw351 (by decide) rfl (zP11_world h0) ?_
    refine zS_getfi 20 rfl 0 dX11_text_17 zC3 zw223 (by decide) rfl (zP10_book (zP11_world h0)) ?_
    refine zS_bipush 22 rfl (10 : Int32) (by decide) dX11_text_20 ?_
    refine zS_icmp_lt 28 25 rfl dX11_text_22 (by decide) ?_ ?_
    · refine zS_aload_n 29 rfl 0 rfl dX11_text_28 ?_
      refine zS_getfp 32 rfl 5 dX11_text_29 zC11 zw470 (by decide) rfl h0 ?_
      refine zS_aload_n 33 rfl 0 rfl dX11_text_32 ?_
      refine zS_getfp 36 rfl 0 dX11_text_33 zC11 zw465 (by decide) rfl h0 ?_
      refine zS_getfp 39 rfl 2 dX11_text_36 zC10 zw349 (by decide) rfl (zP11_world h0) ?_
      refine zS_aload_n 40 rfl 0 rfl dX11_text_39 ?_
      refine zS_getfp 43 rfl 0 dX11_text_40 zC11 zw465 (by decide) rfl h0 ?_
      refine zS_getfp 46 rfl 3 dX11_text_43 zC10 zw351 (by decide) rfl (zP11_world h0) ?_
      refine zS_cVr (as := []) (st := [.ref _, .ref _]) (g' := gX3_spare) 49 rfl (okX3_spare _ _ (zP10_book (zP11_world h0))) dX11_text_46 zC3 (zP10_book (zP11_world h0)) zw647 cbX3_spare rfl rfl (by decide) (Nat.le_of_ble_eq_true rfl) (fun r3 w4 => ?_)
      refine zS_gd (fun g5 => ?_)
      refine zS_iload_n 50 rfl 1 rfl dX11_text_49 ?_
      refine zS_cVi (as := [.ref _, .ref _, .int _]) (st := []) (g' := gX4_read) 53 rfl (okX4_read _ _ _ _ _ (zP11_reader h0) (zP10_tape (zP11_world h0)) g5) dX11_text_50 zC4 (zP11_reader h0) zw652 cbX4_read rfl rfl (by decide) (Nat.le_of_ble_eq_true rfl) (fun r6 w7 => ?_)
      refine zS_istore_n 54 rfl dX11_text_53 (by show 2 < 3; decide) (show _ = [(2, .int _), (0, .ref _), (1, .int _)] from rfl) ?_
      refine zS_iload_n 55 rfl 0 rfl dX11_text_54 ?_
      refine zS_if_lt 65 58 rfl dX11_text_55 (by decide) ?_ ?_
      · refine zS_aload_n 66 rfl 1 rfl dX11_text_65 ?_
        refine zS_getfp 69 rfl 0 dX11_text_66 zC11 zw465 (by decide) rfl h0 ?_
        refine zS_getfp 72 rfl 3 dX11_text_69 zC10 zw351 (by decide) rfl (zP11_world h0) ?_
        refine zS_cVi (as := []) (st := []) (g' := gX3_accept) 75 rfl (okX3_accept _ _ (zP10_book (zP11_world h0))) dX11_text_72 zC3 (zP10_book (zP11_world h0)) zw766 cbX3_accept rfl rfl (by decide) (Nat.le_of_ble_eq_true rfl) (fun r8 w9 => ?_)
        refine zS_sub [] (show _ = [] from rfl) ?_
        exact sX11_text_75 _ _
      · refine zS_bipush 60 rfl (-10 : Int32) (by decide) dX11_text_58 ?_
        refine zS_iload_n 61 rfl 0 rfl dX11_text_60 ?_
        refine zS_isub 62 rfl dX11_text_61 ?_
        refine zS_goto 75 dX11_text_62 (by decide) ?_
        refine zS_sub [] (show _ = [] from rfl) ?_
        exact sX11_text_75 _ _
    · refine zS_bipush 27 rfl (-4 : Int32) (by decide) dX11_text_25 ?_
      exact zS_reti dX11_text_27 rfl

theorem okX11_text (v0 : Nat) (v1 : Int32) (w : zWd) (h0 : zShp v0 = (11, 11)) : zOk gX11_text zEi [.ref v0, .int v1] w (mX11_text v0 v1 w) := zOk_of (by decide) rfl (Nat.le_of_ble_eq_true rfl) (sX11_text v0 v1 h0 w)
abbrev gX11_isTaker : zMth := (yX11_isTaker, cX11_isTaker, 2, (some .boolean), 2, zE0)
theorem cbX11_isTaker : zCbV yX11_isTaker cX11_isTaker 2 (some .boolean) 1 := ⟨zw781, zw22, zw77, zw782, by decide, by decide, by decide +kernel⟩
set_option maxHeartbeats 4000000 in
set_option maxRecDepth 100000 in
theorem sX11_isTaker (v0 : Nat) (v1 : Int32) (h0 : zShp v0 = (11, 11)) (w : zWd) : zS gX11_isTaker zEi 0 [(0, .ref v0), (1, .int v1)] [] w (mX11_isTaker v0 v1 w) := by
  unfold mX11_isTaker
  refine zS_iload_n 1 rfl 1 rfl dX11_isTaker_0 ?_
  refine zS_aload_n 2 rfl 0 rfl dX11_isTaker_1 ?_
  refine zS_getfp 5 rfl 0 dX11_isTaker_2 zC11 zw465 (by decide) rfl h0 ?_
  refine zS_getfp 8 rfl 4 dX11_isTaker_5 zC10 zw353 (by decide) rfl (zP11_world h0) ?_
  refine zS_getfi 11 rfl 0 dX11_isTaker_8 zC8 zw238 (by decide) rfl (zP10_takers (zP11_world h0)) ?_
  refine zS_cSi (as := [.int _, .int _]) (st := []) (g' := gX11_within) 14 rfl (okX11_within _ _ _) dX11_isTaker_11 zw503 cbX11_within rfl rfl (by decide) (Nat.le_of_ble_eq_true rfl) (fun r1 w2 => ?_)
  exact zS_retb dX11_isTaker_14 rfl

theorem okX11_isTaker (v0 : Nat) (v1 : Int32) (w : zWd) (h0 : zShp v0 = (11, 11)) : zOk gX11_isTaker zEi [.ref v0, .int v1] w (mX11_isTaker v0 v1 w) := zOk_of (by decide) rfl (Nat.le_of_ble_eq_true rfl) (sX11_isTaker v0 v1 h0 w)
abbrev gX11_isRuled : zMth := (yX11_isRuled, cX11_isRuled, 3, (some .boolean), 3, zE0)
theorem cbX11_isRuled : zCbV yX11_isRuled cX11_isRuled 3 (some .boolean) 2 := ⟨zw777, zw21, zw77, zw778, by decide, by decide, by decide +kernel⟩
set_option maxHeartbeats 4000000 in
set_option maxRecDepth 100000 in
theorem sX11_isRuled_26 (s0 : Int32) (w : zWd) : zS gX11_isRuled zEi 26 [] [.int s0] w (mX11_isRuled_26 s0 w) := by
  unfold mX11_isRuled_26
  exact zS_retb dX11_isRuled_26 rfl

set_option maxHeartbeats 4000000 in
set_option maxRecDepth 100000 in
theorem sX11_isRuled_25 (w : zWd) : zS gX11_isRuled zEi 25 [] [] w (mX11_isRuled_25 w) := by
  unfold mX11_isRuled_25
  refine zS_iconst 26 rfl (0 : Int32) (by decide) dX11_isRuled_25 ?_
  exact sX11_isRuled_26 _ _

set_option maxHeartbeats 4000000 in
set_option maxRecDepth 100000 in
theorem sX11_isRuled_21 (w : zWd) : zS gX11_isRuled zEi 21 [] [] w (mX11_isRuled_21 w) := by
  unfold mX11_isRuled_21
  refine zS_iconst 22 rfl (1 : Int32) (by decide) dX11_isRuled_21 ?_
  refine zS_goto 26 dX11_isRuled_22 (by decide) ?_
  exact sX11_isRuled_26 _ _

set_option maxHeartbeats 4000000 in
set_option maxRecDepth 100000 in
theorem sX11_isRuled (v0 : Nat) (v1 : Int32) (v2 : Int32) (h0 : zShp v0 = (11, 11)) (w : zWd) : zS gX11_isRuled zEi 0 [(0, .ref v0), (1, .int v1), (2, .int v2)] [] w (mX11_isRuled v0 v1 v2 w) := by
  unfold mX11_isRuled
  refine zS_iload_n 1 rfl 1 rfl dX11_isRuled_0 ?_
  refine zS_bipush 3 rfl (6 : Int32) (by decide) dX11_isRuled_1 ?_
  refine zS_cSi (as := [.int _, .int _]) (st := []) (g' := gX11_within) 6 rfl (okX11_within _ _ _) dX11_isRuled_3 zw503 cbX11_within rfl rfl (by decide) (Nat.le_of_ble_eq_true rfl) (fun r1 w2 => ?_)
  refine zS_if_eq 25 9 rfl dX11_isRuled_6 (by decide) ?_ ?_
  · refine zS_sub [] (show _ = [] from rfl) ?_
    exact sX11_isRuled_25 _
  · refine zS_iload_n 10 rfl 1 rfl dX11_isRuled_9 ?_
    refine zS_if_ne 21 13 rfl dX11_isRuled_10 (by decide) ?_ ?_
    · refine zS_aload_n 14 rfl 0 rfl dX11_isRuled_13 ?_
      refine zS_iload_n 15 rfl 2 rfl dX11_isRuled_14 ?_
      refine zS_cVi (as := [.int _]) (st := []) (g' := gX11_isTaker) 18 rfl (okX11_isTaker _ _ _ h0) dX11_isRuled_15 zC11 h0 zw779 cbX11_isTaker rfl rfl (by decide) (Nat.le_of_ble_eq_true rfl) (fun r3 w4 => ?_)
      refine zS_if_eq 25 21 rfl dX11_isRuled_18 (by decide) ?_ ?_
      · refine zS_sub [] (show _ = [] from rfl) ?_
        exact sX11_isRuled_25 _
      · refine zS_sub [] (show _ = [] from rfl) ?_
        exact sX11_isRuled_21 _
    · refine zS_sub [] (show _ = [] from rfl) ?_
      exact sX11_isRuled_21 _

theorem okX11_isRuled (v0 : Nat) (v1 : Int32) (v2 : Int32) (w : zWd) (h0 : zShp v0 = (11, 11)) : zOk gX11_isRuled zEi [.ref v0, .int v1, .int v2] w (mX11_isRuled v0 v1 v2 w) := zOk_of (by decide) rfl (Nat.le_of_ble_eq_true rfl) (sX11_isRuled v0 v1 v2 h0 w)
abbrev gX11_force : zMth := (yX11_force, cX11_force, 4, (some .int), 5, zE0)
theorem cbX11_force : zCbV yX11_force cX11_force 4 (some .int) 3 := ⟨zw772, zw773, zw77, zw774, by decide, by decide, by decide +kernel⟩
set_option maxHeartbeats 4000000 in
set_option maxRecDepth 100000 in
theorem sX11_force (v0 : Nat) (v1 : Int32) (v2 : Int32) (v3 : Int32) (h0 : zShp v0 = (11, 11)) (w : zWd) : zS gX11_force zEi 0 [(0, .ref v0), (1, .int v1), (2, .int v2), (3, .int v3)] [] w (mX11_force v0 v1 v2 v3 w) := by
  unfold mX11_force
  refine zS_aload_n 1 rfl 0 rfl dX11_force_0 ?_
  refine zS_iload_n 2 rfl 1 rfl dX11_force_1 ?_
  refine zS_iload_n 3 rfl 2 rfl dX11_force_2 ?_
  refine zS_cVi (as := [.int _, .int _]) (st := []) (g' := gX11_isRuled) 6 rfl (okX11_isRuled _ _ _ _ h0) dX11_force_3 zC11 h0 zw775 cbX11_isRuled rfl rfl (by decide) (Nat.le_of_ble_eq_true rfl) (fun r1 w2 => ?_)
  refine zS_if_ne 11 9 rfl dX11_force_6 (by decide) ?_ ?_
  · refine zS_iconst 10 rfl (-1 : Int32) (by decide) dX11_force_9 ?_
    exact zS_reti dX11_force_10 rfl
  · refine zS_iload_n 12 rfl 3 rfl dX11_force_11 ?_
    refine zS_cSi (as := [.int _]) (st := []) (g' := gX11_isDay) 15 rfl (okX11_isDay _ _) dX11_force_12 zw644 cbX11_isDay rfl rfl (by decide) (Nat.le_of_ble_eq_true rfl) (fun r3 w4 => ?_)
    refine zS_if_ne 21 18 rfl dX11_force_15 (by decide) ?_ ?_
    · refine zS_bipush 20 rfl (-2 : Int32) (by decide) dX11_force_18 ?_
      exact zS_reti dX11_force_20 rfl
    · refine zS_aload_n 22 rfl 0 rfl dX11_force_21 ?_
      refine zS_getfp 25 rfl 0 dX11_force_22 zC11 zw465 (by decide) rfl h0 ?_
      refine zS_getfp 28 rfl 3 dX11_force_25 zC10 zw351 (by decide) rfl (zP11_world h0) ?_
      refine zS_aload_n 29 rfl 0 rfl dX11_force_28 ?_
      refine zS_getfp 32 rfl 0 dX11_force_29 zC11 zw465 (by decide) rfl h0 ?_
      refine zS_getfp 35 rfl 3 dX11_force_32 zC10 zw351 (by decide) rfl (zP11_world h0) ?_
      refine zS_iload_n 36 rfl 1 rfl dX11_force_35 ?_
      refine zS_aload_n 37 rfl 0 rfl dX11_force_36 ?_
      refine zS_getfp 40 rfl 0 dX11_force_37 zC11 zw465 (by decide) rfl h0 ?_
      refine zS_getfp 43 rfl 4 dX11_force_40 zC10 zw353 (by decide) rfl (zP11_world h0) ?_
      refine zS_iload_n 44 rfl 2 rfl dX11_force_43 ?_
      refine zS_iload_n 45 rfl 3 rfl dX11_force_44 ?_
      refine zS_cVi (as := [.int _, .ref _, .int _, .int _]) (st := [.ref _]) (g' := gX3_ruling) 48 rfl (okX3_ruling _ _ _ _ _ _ (zP10_book (zP11_world h0)) (zP10_takers (zP11_world h0))) dX11_force_45 zC3 (zP10_book (zP11_world h0)) zw783 cbX3_ruling rfl rfl (by decide) (Nat.le_of_ble_eq_true rfl) (fun r5 w6 => ?_)
      refine zS_iload_n 49 rfl 1 rfl dX11_force_48 ?_
      refine zS_cVi (as := [.int _, .int _]) (st := []) (g' := gX3_numberBy) 52 rfl (okX3_numberBy _ _ _ _ (zP10_book (zP11_world h0))) dX11_force_49 zC3 (zP10_book (zP11_world h0)) zw784 cbX3_numberBy rfl rfl (by decide) (Nat.le_of_ble_eq_true rfl) (fun r7 w8 => ?_)
      exact zS_reti dX11_force_52 rfl

theorem okX11_force (v0 : Nat) (v1 : Int32) (v2 : Int32) (v3 : Int32) (w : zWd) (h0 : zShp v0 = (11, 11)) : zOk gX11_force zEi [.ref v0, .int v1, .int v2, .int v3] w (mX11_force v0 v1 v2 v3 w) := zOk_of (by decide) rfl (Nat.le_of_ble_eq_true rfl) (sX11_force v0 v1 v2 v3 h0 w)
abbrev gX11_why : zMth := (yX11_why, cX11_why, 4, (some .int), 5, zE0)
theorem cbX11_why : zCbV yX11_why cX11_why 4 (some .int) 3 := ⟨zw786, zw787, zw77, zw788, by decide, by decide, by decide +kernel⟩
set_option maxHeartbeats 4000000 in
set_option maxRecDepth 100000 in
theorem sX11_why (v0 : Nat) (v1 : Int32) (v2 : Int32) (v3 : Int32) (h0 : zShp v0 = (11, 11)) (w : zWd) : zS gX11_why zEi 0 [(0, .ref v0), (1, .int v1), (2, .int v2), (3, .int v3)] [] w (mX11_why v0 v1 v2 v3 w) := by
  unfold mX11_why
  refine zS_aload_n 1 rfl 0 rfl dX11_why_0 ?_
  refine zS_iload_n 2 rfl 1 rfl dX11_why_1 ?_
  refine zS_iload_n 3 rfl 2 rfl dX11_why_2 ?_
  refine zS_cVi (as := [.int _, .int _]) (st := []) (g' := gX11_isRuled) 6 rfl (okX11_isRuled _ _ _ _ h0) dX11_why_3 zC11 h0 zw775 cbX11_isRuled rfl rfl (by decide) (Nat.le_of_ble_eq_true rfl) (fun r1 w2 => ?_)
  refine zS_if_ne 11 9 rfl dX11_why_6 (by decide) ?_ ?_
  · refine zS_iconst 10 rfl (-1 : Int32) (by decide) dX11_why_9 ?_
    exact zS_reti dX11_why_10 rfl
  · refine zS_iload_n 12 rfl 3 rfl dX11_why_11 ?_
    refine zS_cSi (as := [.int _]) (st := []) (g' := gX11_isDay) 15 rfl (okX11_isDay _ _) dX11_why_12 zw644 cbX11_isDay rfl rfl (by decide) (Nat.le_of_ble_eq_true rfl) (fun r3 w4 => ?_)
    refine zS_if_ne 21 18 rfl dX11_why_15 (by decide) ?_ ?_
    · refine zS_bipush 20 rfl (-2 : Int32) (by decide) dX11_why_18 ?_
      exact zS_reti dX11_why_20 rfl
    · refine zS_aload_n 22 rfl 0 rfl dX11_why_21 ?_
      refine zS_getfp 25 rfl 0 dX11_why_22 zC11 zw465 (by decide) rfl h0 ?_
      refine zS_getfp 28 rfl 3 dX11_why_25 zC10 zw351 (by decide) rfl (zP11_world h0) ?_
      refine zS_iload_n 29 rfl 1 rfl dX11_why_28 ?_
      refine zS_aload_n 30 rfl 0 rfl dX11_why_29 ?_
      refine zS_getfp 33 rfl 0 dX11_why_30 zC11 zw465 (by decide) rfl h0 ?_
      refine zS_getfp 36 rfl 4 dX11_why_33 zC10 zw353 (by decide) rfl (zP11_world h0) ?_
      refine zS_iload_n 37 rfl 2 rfl dX11_why_36 ?_
      refine zS_iload_n 38 rfl 3 rfl dX11_why_37 ?_
      refine zS_cVi (as := [.int _, .ref _, .int _, .int _]) (st := []) (g' := gX3_ruling) 41 rfl (okX3_ruling _ _ _ _ _ _ (zP10_book (zP11_world h0)) (zP10_takers (zP11_world h0))) dX11_why_38 zC3 (zP10_book (zP11_world h0)) zw783 cbX3_ruling rfl rfl (by decide) (Nat.le_of_ble_eq_true rfl) (fun r5 w6 => ?_)
      exact zS_reti dX11_why_41 rfl

theorem okX11_why (v0 : Nat) (v1 : Int32) (v2 : Int32) (v3 : Int32) (w : zWd) (h0 : zShp v0 = (11, 11)) : zOk gX11_why zEi [.ref v0, .int v1, .int v2, .int v3] w (mX11_why v0 v1 v2 v3 w) := zOk_of (by decide) rfl (Nat.le_of_ble_eq_true rfl) (sX11_why v0 v1 v2 v3 h0 w)
abbrev gX11_taker : zMth := (yX11_taker, cX11_taker, 6, (some .int), 2, zE0)
theorem cbX11_taker : zCbV yX11_taker cX11_taker 6 (some .int) 5 := ⟨zw790, zw791, zw77, zw792, by decide, by decide, by decide +kernel⟩
set_option maxHeartbeats 4000000 in
set_option maxRecDepth 100000 in
theorem sX11_taker_18 (w : zWd) : zS gX11_taker zEi 18 [] [] w (mX11_taker_18 w) := by
  unfold mX11_taker_18
  refine zS_iconst 19 rfl (-1 : Int32) (by decide) dX11_taker_18 ?_
  exact zS_reti dX11_taker_19 rfl

set_option maxHeartbeats 4000000 in
set_option maxRecDepth 100000 in
theorem sX11_taker_60 (w : zWd) : zS gX11_taker zEi 60 [] [] w (mX11_taker_60 w) := by
  unfold mX11_taker_60
  refine zS_bipush 62 rfl (-2 : Int32) (by decide) dX11_taker_60 ?_
  exact zS_reti dX11_taker_62 rfl

set_option maxHeartbeats 4000000 in
set_option maxRecDepth 100000 in
theorem sX11_taker (v0 : Nat) (v1 : Int32) (v2 : Int32) (v3 : Int32) (v4 : Int32) (v5 : Int32) (h0 : zShp v0 = (11, 11)) (w : zWd) : zS gX11_taker zEi 0 [(0, .ref v0), (1, .int v1), (2, .int v2), (3, .int v3), (4, .int v4), (5, .int v5)] [] w (mX11_taker v0 v1 v2 v3 v4 v5 w) := by
  unfold mX11_taker
  refine zS_iload_n 1 rfl 1 rfl dX11_taker_0 ?_
  refine zS_bipush 3 rfl (6 : Int32) (by decide) dX11_taker_1 ?_
  refine zS_cSi (as := [.int _, .int _]) (st := []) (g' := gX11_within) 6 rfl (okX11_within _ _ _) dX11_taker_3 zw503 cbX11_within rfl rfl (by decide) (Nat.le_of_ble_eq_true rfl) (fun r1 w2 => ?_)
  refine zS_if_eq 18 9 rfl dX11_taker_6 (by decide) ?_ ?_
  · refine zS_sub [] (show _ = [] from rfl) ?_
    exact sX11_taker_18 _
  · refine zS_iload_n 10 rfl 2 rfl dX11_taker_9 ?_
    refine zS_bipush 12 rfl (12 : Int32) (by decide) dX11_taker_10 ?_
    refine zS_cSi (as := [.int _, .int _]) (st := []) (g' := gX11_within) 15 rfl (okX11_within _ _ _) dX11_taker_12 zw503 cbX11_within rfl rfl (by decide) (Nat.le_of_ble_eq_true rfl) (fun r3 w4 => ?_)
    refine zS_if_ne 20 18 rfl dX11_taker_15 (by decide) ?_ ?_
    · refine zS_sub [] (show _ = [] from rfl) ?_
      exact sX11_taker_18 _
    · refine zS_iload_n 21 rfl 3 rfl dX11_taker_20 ?_
      refine zS_iconst 22 rfl (1 : Int32) (by decide) dX11_taker_21 ?_
      refine zS_icmp_lt 60 25 rfl dX11_taker_22 (by decide) ?_ ?_
      · refine zS_sub [] (show _ = [] from rfl) ?_
        exact sX11_taker_60 _
      · refine zS_iload_n 26 rfl 3 rfl dX11_taker_25 ?_
        refine zS_iconst 27 rfl (4 : Int32) (by decide) dX11_taker_26 ?_
        refine zS_icmp_gt 60 30 rfl dX11_taker_27 (by decide) ?_ ?_
        · refine zS_sub [] (show _ = [] from rfl) ?_
          exact sX11_taker_60 _
        · refine zS_iload 32 rfl 4 rfl dX11_taker_30 ?_
          refine zS_if_lt 60 35 rfl dX11_taker_32 (by decide) ?_ ?_
          · refine zS_sub [] (show _ = [] from rfl) ?_
            exact sX11_taker_60 _
          · refine zS_iload 37 rfl 4 rfl dX11_taker_35 ?_
            refine zS_sipush 40 rfl (1500 : Int32) (by decide) dX11_taker_37 ?_
            refine zS_icmp_gt 60 43 rfl dX11_taker_40 (by decide) ?_ ?_
            · refine zS_sub [] (show _ = [] from rfl) ?_
              exact sX11_taker_60 _
            · refine zS_iload 45 rfl 5 rfl dX11_taker_43 ?_
              refine zS_if_lt 60 48 rfl dX11_taker_45 (by decide) ?_ ?_
              · refine zS_sub [] (show _ = [] from rfl) ?_
                exact sX11_taker_60 _
              · refine zS_iload 50 rfl 5 rfl dX11_taker_48 ?_
                refine zS_aload_n 51 rfl 0 rfl dX11_taker_50 ?_
                refine zS_getfp 54 rfl 0 dX11_taker_51 zC11 zw465 (by decide) rfl h0 ?_
                refine zS_getfi 57 rfl 0 dX11_taker_54 zC10 zw345 (by decide) rfl (zP11_world h0) ?_
                refine zS_icmp_le 63 60 rfl dX11_taker_57 (by decide) ?_ ?_
                · refine zS_aload_n 64 rfl 0 rfl dX11_taker_63 ?_
                  refine zS_getfp 67 rfl 0 dX11_taker_64 zC11 zw465 (by decide) rfl h0 ?_
                  refine zS_getfp 70 rfl 4 dX11_taker_67 zC10 zw353 (by decide) rfl (zP11_world h0) ?_
                  refine zS_getfi 73 rfl 0 dX11_taker_70 zC8 zw238 (by decide) rfl (zP10_takers (zP11_world h0)) ?_
                  refine zS_bipush 75 rfl (8 : Int32) (by decide) dX11_taker_73 ?_
                  refine zS_icmp_lt 81 78 rfl dX11_taker_75 (by decide) ?_ ?_
                  · refine zS_aload_n 82 rfl 0 rfl dX11_taker_81 ?_
                    refine zS_getfp 85 rfl 0 dX11_taker_82 zC11 zw465 (by decide) rfl h0 ?_
                    refine zS_getfp 88 rfl 4 dX11_taker_85 zC10 zw353 (by decide) rfl (zP11_world h0) ?_
                    refine zS_iload_n 89 rfl 1 rfl dX11_taker_88 ?_
                    refine zS_iload_n 90 rfl 2 rfl dX11_taker_89 ?_
                    refine zS_iload_n 91 rfl 3 rfl dX11_taker_90 ?_
                    refine zS_iload 93 rfl 4 rfl dX11_taker_91 ?_
                    refine zS_iload 95 rfl 5 rfl dX11_taker_93 ?_
                    refine zS_cVi (as := [.int _, .int _, .int _, .int _, .int _]) (st := []) (g' := gX8_add) 98 rfl (okX8_add _ _ _ _ _ _ _ (zP10_takers (zP11_world h0))) dX11_taker_95 zC8 (zP10_takers (zP11_world h0)) zw793 cbX8_add rfl rfl (by decide) (Nat.le_of_ble_eq_true rfl) (fun r5 w6 => ?_)
                    exact zS_reti dX11_taker_98 rfl
                  · refine zS_bipush 80 rfl (-4 : Int32) (by decide) dX11_taker_78 ?_
                    exact zS_reti dX11_taker_80 rfl
                · refine zS_sub [] (show _ = [] from rfl) ?_
                  exact sX11_taker_60 _

theorem okX11_taker (v0 : Nat) (v1 : Int32) (v2 : Int32) (v3 : Int32) (v4 : Int32) (v5 : Int32) (w : zWd) (h0 : zShp v0 = (11, 11)) : zOk gX11_taker zEi [.ref v0, .int v1, .int v2, .int v3, .int v4, .int v5] w (mX11_taker v0 v1 v2 v3 v4 v5 w) := zOk_of (by decide) rfl (Nat.le_of_ble_eq_true rfl) (sX11_taker v0 v1 v2 v3 v4 v5 h0 w)
abbrev gX11_of : zMth := (yX11_of, cX11_of, 3, (some .int), 6, zE0)
theorem cbX11_of : zCbV yX11_of cX11_of 3 (some .int) 2 := ⟨zw798, zw799, zw77, zw800, by decide, by decide, by decide +kernel⟩
set_option maxHeartbeats 4000000 in
set_option maxRecDepth 100000 in
theorem sX11_of_16 (w : zWd) : zS gX11_of zEi 16 [] [] w (mX11_of_16 w) := by
  unfold mX11_of_16
  refine zS_iconst 17 rfl (-1 : Int32) (by decide) dX11_of_16 ?_
  exact zS_reti dX11_of_17 rfl

set_option maxHeartbeats 4000000 in
set_option maxRecDepth 100000 in
theorem sX11_of_87 (s0 : Int32) (w : zWd) : zS gX11_of zEi 87 [] [.int s0] w (mX11_of_87 s0 w) := by
  unfold mX11_of_87
  exact zS_reti dX11_of_87 rfl

set_option maxHeartbeats 4000000 in
set_option maxRecDepth 100000 in
theorem sX11_of (v0 : Nat) (v1 : Int32) (v2 : Int32) (h0 : zShp v0 = (11, 11)) (w : zWd) : zS gX11_of zEi 0 [(0, .ref v0), (1, .int v1), (2, .int v2)] [] w (mX11_of v0 v1 v2 w) := by
  unfold mX11_of
  refine zS_aload_n 1 rfl 0 rfl dX11_of_0 ?_
  refine zS_iload_n 2 rfl 1 rfl dX11_of_1 ?_
  refine zS_cVi (as := [.int _]) (st := []) (g' := gX11_isTaker) 5 rfl (okX11_isTaker _ _ _ h0) dX11_of_2 zC11 h0 zw779 cbX11_isTaker rfl rfl (by decide) (Nat.le_of_ble_eq_true rfl) (fun r1 w2 => ?_)
  refine zS_if_eq 16 8 rfl dX11_of_5 (by decide) ?_ ?_
  · refine zS_sub [] (show _ = [] from rfl) ?_
    exact sX11_of_16 _
  · refine zS_iload_n 9 rfl 2 rfl dX11_of_8 ?_
    refine zS_iconst 10 rfl (3 : Int32) (by decide) dX11_of_9 ?_
    refine zS_cSi (as := [.int _, .int _]) (st := []) (g' := gX11_within) 13 rfl (okX11_within _ _ _) dX11_of_10 zw503 cbX11_within rfl rfl (by decide) (Nat.le_of_ble_eq_true rfl) (fun r3 w4 => ?_)
    refine zS_if_ne 18 16 rfl dX11_of_13 (by decide) ?_ ?_
    · refine zS_sub [] (show _ = [] from rfl) ?_
      exact sX11_of_16 _
    · refine zS_iload_n 19 rfl 2 rfl dX11_of_18 ?_
      refine zS_if_ne 34 22 rfl dX11_of_19 (by decide) ?_ ?_
      · refine zS_aload_n 23 rfl 0 rfl dX11_of_22 ?_
        refine zS_getfp 26 rfl 0 dX11_of_23 zC11 zw465 (by decide) rfl h0 ?_
        refine zS_getfp 29 rfl 4 dX11_of_26 zC10 zw353 (by decide) rfl (zP11_world h0) ?_
        refine zS_iload_n 30 rfl 1 rfl dX11_of_29 ?_
        refine zS_cVi (as := [.int _]) (st := []) (g' := gX8_needs) 33 rfl (okX8_needs _ _ _ (zP10_takers (zP11_world h0))) dX11_of_30 zC8 (zP10_takers (zP11_world h0)) zw801 cbX8_needs rfl rfl (by decide) (Nat.le_of_ble_eq_true rfl) (fun r5 w6 => ?_)
        exact zS_reti dX11_of_33 rfl
      · refine zS_aload_n 35 rfl 0 rfl dX11_of_34 ?_
        refine zS_getfp 38 rfl 6 dX11_of_35 zC11 zw471 (by decide) rfl h0 ?_
        refine zS_aload_n 39 rfl 0 rfl dX11_of_38 ?_
        refine zS_getfp 42 rfl 0 dX11_of_39 zC11 zw465 (by decide) rfl h0 ?_
        refine zS_getfp 45 rfl 3 dX11_of_42 zC10 zw351 (by decide) rfl (zP11_world h0) ?_
        refine zS_aload_n 46 rfl 0 rfl dX11_of_45 ?_
        refine zS_getfp 49 rfl 0 dX11_of_46 zC11 zw465 (by decide) rfl h0 ?_
        refine zS_getfp 52 rfl 4 dX11_of_49 zC10 zw353 (by decide) rfl (zP11_world h0) ?_
        refine zS_aload_n 53 rfl 0 rfl dX11_of_52 ?_
        refine zS_getfp 56 rfl 0 dX11_of_53 zC11 zw465 (by decide) rfl h0 ?_
        refine zS_getfi 59 rfl 0 dX11_of_56 zC10 zw345 (by decide) rfl (zP11_world h0) ?_
        refine zS_cVv (as := [.ref _, .ref _, .int _]) (st := []) (g' := gX5_form) 62 rfl (okX5_form _ _ _ _ _ (zP11_line h0) (zP10_book (zP11_world h0)) (zP10_takers (zP11_world h0))) dX11_of_59 zC5 (zP11_line h0) zw806 cbX5_form rfl rfl (by decide) (Nat.le_of_ble_eq_true rfl) (fun r7 w8 => ?_)
        refine zS_iload_n 63 rfl 2 rfl dX11_of_62 ?_
        refine zS_iconst 64 rfl (1 : Int32) (by decide) dX11_of_63 ?_
        refine zS_icmp_ne 79 67 rfl dX11_of_64 (by decide) ?_ ?_
        · refine zS_aload_n 68 rfl 0 rfl dX11_of_67 ?_
          refine zS_getfp 71 rfl 6 dX11_of_68 zC11 zw471 (by decide) rfl h0 ?_
          refine zS_getfp 74 rfl 1 dX11_of_71 zC5 zw400 (by decide) rfl (zP11_line h0) ?_
          refine zS_iload_n 75 rfl 1 rfl dX11_of_74 ?_
          refine zS_iald 76 rfl dX11_of_75 (zP5_rank (zP11_line h0)) ?_
          refine zS_goto 87 dX11_of_76 (by decide) ?_
          refine zS_sub [] (show _ = [] from rfl) ?_
          exact sX11_of_87 _ _
        · refine zS_aload_n 80 rfl 0 rfl dX11_of_79 ?_
          refine zS_getfp 83 rfl 6 dX11_of_80 zC11 zw471 (by decide) rfl h0 ?_
          refine zS_iload_n 84 rfl 1 rfl dX11_of_83 ?_
          refine zS_cVi (as := [.int _]) (st := []) (g' := gX5_placeOf) 87 rfl (okX5_placeOf _ _ _ (zP11_line h0)) dX11_of_84 zC5 (zP11_line h0) zw820 cbX5_placeOf rfl rfl (by decide) (Nat.le_of_ble_eq_true rfl) (fun r9 w10 => ?_)
          refine zS_sub [] (show _ = [] from rfl) ?_
          exact sX11_of_87 _ _

theorem okX11_of (v0 : Nat) (v1 : Int32) (v2 : Int32) (w : zWd) (h0 : zShp v0 = (11, 11)) : zOk gX11_of zEi [.ref v0, .int v1, .int v2] w (mX11_of v0 v1 v2 w) := zOk_of (by decide) rfl (Nat.le_of_ble_eq_true rfl) (sX11_of v0 v1 v2 h0 w)
abbrev gX11_isKindOf : zMth := (yX11_isKindOf, cX11_isKindOf, 4, (some .boolean), 2, zE0)
theorem cbX11_isKindOf : zCbS yX11_isKindOf cX11_isKindOf 4 (some .boolean) 2 := ⟨zw829, zw77, zw830, by decide, by decide, by decide +kernel⟩
set_option maxHeartbeats 4000000 in
set_option maxRecDepth 100000 in
theorem sX11_isKindOf_38 (w : zWd) : zS gX11_isKindOf zEi 38 [] [] w (mX11_isKindOf_38 w) := by
  unfold mX11_isKindOf_38
  refine zS_iconst 39 rfl (0 : Int32) (by decide) dX11_isKindOf_38 ?_
  exact zS_retb dX11_isKindOf_39 rfl

set_option maxHeartbeats 4000000 in
set_option maxRecDepth 100000 in
theorem sX11_isKindOf_4b (v1 : Int32) (k4 : Int32 × Int32 × zWd → Option (Int32 × zWd)) (v2 : Int32) (v3 : Int32) (hk4 : ∀ (v2 : Int32) (v3 : Int32) (w : zWd), zS gX11_isKindOf zEi 4 [(1, .int v1), (2, .int v2), (3, .int v3)] [] w (k4 (v2, v3, w))) (w : zWd) : zS gX11_isKindOf zEi 4 [(1, .int v1), (2, .int v2), (3, .int v3)] [] w (mX11_isKindOf_4b v1 k4 v2 v3 w) := by
  unfold mX11_isKindOf_4b
  refine zS_iload_n 5 rfl 2 rfl dX11_isKindOf_4 ?_
  refine zS_bipush 7 rfl (6 : Int32) (by decide) dX11_isKindOf_5 ?_
  refine zS_icmp_ge 38 10 rfl dX11_isKindOf_7 (by decide) ?_ ?_
  · refine zS_sub [] (show _ = [] from rfl) ?_
    exact sX11_isKindOf_38 _
  · refine zS_iload_n 11 rfl 1 rfl dX11_isKindOf_10 ?_
    refine zS_bipush 13 rfl (6 : Int32) (by decide) dX11_isKindOf_11 ?_
    refine zS_cSi (as := [.int _, .int _]) (st := []) (g' := gX11_within) 16 rfl (okX11_within _ _ _) dX11_isKindOf_13 zw503 cbX11_within rfl rfl (by decide) (Nat.le_of_ble_eq_true rfl) (fun r1 w2 => ?_)
    refine zS_if_eq 38 19 rfl dX11_isKindOf_16 (by decide) ?_ ?_
    · refine zS_sub [] (show _ = [] from rfl) ?_
      exact sX11_isKindOf_38 _
    · refine zS_iload_n 20 rfl 1 rfl dX11_isKindOf_19 ?_
      refine zS_iload_n 21 rfl 0 rfl dX11_isKindOf_20 ?_
      refine zS_icmp_ne 26 24 rfl dX11_isKindOf_21 (by decide) ?_ ?_
      · refine zS_iconst 25 rfl (1 : Int32) (by decide) dX11_isKindOf_24 ?_
        exact zS_retb dX11_isKindOf_25 rfl
      · refine zS_gets 29 rfl 2 rfl dX11_isKindOf_26 zw831 ?_
        refine zS_iload_n 30 rfl 1 rfl dX11_isKindOf_29 ?_
        refine zS_tald 31 rfl 2 rfl rfl dX11_isKindOf_30 ?_
        refine zS_bni (fun x3 => ?_)
        refine zS_istore_n 32 rfl dX11_isKindOf_31 (by show 2 < 4; decide) (show _ = [(2, .int _), (1, .int _), (3, .int _)] from rfl) ?_
        refine zS_iinc 35 rfl 2 (_ + (1 : Int32)) dX11_isKindOf_32 rfl (by show 3 < 4; decide) rfl (show _ = [(3, .int _), (2, .int _), (1, .int _)] from rfl) ?_
        refine zS_goto 4 dX11_isKindOf_35 (by decide) ?_
        refine zS_sub [2, 1, 0] (show _ = [(1, .int _), (2, .int _), (3, .int _)] from rfl) ?_
        exact hk4 _ _ _

theorem sX11_isKindOf_4 (v1 : Int32) (v2 : Int32) (v3 : Int32) (w : zWd) : zS gX11_isKindOf zEi 4 [(1, .int v1), (2, .int v2), (3, .int v3)] [] w (mX11_isKindOf_4 v1 v2 v3 w) :=
  zS_loop (L := fun q : Int32 × Int32 × zWd => [(1, .int v1), (2, .int q.1), (3, .int q.2.1)]) (V := fun q => q.2.2) (T := fun _ => []) (F := fun k q => mX11_isKindOf_4b v1 k q.1 q.2.1 q.2.2) (fun k hk q => sX11_isKindOf_4b v1 k q.1 q.2.1 (fun a2 a3 w => hk (a2, a3, w)) q.2.2) zFU (v2, v3, w)
set_option maxHeartbeats 4000000 in
set_option maxRecDepth 100000 in
theorem sX11_isKindOf (v0 : Int32) (v1 : Int32) (w : zWd) : zS gX11_isKindOf zEi 0 [(0, .int v0), (1, .int v1)] [] w (mX11_isKindOf v0 v1 w) := by
  unfold mX11_isKindOf
  refine zS_iload_n 1 rfl 0 rfl dX11_isKindOf_0 ?_
  refine zS_istore_n 2 rfl dX11_isKindOf_1 (by show 2 < 4; decide) (show _ = [(2, .int _), (0, .int _), (1, .int _)] from rfl) ?_
  refine zS_iconst 3 rfl (0 : Int32) (by decide) dX11_isKindOf_2 ?_
  refine zS_istore_n 4 rfl dX11_isKindOf_3 (by show 3 < 4; decide) (show _ = [(3, .int _), (2, .int _), (0, .int _), (1, .int _)] from rfl) ?_
  refine zS_sub [3, 1, 0] (show _ = [(1, .int _), (2, .int _), (3, .int _)] from rfl) ?_
  exact sX11_isKindOf_4 _ _ _ _

theorem okX11_isKindOf (v0 : Int32) (v1 : Int32) (w : zWd) : zOk gX11_isKindOf zEi [.int v0, .int v1] w (mX11_isKindOf v0 v1 w) := zOk_of (by decide) rfl (Nat.le_of_ble_eq_true rfl) (sX11_isKindOf v0 v1 w)
abbrev gX11_as : zMth := (yX11_as, cX11_as, 3, (some .int), 3, zE0)
theorem cbX11_as : zCbV yX11_as cX11_as 3 (some .int) 2 := ⟨zw825, zw826, zw77, zw827, by decide, by decide, by decide +kernel⟩
set_option maxHeartbeats 4000000 in
set_option maxRecDepth 100000 in
theorem sX11_as_17 (w : zWd) : zS gX11_as zEi 17 [] [] w (mX11_as_17 w) := by
  unfold mX11_as_17
  refine zS_iconst 18 rfl (-1 : Int32) (by decide) dX11_as_17 ?_
  exact zS_reti dX11_as_18 rfl

set_option maxHeartbeats 4000000 in
set_option maxRecDepth 100000 in
theorem sX11_as_55 (s0 : Int32) (w : zWd) : zS gX11_as zEi 55 [] [.int s0] w (mX11_as_55 s0 w) := by
  unfold mX11_as_55
  exact zS_reti dX11_as_55 rfl

set_option maxHeartbeats 4000000 in
set_option maxRecDepth 100000 in
theorem sX11_as (v0 : Nat) (v1 : Int32) (v2 : Int32) (h0 : zShp v0 = (11, 11)) (w : zWd) : zS gX11_as zEi 0 [(0, .ref v0), (1, .int v1), (2, .int v2)] [] w (mX11_as v0 v1 v2 w) := by
  unfold mX11_as
  refine zS_aload_n 1 rfl 0 rfl dX11_as_0 ?_
  refine zS_iload_n 2 rfl 1 rfl dX11_as_1 ?_
  refine zS_cVi (as := [.int _]) (st := []) (g' := gX11_isTaker) 5 rfl (okX11_isTaker _ _ _ h0) dX11_as_2 zC11 h0 zw779 cbX11_isTaker rfl rfl (by decide) (Nat.le_of_ble_eq_true rfl) (fun r1 w2 => ?_)
  refine zS_if_eq 17 8 rfl dX11_as_5 (by decide) ?_ ?_
  · refine zS_sub [] (show _ = [] from rfl) ?_
    exact sX11_as_17 _
  · refine zS_iload_n 9 rfl 2 rfl dX11_as_8 ?_
    refine zS_bipush 11 rfl (6 : Int32) (by decide) dX11_as_9 ?_
    refine zS_cSi (as := [.int _, .int _]) (st := []) (g' := gX11_within) 14 rfl (okX11_within _ _ _) dX11_as_11 zw503 cbX11_within rfl rfl (by decide) (Nat.le_of_ble_eq_true rfl) (fun r3 w4 => ?_)
    refine zS_if_ne 19 17 rfl dX11_as_14 (by decide) ?_ ?_
    · refine zS_sub [] (show _ = [] from rfl) ?_
      exact sX11_as_17 _
    · refine zS_aload_n 20 rfl 0 rfl dX11_as_19 ?_
      refine zS_getfp 23 rfl 0 dX11_as_20 zC11 zw465 (by decide) rfl h0 ?_
      refine zS_getfp 26 rfl 4 dX11_as_23 zC10 zw353 (by decide) rfl (zP11_world h0) ?_
      refine zS_getfp 29 rfl 1 dX11_as_26 zC8 zw242 (by decide) rfl (zP10_takers (zP11_world h0)) ?_
      refine zS_iload_n 30 rfl 1 rfl dX11_as_29 ?_
      refine zS_iald 31 rfl dX11_as_30 (zP8_kind (zP10_takers (zP11_world h0))) ?_
      refine zS_iload_n 32 rfl 2 rfl dX11_as_31 ?_
      refine zS_cSi (as := [.int _, .int _]) (st := []) (g' := gX11_isKindOf) 35 rfl (okX11_isKindOf _ _ _) dX11_as_32 zw828 cbX11_isKindOf rfl rfl (by decide) (Nat.le_of_ble_eq_true rfl) (fun r5 w6 => ?_)
      refine zS_if_eq 53 38 rfl dX11_as_35 (by decide) ?_ ?_
      · refine zS_bipush 55 rfl (-6 : Int32) (by decide) dX11_as_53 ?_
        refine zS_sub [] (show _ = [] from rfl) ?_
        exact sX11_as_55 _ _
      · refine zS_aload_n 39 rfl 0 rfl dX11_as_38 ?_
        refine zS_getfp 42 rfl 0 dX11_as_39 zC11 zw465 (by decide) rfl h0 ?_
        refine zS_getfp 45 rfl 4 dX11_as_42 zC10 zw353 (by decide) rfl (zP11_world h0) ?_
        refine zS_getfp 48 rfl 3 dX11_as_45 zC8 zw248 (by decide) rfl (zP10_takers (zP11_world h0)) ?_
        refine zS_iload_n 49 rfl 1 rfl dX11_as_48 ?_
        refine zS_iald 50 rfl dX11_as_49 (zP8_gallons (zP10_takers (zP11_world h0))) ?_
        refine zS_goto 55 dX11_as_50 (by decide) ?_
        refine zS_sub [] (show _ = [] from rfl) ?_
        exact sX11_as_55 _ _

theorem okX11_as (v0 : Nat) (v1 : Int32) (v2 : Int32) (w : zWd) (h0 : zShp v0 = (11, 11)) : zOk gX11_as zEi [.ref v0, .int v1, .int v2] w (mX11_as v0 v1 v2 w) := zOk_of (by decide) rfl (Nat.le_of_ble_eq_true rfl) (sX11_as v0 v1 v2 h0 w)
abbrev gX11_row : zMth := (yX11_row, cX11_row, 3, (some .int), 6, zE0)
theorem cbX11_row : zCbV yX11_row cX11_row 3 (some .int) 2 := ⟨zw834, zw835, zw77, zw836, by decide, by decide, by decide +kernel⟩
set_option maxHeartbeats 4000000 in
set_option maxRecDepth 100000 in
theorem sX11_row (v0 : Nat) (v1 : Int32) (v2 : Int32) (h0 : zShp v0 = (11, 11)) (w : zWd) : zS gX11_row zEi 0 [(0, .ref v0), (1, .int v1), (2, .int v2)] [] w (mX11_row v0 v1 v2 w) := by
  unfold mX11_row
  refine zS_iload_n 1 rfl 2 rfl dX11_row_0 ?_
  refine zS_aload_n 2 rfl 0 rfl dX11_row_1 ?_
  refine zS_getfp 5 rfl 0 dX11_row_2 zC11 zw465 (by decide) rfl h0 ?_
  refine zS_getfp 8 rfl 4 dX11_row_5 zC10 zw353 (by decide) rfl (zP11_world h0) ?_
  refine zS_getfi 11 rfl 0 dX11_row_8 zC8 zw238 (by decide) rfl (zP10_takers (zP11_world h0)) ?_
  refine zS_cSi (as := [.int _, .int _]) (st := []) (g' := gX11_within) 14 rfl (okX11_within _ _ _) dX11_row_11 zw503 cbX11_within rfl rfl (by decide) (Nat.le_of_ble_eq_true rfl) (fun r1 w2 => ?_)
  refine zS_if_ne 19 17 rfl dX11_row_14 (by decide) ?_ ?_
  · refine zS_iconst 18 rfl (-1 : Int32) (by decide) dX11_row_17 ?_
    exact zS_reti dX11_row_18 rfl
  · refine zS_iload_n 20 rfl 1 rfl dX11_row_19 ?_
    refine zS_cSi (as := [.int _]) (st := []) (g' := gX11_isDay) 23 rfl (okX11_isDay _ _) dX11_row_20 zw644 cbX11_isDay rfl rfl (by decide) (Nat.le_of_ble_eq_true rfl) (fun r3 w4 => ?_)
    refine zS_if_ne 29 26 rfl dX11_row_23 (by decide) ?_ ?_
    · refine zS_bipush 28 rfl (-2 : Int32) (by decide) dX11_row_26 ?_
      exact zS_reti dX11_row_28 rfl
    · refine zS_aload_n 30 rfl 0 rfl dX11_row_29 ?_
      refine zS_getfp 33 rfl 6 dX11_row_30 zC11 zw471 (by decide) rfl h0 ?_
      refine zS_aload_n 34 rfl 0 rfl dX11_row_33 ?_
      refine zS_getfp 37 rfl 0 dX11_row_34 zC11 zw465 (by decide) rfl h0 ?_
      refine zS_getfp 40 rfl 3 dX11_row_37 zC10 zw351 (by decide) rfl (zP11_world h0) ?_
      refine zS_aload_n 41 rfl 0 rfl dX11_row_40 ?_
      refine zS_getfp 44 rfl 0 dX11_row_41 zC11 zw465 (by decide) rfl h0 ?_
      refine zS_getfp 47 rfl 4 dX11_row_44 zC10 zw353 (by decide) rfl (zP11_world h0) ?_
      refine zS_iload_n 48 rfl 1 rfl dX11_row_47 ?_
      refine zS_cVv (as := [.ref _, .ref _, .int _]) (st := []) (g' := gX5_form) 51 rfl (okX5_form _ _ _ _ _ (zP11_line h0) (zP10_book (zP11_world h0)) (zP10_takers (zP11_world h0))) dX11_row_48 zC5 (zP11_line h0) zw806 cbX5_form rfl rfl (by decide) (Nat.le_of_ble_eq_true rfl) (fun r5 w6 => ?_)
      refine zS_aload_n 52 rfl 0 rfl dX11_row_51 ?_
      refine zS_getfp 55 rfl 6 dX11_row_52 zC11 zw471 (by decide) rfl h0 ?_
      refine zS_getfp 58 rfl 2 dX11_row_55 zC5 zw403 (by decide) rfl (zP11_line h0) ?_
      refine zS_iload_n 59 rfl 2 rfl dX11_row_58 ?_
      refine zS_iald 60 rfl dX11_row_59 (zP5_order (zP11_line h0)) ?_
      exact zS_reti dX11_row_60 rfl

theorem okX11_row (v0 : Nat) (v1 : Int32) (v2 : Int32) (w : zWd) (h0 : zShp v0 = (11, 11)) : zOk gX11_row zEi [.ref v0, .int v1, .int v2] w (mX11_row v0 v1 v2 w) := zOk_of (by decide) rfl (Nat.le_of_ble_eq_true rfl) (sX11_row v0 v1 v2 h0 w)
abbrev gX11_sell : zMth := (yX11_sell, cX11_sell, 5, (some .int), 3, zE0)
theorem cbX11_sell : zCbV yX11_sell cX11_sell 5 (some .int) 4 := ⟨zw838, zw839, zw77, zw840, by decide, by decide, by decide +kernel⟩
set_option maxHeartbeats 4000000 in
set_option maxRecDepth 100000 in
theorem sX11_sell_26 (w : zWd) : zS gX11_sell zEi 26 [] [] w (mX11_sell_26 w) := by
  unfold mX11_sell_26
  refine zS_iconst 27 rfl (-1 : Int32) (by decide) dX11_sell_26 ?_
  exact zS_reti dX11_sell_27 rfl

set_option maxHeartbeats 4000000 in
set_option maxRecDepth 100000 in
theorem sX11_sell_50 (w : zWd) : zS gX11_sell zEi 50 [] [] w (mX11_sell_50 w) := by
  unfold mX11_sell_50
  refine zS_bipush 52 rfl (-2 : Int32) (by decide) dX11_sell_50 ?_
  exact zS_reti dX11_sell_52 rfl

set_option maxHeartbeats 4000000 in
set_option maxRecDepth 100000 in
theorem sX11_sell (v0 : Nat) (v1 : Int32) (v2 : Int32) (v3 : Int32) (v4 : Int32) (h0 : zShp v0 = (11, 11)) (w : zWd) : zS gX11_sell zEi 0 [(0, .ref v0), (1, .int v1), (2, .int v2), (3, .int v3), (4, .int v4)] [] w (mX11_sell v0 v1 v2 v3 v4 w) := by
  unfold mX11_sell
  refine zS_aload_n 1 rfl 0 rfl dX11_sell_0 ?_
  refine zS_iload_n 2 rfl 1 rfl dX11_sell_1 ?_
  refine zS_cVi (as := [.int _]) (st := []) (g' := gX11_isTaker) 5 rfl (okX11_isTaker _ _ _ h0) dX11_sell_2 zC11 h0 zw779 cbX11_isTaker rfl rfl (by decide) (Nat.le_of_ble_eq_true rfl) (fun r1 w2 => ?_)
  refine zS_if_eq 26 8 rfl dX11_sell_5 (by decide) ?_ ?_
  · refine zS_sub [] (show _ = [] from rfl) ?_
    exact sX11_sell_26 _
  · refine zS_iload_n 9 rfl 2 rfl dX11_sell_8 ?_
    refine zS_bipush 11 rfl (10 : Int32) (by decide) dX11_sell_9 ?_
    refine zS_cSi (as := [.int _, .int _]) (st := []) (g' := gX11_within) 14 rfl (okX11_within _ _ _) dX11_sell_11 zw503 cbX11_within rfl rfl (by decide) (Nat.le_of_ble_eq_true rfl) (fun r3 w4 => ?_)
    refine zS_if_eq 26 17 rfl dX11_sell_14 (by decide) ?_ ?_
    · refine zS_sub [] (show _ = [] from rfl) ?_
      exact sX11_sell_26 _
    · refine zS_iload_n 18 rfl 3 rfl dX11_sell_17 ?_
      refine zS_bipush 20 rfl (10 : Int32) (by decide) dX11_sell_18 ?_
      refine zS_cSi (as := [.int _, .int _]) (st := []) (g' := gX11_within) 23 rfl (okX11_within _ _ _) dX11_sell_20 zw503 cbX11_within rfl rfl (by decide) (Nat.le_of_ble_eq_true rfl) (fun r5 w6 => ?_)
      refine zS_if_ne 28 26 rfl dX11_sell_23 (by decide) ?_ ?_
      · refine zS_sub [] (show _ = [] from rfl) ?_
        exact sX11_sell_26 _
      · refine zS_iload 30 rfl 4 rfl dX11_sell_28 ?_
        refine zS_if_lt 50 33 rfl dX11_sell_30 (by decide) ?_ ?_
        · refine zS_sub [] (show _ = [] from rfl) ?_
          exact sX11_sell_50 _
        · refine zS_iload 35 rfl 4 rfl dX11_sell_33 ?_
          refine zS_aload_n 36 rfl 0 rfl dX11_sell_35 ?_
          refine zS_getfp 39 rfl 0 dX11_sell_36 zC11 zw465 (by decide) rfl h0 ?_
          refine zS_getfi 42 rfl 0 dX11_sell_39 zC10 zw345 (by decide) rfl (zP11_world h0) ?_
          refine zS_icmp_gt 50 45 rfl dX11_sell_42 (by decide) ?_ ?_
          · refine zS_sub [] (show _ = [] from rfl) ?_
            exact sX11_sell_50 _
          · refine zS_iload_n 46 rfl 2 rfl dX11_sell_45 ?_
            refine zS_iload_n 47 rfl 3 rfl dX11_sell_46 ?_
            refine zS_icmp_ne 53 50 rfl dX11_sell_47 (by decide) ?_ ?_
            · refine zS_sub [] (show _ = [] from rfl) ?_
              exact sX11_sell_50 _
            · refine zS_aload_n 54 rfl 0 rfl dX11_sell_53 ?_
              refine zS_getfp 57 rfl 0 dX11_sell_54 zC11 zw465 (by decide) rfl h0 ?_
              refine zS_getfp 60 rfl 4 dX11_sell_57 zC10 zw353 (by decide) rfl (zP11_world h0) ?_
              refine zS_getfi 63 rfl 8 dX11_sell_60 zC8 zw259 (by decide) rfl (zP10_takers (zP11_world h0)) ?_
              refine zS_bipush 65 rfl (30 : Int32) (by decide) dX11_sell_63 ?_
              refine zS_icmp_lt 71 68 rfl dX11_sell_65 (by decide) ?_ ?_
              · refine zS_aload_n 72 rfl 0 rfl dX11_sell_71 ?_
                refine zS_getfp 75 rfl 0 dX11_sell_72 zC11 zw465 (by decide) rfl h0 ?_
                refine zS_getfp 78 rfl 4 dX11_sell_75 zC10 zw353 (by decide) rfl (zP11_world h0) ?_
                refine zS_iload_n 79 rfl 1 rfl dX11_sell_78 ?_
                refine zS_iload_n 80 rfl 2 rfl dX11_sell_79 ?_
                refine zS_iload_n 81 rfl 3 rfl dX11_sell_80 ?_
                refine zS_iload 83 rfl 4 rfl dX11_sell_81 ?_
                refine zS_cVi (as := [.int _, .int _, .int _, .int _]) (st := []) (g' := gX8_addSale) 86 rfl (okX8_addSale _ _ _ _ _ _ (zP10_takers (zP11_world h0))) dX11_sell_83 zC8 (zP10_takers (zP11_world h0)) zw841 cbX8_addSale rfl rfl (by decide) (Nat.le_of_ble_eq_true rfl) (fun r7 w8 => ?_)
                exact zS_reti dX11_sell_86 rfl
              · refine zS_bipush 70 rfl (-4 : Int32) (by decide) dX11_sell_68 ?_
                exact zS_reti dX11_sell_70 rfl

theorem okX11_sell (v0 : Nat) (v1 : Int32) (v2 : Int32) (v3 : Int32) (v4 : Int32) (w : zWd) (h0 : zShp v0 = (11, 11)) : zOk gX11_sell zEi [.ref v0, .int v1, .int v2, .int v3, .int v4] w (mX11_sell v0 v1 v2 v3 v4 w) := zOk_of (by decide) rfl (Nat.le_of_ble_eq_true rfl) (sX11_sell v0 v1 v2 v3 v4 h0 w)
abbrev gX11_whose : zMth := (yX11_whose, cX11_whose, 4, (some .int), 3, zE0)
theorem cbX11_whose : zCbV yX11_whose cX11_whose 4 (some .int) 3 := ⟨zw846, zw847, zw77, zw848, by decide, by decide, by decide +kernel⟩
set_option maxHeartbeats 4000000 in
set_option maxRecDepth 100000 in
theorem sX11_whose_27 (w : zWd) : zS gX11_whose zEi 27 [] [] w (mX11_whose_27 w) := by
  unfold mX11_whose_27
  refine zS_iconst 28 rfl (-1 : Int32) (by decide) dX11_whose_27 ?_
  exact zS_reti dX11_whose_28 rfl

set_option maxHeartbeats 4000000 in
set_option maxRecDepth 100000 in
theorem sX11_whose_66 (s0 : Int32) (s1 : Int32) (s2 : Int32) (s3 : Nat) (t3 : zShp s3 = (8, 13)) (w : zWd) : zS gX11_whose zEi 66 [] [.int s0, .int s1, .int s2, .ref s3] w (mX11_whose_66 s0 s1 s2 s3 w) := by
  unfold mX11_whose_66
  refine zS_cVi (as := [.int _, .int _, .int _]) (st := []) (g' := gX8_ownerOn) 69 rfl (okX8_ownerOn _ _ _ _ _ t3) dX11_whose_66 zC8 t3 zw849 cbX8_ownerOn rfl rfl (by decide) (Nat.le_of_ble_eq_true rfl) (fun r5 w6 => ?_)
  exact zS_reti dX11_whose_69 rfl

set_option maxHeartbeats 4000000 in
set_option maxRecDepth 100000 in
theorem sX11_whose (v0 : Nat) (v1 : Int32) (v2 : Int32) (v3 : Int32) (h0 : zShp v0 = (11, 11)) (w : zWd) : zS gX11_whose zEi 0 [(0, .ref v0), (1, .int v1), (2, .int v2), (3, .int v3)] [] w (mX11_whose v0 v1 v2 v3 w) := by
  unfold mX11_whose
  refine zS_aload_n 1 rfl 0 rfl dX11_whose_0 ?_
  refine zS_iload_n 2 rfl 1 rfl dX11_whose_1 ?_
  refine zS_cVi (as := [.int _]) (st := []) (g' := gX11_isTaker) 5 rfl (okX11_isTaker _ _ _ h0) dX11_whose_2 zC11 h0 zw779 cbX11_isTaker rfl rfl (by decide) (Nat.le_of_ble_eq_true rfl) (fun r1 w2 => ?_)
  refine zS_if_eq 27 8 rfl dX11_whose_5 (by decide) ?_ ?_
  · refine zS_sub [] (show _ = [] from rfl) ?_
    exact sX11_whose_27 _
  · refine zS_iload_n 9 rfl 3 rfl dX11_whose_8 ?_
    refine zS_iconst 10 rfl (-1 : Int32) (by decide) dX11_whose_9 ?_
    refine zS_icmp_lt 27 13 rfl dX11_whose_10 (by decide) ?_ ?_
    · refine zS_sub [] (show _ = [] from rfl) ?_
      exact sX11_whose_27 _
    · refine zS_iload_n 14 rfl 3 rfl dX11_whose_13 ?_
      refine zS_aload_n 15 rfl 0 rfl dX11_whose_14 ?_
      refine zS_getfp 18 rfl 0 dX11_whose_15 zC11 zw465 (by decide) rfl h0 ?_
      refine zS_getfp 21 rfl 4 dX11_whose_18 zC10 zw353 (by decide) rfl (zP11_world h0) ?_
      refine zS_getfi 24 rfl 8 dX11_whose_21 zC8 zw259 (by decide) rfl (zP10_takers (zP11_world h0)) ?_
      refine zS_icmp_le 29 27 rfl dX11_whose_24 (by decide) ?_ ?_
      · refine zS_iload_n 30 rfl 2 rfl dX11_whose_29 ?_
        refine zS_cSi (as := [.int _]) (st := []) (g' := gX11_isDay) 33 rfl (okX11_isDay _ _) dX11_whose_30 zw644 cbX11_isDay rfl rfl (by decide) (Nat.le_of_ble_eq_true rfl) (fun r3 w4 => ?_)
        refine zS_if_ne 39 36 rfl dX11_whose_33 (by decide) ?_ ?_
        · refine zS_bipush 38 rfl (-2 : Int32) (by decide) dX11_whose_36 ?_
          exact zS_reti dX11_whose_38 rfl
        · refine zS_aload_n 40 rfl 0 rfl dX11_whose_39 ?_
          refine zS_getfp 43 rfl 0 dX11_whose_40 zC11 zw465 (by decide) rfl h0 ?_
          refine zS_getfp 46 rfl 4 dX11_whose_43 zC10 zw353 (by decide) rfl (zP11_world h0) ?_
          refine zS_iload_n 47 rfl 1 rfl dX11_whose_46 ?_
          refine zS_iload_n 48 rfl 2 rfl dX11_whose_47 ?_
          refine zS_iload_n 49 rfl 3 rfl dX11_whose_48 ?_
          refine zS_if_ge 65 52 rfl dX11_whose_49 (by decide) ?_ ?_
          · refine zS_iload_n 66 rfl 3 rfl dX11_whose_65 ?_
            refine zS_sub [] (show _ = [] from rfl) ?_
            exact sX11_whose_66 _ _ _ _ (zP10_takers (zP11_world h0)) _
          · refine zS_aload_n 53 rfl 0 rfl dX11_whose_52 ?_
            refine zS_getfp 56 rfl 0 dX11_whose_53 zC11 zw465 (by decide) rfl h0 ?_
            refine zS_getfp 59 rfl 4 dX11_whose_56 zC10 zw353 (by decide) rfl (zP11_world h0) ?_
            refine zS_getfi 62 rfl 8 dX11_whose_59 zC8 zw259 (by decide) rfl (zP10_takers (zP11_world h0)) ?_
            refine zS_goto 66 dX11_whose_62 (by decide) ?_
            refine zS_sub [] (show _ = [] from rfl) ?_
            exact sX11_whose_66 _ _ _ _ (zP10_takers (zP11_world h0)) _
      · refine zS_sub [] (show _ = [] from rfl) ?_
        exact sX11_whose_27 _

theorem okX11_whose (v0 : Nat) (v1 : Int32) (v2 : Int32) (v3 : Int32) (w : zWd) (h0 : zShp v0 = (11, 11)) : zOk gX11_whose zEi [.ref v0, .int v1, .int v2, .int v3] w (mX11_whose v0 v1 v2 v3 w) := zOk_of (by decide) rfl (Nat.le_of_ble_eq_true rfl) (sX11_whose v0 v1 v2 v3 h0 w)
abbrev gX11_used : zMth := (yX11_used, cX11_used, 3, (some .int), 3, zE0)
theorem cbX11_used : zCbV yX11_used cX11_used 3 (some .int) 2 := ⟨zw858, zw859, zw77, zw860, by decide, by decide, by decide +kernel⟩
set_option maxHeartbeats 4000000 in
set_option maxRecDepth 100000 in
theorem sX11_used_37 (w : zWd) : zS gX11_used zEi 37 [] [] w (mX11_used_37 w) := by
  unfold mX11_used_37
  refine zS_bipush 39 rfl (-2 : Int32) (by decide) dX11_used_37 ?_
  exact zS_reti dX11_used_39 rfl

set_option maxHeartbeats 4000000 in
set_option maxRecDepth 100000 in
theorem sX11_used (v0 : Nat) (v1 : Int32) (v2 : Int32) (h0 : zShp v0 = (11, 11)) (w : zWd) : zS gX11_used zEi 0 [(0, .ref v0), (1, .int v1), (2, .int v2)] [] w (mX11_used v0 v1 v2 w) := by
  unfold mX11_used
  refine zS_aload_n 1 rfl 0 rfl dX11_used_0 ?_
  refine zS_iload_n 2 rfl 1 rfl dX11_used_1 ?_
  refine zS_cVi (as := [.int _]) (st := []) (g' := gX11_isTaker) 5 rfl (okX11_isTaker _ _ _ h0) dX11_used_2 zC11 h0 zw779 cbX11_isTaker rfl rfl (by decide) (Nat.le_of_ble_eq_true rfl) (fun r1 w2 => ?_)
  refine zS_if_ne 10 8 rfl dX11_used_5 (by decide) ?_ ?_
  · refine zS_iconst 9 rfl (-1 : Int32) (by decide) dX11_used_8 ?_
    exact zS_reti dX11_used_9 rfl
  · refine zS_iload_n 11 rfl 2 rfl dX11_used_10 ?_
    refine zS_aload_n 12 rfl 0 rfl dX11_used_11 ?_
    refine zS_getfp 15 rfl 0 dX11_used_12 zC11 zw465 (by decide) rfl h0 ?_
    refine zS_getfp 18 rfl 4 dX11_used_15 zC10 zw353 (by decide) rfl (zP11_world h0) ?_
    refine zS_getfp 21 rfl 5 dX11_used_18 zC8 zw254 (by decide) rfl (zP10_takers (zP11_world h0)) ?_
    refine zS_iload_n 22 rfl 1 rfl dX11_used_21 ?_
    refine zS_iald 23 rfl dX11_used_22 (zP8_since (zP10_takers (zP11_world h0))) ?_
    refine zS_icmp_lt 37 26 rfl dX11_used_23 (by decide) ?_ ?_
    · refine zS_sub [] (show _ = [] from rfl) ?_
      exact sX11_used_37 _
    · refine zS_iload_n 27 rfl 2 rfl dX11_used_26 ?_
      refine zS_aload_n 28 rfl 0 rfl dX11_used_27 ?_
      refine zS_getfp 31 rfl 0 dX11_used_28 zC11 zw465 (by decide) rfl h0 ?_
      refine zS_getfi 34 rfl 0 dX11_used_31 zC10 zw345 (by decide) rfl (zP11_world h0) ?_
      refine zS_icmp_le 40 37 rfl dX11_used_34 (by decide) ?_ ?_
      · refine zS_aload_n 41 rfl 0 rfl dX11_used_40 ?_
        refine zS_getfp 44 rfl 0 dX11_used_41 zC11 zw465 (by decide) rfl h0 ?_
        refine zS_getfp 47 rfl 4 dX11_used_44 zC10 zw353 (by decide) rfl (zP11_world h0) ?_
        refine zS_iload_n 48 rfl 1 rfl dX11_used_47 ?_
        refine zS_iload_n 49 rfl 2 rfl dX11_used_48 ?_
        refine zS_cVi (as := [.int _, .int _]) (st := []) (g' := gX8_hasUse) 52 rfl (okX8_hasUse _ _ _ _ (zP10_takers (zP11_world h0))) dX11_used_49 zC8 (zP10_takers (zP11_world h0)) zw861 cbX8_hasUse rfl rfl (by decide) (Nat.le_of_ble_eq_true rfl) (fun r3 w4 => ?_)
        refine zS_if_eq 58 55 rfl dX11_used_52 (by decide) ?_ ?_
        · refine zS_aload_n 59 rfl 0 rfl dX11_used_58 ?_
          refine zS_getfp 62 rfl 0 dX11_used_59 zC11 zw465 (by decide) rfl h0 ?_
          refine zS_getfp 65 rfl 4 dX11_used_62 zC10 zw353 (by decide) rfl (zP11_world h0) ?_
          refine zS_getfp 68 rfl 6 dX11_used_65 zC8 zw256 (by decide) rfl (zP10_takers (zP11_world h0)) ?_
          refine zS_iload_n 69 rfl 1 rfl dX11_used_68 ?_
          refine zS_iald 70 rfl dX11_used_69 (zP8_uses (zP10_takers (zP11_world h0))) ?_
          refine zS_bipush 72 rfl (20 : Int32) (by decide) dX11_used_70 ?_
          refine zS_icmp_lt 78 75 rfl dX11_used_72 (by decide) ?_ ?_
          · refine zS_aload_n 79 rfl 0 rfl dX11_used_78 ?_
            refine zS_getfp 82 rfl 0 dX11_used_79 zC11 zw465 (by decide) rfl h0 ?_
            refine zS_getfp 85 rfl 4 dX11_used_82 zC10 zw353 (by decide) rfl (zP11_world h0) ?_
            refine zS_iload_n 86 rfl 1 rfl dX11_used_85 ?_
            refine zS_iload_n 87 rfl 2 rfl dX11_used_86 ?_
            refine zS_cVi (as := [.int _, .int _]) (st := []) (g' := gX8_addUse) 90 rfl (okX8_addUse _ _ _ _ (zP10_takers (zP11_world h0))) dX11_used_87 zC8 (zP10_takers (zP11_world h0)) zw865 cbX8_addUse rfl rfl (by decide) (Nat.le_of_ble_eq_true rfl) (fun r5 w6 => ?_)
            exact zS_reti dX11_used_90 rfl
          · refine zS_bipush 77 rfl (-4 : Int32) (by decide) dX11_used_75 ?_
            exact zS_reti dX11_used_77 rfl
        · refine zS_bipush 57 rfl (-3 : Int32) (by decide) dX11_used_55 ?_
          exact zS_reti dX11_used_57 rfl
      · refine zS_sub [] (show _ = [] from rfl) ?_
        exact sX11_used_37 _

theorem okX11_used (v0 : Nat) (v1 : Int32) (v2 : Int32) (w : zWd) (h0 : zShp v0 = (11, 11)) : zOk gX11_used zEi [.ref v0, .int v1, .int v2] w (mX11_used v0 v1 v2 w) := zOk_of (by decide) rfl (Nat.le_of_ble_eq_true rfl) (sX11_used v0 v1 v2 h0 w)
abbrev gX11_lapsed : zMth := (yX11_lapsed, cX11_lapsed, 4, (some .int), 6, zE0)
theorem cbX11_lapsed : zCbV yX11_lapsed cX11_lapsed 4 (some .int) 2 := ⟨zw870, zw871, zw77, zw872, by decide, by decide, by decide +kernel⟩
set_option maxHeartbeats 4000000 in
set_option maxRecDepth 100000 in
theorem sX11_lapsed_53 (s0 : Int32) (w : zWd) : zS gX11_lapsed zEi 53 [] [.int s0] w (mX11_lapsed_53 s0 w) := by
  unfold mX11_lapsed_53
  exact zS_reti dX11_lapsed_53 rfl

set_option maxHeartbeats 4000000 in
set_option maxRecDepth 100000 in
theorem sX11_lapsed (v0 : Nat) (v1 : Int32) (v2 : Int32) (h0 : zShp v0 = (11, 11)) (w : zWd) : zS gX11_lapsed zEi 0 [(0, .ref v0), (1, .int v1), (2, .int v2)] [] w (mX11_lapsed v0 v1 v2 w) := by
  unfold mX11_lapsed
  refine zS_aload_n 1 rfl 0 rfl dX11_lapsed_0 ?_
  refine zS_iload_n 2 rfl 1 rfl dX11_lapsed_1 ?_
  refine zS_cVi (as := [.int _]) (st := []) (g' := gX11_isTaker) 5 rfl (okX11_isTaker _ _ _ h0) dX11_lapsed_2 zC11 h0 zw779 cbX11_isTaker rfl rfl (by decide) (Nat.le_of_ble_eq_true rfl) (fun r1 w2 => ?_)
  refine zS_if_ne 10 8 rfl dX11_lapsed_5 (by decide) ?_ ?_
  · refine zS_iconst 9 rfl (-1 : Int32) (by decide) dX11_lapsed_8 ?_
    exact zS_reti dX11_lapsed_9 rfl
  · refine zS_iload_n 11 rfl 2 rfl dX11_lapsed_10 ?_
    refine zS_cSi (as := [.int _]) (st := []) (g' := gX11_isDay) 14 rfl (okX11_isDay _ _) dX11_lapsed_11 zw644 cbX11_isDay rfl rfl (by decide) (Nat.le_of_ble_eq_true rfl) (fun r3 w4 => ?_)
    refine zS_if_ne 20 17 rfl dX11_lapsed_14 (by decide) ?_ ?_
    · refine zS_bipush 19 rfl (-2 : Int32) (by decide) dX11_lapsed_17 ?_
      exact zS_reti dX11_lapsed_19 rfl
    · refine zS_iload_n 21 rfl 2 rfl dX11_lapsed_20 ?_
      refine zS_aload_n 22 rfl 0 rfl dX11_lapsed_21 ?_
      refine zS_getfp 25 rfl 0 dX11_lapsed_22 zC11 zw465 (by decide) rfl h0 ?_
      refine zS_getfp 28 rfl 4 dX11_lapsed_25 zC10 zw353 (by decide) rfl (zP11_world h0) ?_
      refine zS_iload_n 29 rfl 1 rfl dX11_lapsed_28 ?_
      refine zS_iload_n 30 rfl 2 rfl dX11_lapsed_29 ?_
      refine zS_cVi (as := [.int _, .int _]) (st := [.int _]) (g' := gX8_lastUse) 33 rfl (okX8_lastUse _ _ _ _ (zP10_takers (zP11_world h0))) dX11_lapsed_30 zC8 (zP10_takers (zP11_world h0)) zw873 cbX8_lastUse rfl rfl (by decide) (Nat.le_of_ble_eq_true rfl) (fun r5 w6 => ?_)
      refine zS_isub 34 rfl dX11_lapsed_33 ?_
      refine zS_bni (fun x7 => ?_)
      refine zS_istore_n 35 rfl dX11_lapsed_34 (by show 3 < 4; decide) (show _ = [(3, .int _), (0, .ref _), (1, .int _), (2, .int _)] from rfl) ?_
      refine zS_iload_n 36 rfl 0 rfl dX11_lapsed_35 ?_
      refine zS_aload_n 37 rfl 1 rfl dX11_lapsed_36 ?_
      refine zS_getfp 40 rfl 0 dX11_lapsed_37 zC11 zw465 (by decide) rfl h0 ?_
      refine zS_iconst 41 rfl (3 : Int32) (by decide) dX11_lapsed_40 ?_
      refine zS_iload_n 42 rfl 3 rfl dX11_lapsed_41 ?_
      refine zS_cVi (as := [.int _, .int _]) (st := [.int _]) (g' := gX10_rules) 45 rfl (okX10_rules _ _ _ _ (zP11_world h0)) dX11_lapsed_42 zC10 (zP11_world h0) zw877 cbX10_rules rfl rfl (by decide) (Nat.le_of_ble_eq_true rfl) (fun r8 w9 => ?_)
      refine zS_icmp_le 52 48 rfl dX11_lapsed_45 (by decide) ?_ ?_
      · refine zS_iconst 53 rfl (0 : Int32) (by decide) dX11_lapsed_52 ?_
        refine zS_sub [] (show _ = [] from rfl) ?_
        exact sX11_lapsed_53 _ _
      · refine zS_iconst 49 rfl (1 : Int32) (by decide) dX11_lapsed_48 ?_
        refine zS_goto 53 dX11_lapsed_49 (by decide) ?_
        refine zS_sub [] (show _ = [] from rfl) ?_
        exact sX11_lapsed_53 _ _

theorem okX11_lapsed (v0 : Nat) (v1 : Int32) (v2 : Int32) (w : zWd) (h0 : zShp v0 = (11, 11)) : zOk gX11_lapsed zEi [.ref v0, .int v1, .int v2] w (mX11_lapsed v0 v1 v2 w) := zOk_of (by decide) rfl (Nat.le_of_ble_eq_true rfl) (sX11_lapsed v0 v1 v2 h0 w)
abbrev gX11_servedOf : zMth := (yX11_servedOf, cX11_servedOf, 3, (some .int), 6, zE0)
theorem cbX11_servedOf : zCbV yX11_servedOf cX11_servedOf 3 (some .int) 1 := ⟨zw884, zw26, zw77, zw885, by decide, by decide, by decide +kernel⟩
set_option maxHeartbeats 4000000 in
set_option maxRecDepth 100000 in
theorem sX11_servedOf_59 (k2 : Int32 × zWd → Option (Int32 × zWd)) (v0 : Nat) (v1 : Int32) (v2 : Int32) (hk2 : ∀ (v2 : Int32) (w : zWd), zS gX11_servedOf zEi 2 [(0, .ref v0), (1, .int v1), (2, .int v2)] [] w (k2 (v2, w))) (h0 : zShp v0 = (11, 11)) (w : zWd) : zS gX11_servedOf zEi 59 [(0, .ref v0), (1, .int v1), (2, .int v2)] [] w (mX11_servedOf_59 k2 v0 v1 v2 w) := by
  unfold mX11_servedOf_59
  refine zS_iinc 62 rfl 2 (_ + (1 : Int32)) dX11_servedOf_59 rfl (by show 2 < 3; decide) rfl (show _ = [(2, .int _), (0, .ref _), (1, .int _)] from rfl) ?_
  refine zS_goto 2 dX11_servedOf_62 (by decide) ?_
  refine zS_sub [1, 2, 0] (show _ = [(0, .ref _), (1, .int _), (2, .int _)] from rfl) ?_
  exact hk2 _ _

set_option maxHeartbeats 4000000 in
set_option maxRecDepth 100000 in
theorem sX11_servedOf_49 (k2 : Int32 × zWd → Option (Int32 × zWd)) (v0 : Nat) (v1 : Int32) (v2 : Int32) (hk2 : ∀ (v2 : Int32) (w : zWd), zS gX11_servedOf zEi 2 [(0, .ref v0), (1, .int v1), (2, .int v2)] [] w (k2 (v2, w))) (h0 : zShp v0 = (11, 11)) (w : zWd) : zS gX11_servedOf zEi 49 [(0, .ref v0), (1, .int v1), (2, .int v2)] [] w (mX11_servedOf_49 k2 v0 v1 v2 w) := by
  unfold mX11_servedOf_49
  refine zS_aload_n 50 rfl 0 rfl dX11_servedOf_49 ?_
  refine zS_getfp 53 rfl 7 dX11_servedOf_50 zC11 zw472 (by decide) rfl h0 ?_
  refine zS_iload_n 54 rfl 2 rfl dX11_servedOf_53 ?_
  refine zS_iconst 55 rfl (0 : Int32) (by decide) dX11_servedOf_54 ?_
  refine zS_iconst 56 rfl (0 : Int32) (by decide) dX11_servedOf_55 ?_
  refine zS_cVv (as := [.int _, .int _, .int _]) (st := []) (g' := gX1_offer) 59 rfl (okX1_offer _ _ _ _ _ (zP11_mixer h0)) dX11_servedOf_56 zC1 (zP11_mixer h0) zw886 cbX1_offer rfl rfl (by decide) (Nat.le_of_ble_eq_true rfl) (fun r5 w6 => ?_)
  exact sX11_servedOf_59 k2 _ _ _ hk2 h0 _

set_option maxHeartbeats 4000000 in
set_option maxRecDepth 100000 in
theorem sX11_servedOf_2b (v0 : Nat) (v1 : Int32) (k2 : Int32 × zWd → Option (Int32 × zWd)) (v2 : Int32) (hk2 : ∀ (v2 : Int32) (w : zWd), zS gX11_servedOf zEi 2 [(0, .ref v0), (1, .int v1), (2, .int v2)] [] w (k2 (v2, w))) (h0 : zShp v0 = (11, 11)) (w : zWd) : zS gX11_servedOf zEi 2 [(0, .ref v0), (1, .int v1), (2, .int v2)] [] w (mX11_servedOf_2b v0 v1 k2 v2 w) := by
  unfold mX11_servedOf_2b
  refine zS_iload_n 3 rfl 2 rfl dX11_servedOf_2 ?_
  refine zS_iconst 4 rfl (4 : Int32) (by decide) dX11_servedOf_3 ?_
  refine zS_icmp_ge 65 7 rfl dX11_servedOf_4 (by decide) ?_ ?_
  · refine zS_aload_n 66 rfl 0 rfl dX11_servedOf_65 ?_
    refine zS_getfp 69 rfl 7 dX11_servedOf_66 zC11 zw472 (by decide) rfl h0 ?_
    refine zS_aload_n 70 rfl 0 rfl dX11_servedOf_69 ?_
    refine zS_getfp 73 rfl 6 dX11_servedOf_70 zC11 zw471 (by decide) rfl h0 ?_
    refine zS_aload_n 74 rfl 0 rfl dX11_servedOf_73 ?_
    refine zS_getfp 77 rfl 0 dX11_servedOf_74 zC11 zw465 (by decide) rfl h0 ?_
    refine zS_getfp 80 rfl 4 dX11_servedOf_77 zC10 zw353 (by decide) rfl (zP11_world h0) ?_
    refine zS_cVi (as := [.ref _, .ref _]) (st := []) (g' := gX1_serve) 83 rfl (okX1_serve _ _ _ _ (zP11_mixer h0) (zP11_line h0) (zP10_takers (zP11_world h0))) dX11_servedOf_80 zC1 (zP11_mixer h0) zw891 cbX1_serve rfl rfl (by decide) (Nat.le_of_ble_eq_true rfl) (fun r1 w2 => ?_)
    exact zS_reti dX11_servedOf_83 rfl
  · refine zS_aload_n 8 rfl 0 rfl dX11_servedOf_7 ?_
    refine zS_iload_n 9 rfl 2 rfl dX11_servedOf_8 ?_
    refine zS_cVi (as := [.int _]) (st := []) (g' := gX11_isTap) 12 rfl (okX11_isTap _ _ _ h0) dX11_servedOf_9 zC11 h0 zw567 cbX11_isTap rfl rfl (by decide) (Nat.le_of_ble_eq_true rfl) (fun r3 w4 => ?_)
    refine zS_if_eq 49 15 rfl dX11_servedOf_12 (by decide) ?_ ?_
    · exact sX11_servedOf_49 k2 _ _ _ hk2 h0 _
    · refine zS_aload_n 16 rfl 0 rfl dX11_servedOf_15 ?_
      refine zS_iload_n 17 rfl 2 rfl dX11_servedOf_16 ?_
      refine zS_iload_n 18 rfl 1 rfl dX11_servedOf_17 ?_
      refine zS_cVi (as := [.int _, .int _]) (st := []) (g' := gX11_wentBy) 21 rfl (okX11_wentBy _ _ _ _ h0) dX11_servedOf_18 zC11 h0 zw616 cbX11_wentBy rfl rfl (by decide) (Nat.le_of_ble_eq_true rfl) (fun r7 w8 => ?_)
      refine zS_if_eq 49 24 rfl dX11_servedOf_21 (by decide) ?_ ?_
      · exact sX11_servedOf_49 k2 _ _ _ hk2 h0 _
      · refine zS_aload_n 25 rfl 0 rfl dX11_servedOf_24 ?_
        refine zS_getfp 28 rfl 7 dX11_servedOf_25 zC11 zw472 (by decide) rfl h0 ?_
        refine zS_iload_n 29 rfl 2 rfl dX11_servedOf_28 ?_
        refine zS_aload_n 30 rfl 0 rfl dX11_servedOf_29 ?_
        refine zS_iload_n 31 rfl 2 rfl dX11_servedOf_30 ?_
        refine zS_iload_n 32 rfl 1 rfl dX11_servedOf_31 ?_
        refine zS_iconst 33 rfl (2 : Int32) (by decide) dX11_servedOf_32 ?_
        refine zS_cVi (as := [.int _, .int _, .int _]) (st := [.int _, .ref _]) (g' := gX11_pastFlow) 36 rfl (okX11_pastFlow _ _ _ _ _ h0) dX11_servedOf_33 zC11 h0 zw620 cbX11_pastFlow rfl rfl (by decide) (Nat.le_of_ble_eq_true rfl) (fun r9 w10 => ?_)
        refine zS_aload_n 37 rfl 0 rfl dX11_servedOf_36 ?_
        refine zS_iload_n 38 rfl 2 rfl dX11_servedOf_37 ?_
        refine zS_iload_n 39 rfl 1 rfl dX11_servedOf_38 ?_
        refine zS_iconst 40 rfl (3 : Int32) (by decide) dX11_servedOf_39 ?_
        refine zS_cVi (as := [.int _, .int _, .int _]) (st := [.int _, .int _, .ref _]) (g' := gX11_pastFlow) 43 rfl (okX11_pastFlow _ _ _ _ _ h0) dX11_servedOf_40 zC11 h0 zw620 cbX11_pastFlow rfl rfl (by decide) (Nat.le_of_ble_eq_true rfl) (fun r11 w12 => ?_)
        refine zS_cVv (as := [.int _, .int _, .int _]) (st := []) (g' := gX1_offer) 46 rfl (okX1_offer _ _ _ _ _ (zP11_mixer h0)) dX11_servedOf_43 zC1 (zP11_mixer h0) zw886 cbX1_offer rfl rfl (by decide) (Nat.le_of_ble_eq_true rfl) (fun r13 w14 => ?_)
        refine zS_goto 59 dX11_servedOf_46 (by decide) ?_
        exact sX11_servedOf_59 k2 _ _ _ hk2 h0 _

theorem sX11_servedOf_2 (v0 : Nat) (v1 : Int32) (v2 : Int32) (h0 : zShp v0 = (11, 11)) (w : zWd) : zS gX11_servedOf zEi 2 [(0, .ref v0), (1, .int v1), (2, .int v2)] [] w (mX11_servedOf_2 v0 v1 v2 w) :=
  zS_loop (L := fun q : Int32 × zWd => [(0, .ref v0), (1, .int v1), (2, .int q.1)]) (V := fun q => q.2) (T := fun _ => []) (F := fun k q => mX11_servedOf_2b v0 v1 k q.1 q.2) (fun k hk q => sX11_servedOf_2b v0 v1 k q.1 (fun a2 w => hk (a2, w)) h0 q.2) zFU (v2, w)
set_option maxHeartbeats 4000000 in
set_option maxRecDepth 100000 in
theorem sX11_servedOf (v0 : Nat) (v1 : Int32) (h0 : zShp v0 = (11, 11)) (w : zWd) : zS gX11_servedOf zEi 0 [(0, .ref v0), (1, .int v1)] [] w (mX11_servedOf v0 v1 w) := by
  unfold mX11_servedOf
  refine zS_iconst 1 rfl (0 : Int32) (by decide) dX11_servedOf_0 ?_
  refine zS_istore_n 2 rfl dX11_servedOf_1 (by show 2 < 3; decide) (show _ = [(2, .int _), (0, .ref _), (1, .int _)] from rfl) ?_
  refine zS_sub [1, 2, 0] (show _ = [(0, .ref _), (1, .int _), (2, .int _)] from rfl) ?_
  exact sX11_servedOf_2 _ _ _ h0 _

theorem okX11_servedOf (v0 : Nat) (v1 : Int32) (w : zWd) (h0 : zShp v0 = (11, 11)) : zOk gX11_servedOf zEi [.ref v0, .int v1] w (mX11_servedOf v0 v1 w) := zOk_of (by decide) rfl (Nat.le_of_ble_eq_true rfl) (sX11_servedOf v0 v1 h0 w)
abbrev gX11_mix : zMth := (yX11_mix, cX11_mix, 2, (some .int), 7, zE0)
theorem cbX11_mix : zCbV yX11_mix cX11_mix 2 (some .int) 1 := ⟨zw879, zw880, zw77, zw881, by decide, by decide, by decide +kernel⟩
set_option maxHeartbeats 4000000 in
set_option maxRecDepth 100000 in
theorem sX11_mix (v0 : Nat) (v1 : Int32) (h0 : zShp v0 = (11, 11)) (w : zWd) : zS gX11_mix zEi 0 [(0, .ref v0), (1, .int v1)] [] w (mX11_mix v0 v1 w) := by
  unfold mX11_mix
  refine zS_iload_n 1 rfl 1 rfl dX11_mix_0 ?_
  refine zS_aload_n 2 rfl 0 rfl dX11_mix_1 ?_
  refine zS_getfp 5 rfl 0 dX11_mix_2 zC11 zw465 (by decide) rfl h0 ?_
  refine zS_getfi 8 rfl 0 dX11_mix_5 zC10 zw345 (by decide) rfl (zP11_world h0) ?_
  refine zS_cSi (as := [.int _, .int _]) (st := []) (g' := gX11_within) 11 rfl (okX11_within _ _ _) dX11_mix_8 zw503 cbX11_within rfl rfl (by decide) (Nat.le_of_ble_eq_true rfl) (fun r1 w2 => ?_)
  refine zS_if_ne 16 14 rfl dX11_mix_11 (by decide) ?_ ?_
  · refine zS_iconst 15 rfl (-1 : Int32) (by decide) dX11_mix_14 ?_
    exact zS_reti dX11_mix_15 rfl
  · refine zS_aload_n 17 rfl 0 rfl dX11_mix_16 ?_
    refine zS_getfp 20 rfl 6 dX11_mix_17 zC11 zw471 (by decide) rfl h0 ?_
    refine zS_aload_n 21 rfl 0 rfl dX11_mix_20 ?_
    refine zS_getfp 24 rfl 0 dX11_mix_21 zC11 zw465 (by decide) rfl h0 ?_
    refine zS_getfp 27 rfl 3 dX11_mix_24 zC10 zw351 (by decide) rfl (zP11_world h0) ?_
    refine zS_aload_n 28 rfl 0 rfl dX11_mix_27 ?_
    refine zS_getfp 31 rfl 0 dX11_mix_28 zC11 zw465 (by decide) rfl h0 ?_
    refine zS_getfp 34 rfl 4 dX11_mix_31 zC10 zw353 (by decide) rfl (zP11_world h0) ?_
    refine zS_iload_n 35 rfl 1 rfl dX11_mix_34 ?_
    refine zS_cVv (as := [.ref _, .ref _, .int _]) (st := []) (g' := gX5_form) 38 rfl (okX5_form _ _ _ _ _ (zP11_line h0) (zP10_book (zP11_world h0)) (zP10_takers (zP11_world h0))) dX11_mix_35 zC5 (zP11_line h0) zw806 cbX5_form rfl rfl (by decide) (Nat.le_of_ble_eq_true rfl) (fun r3 w4 => ?_)
    refine zS_aload_n 39 rfl 0 rfl dX11_mix_38 ?_
    refine zS_iload_n 40 rfl 1 rfl dX11_mix_39 ?_
    refine zS_cVi (as := [.int _]) (st := []) (g' := gX11_servedOf) 43 rfl (okX11_servedOf _ _ _ h0) dX11_mix_40 zC11 h0 zw882 cbX11_servedOf rfl rfl (by decide) (Nat.le_of_ble_eq_true rfl) (fun r5 w6 => ?_)
    exact zS_reti dX11_mix_43 rfl

theorem okX11_mix (v0 : Nat) (v1 : Int32) (w : zWd) (h0 : zShp v0 = (11, 11)) : zOk gX11_mix zEi [.ref v0, .int v1] w (mX11_mix v0 v1 w) := zOk_of (by decide) rfl (Nat.le_of_ble_eq_true rfl) (sX11_mix v0 v1 h0 w)
abbrev gX11_partByRank : zMth := (yX11_partByRank, cX11_partByRank, 5, none, 1, zE0)
theorem cbX11_partByRank : zCbV yX11_partByRank cX11_partByRank 5 none 1 := ⟨zw915, zw30, zw77, zw916, by decide, by decide, by decide +kernel⟩
set_option maxHeartbeats 4000000 in
set_option maxRecDepth 100000 in
theorem sX11_partByRank_4b (v0 : Nat) (k4 : Int32 × Int32 × zWd → Option (Unit × zWd)) (v2 : Int32) (v3 : Int32) (hk4 : ∀ (v2 : Int32) (v3 : Int32) (w : zWd), zS gX11_partByRank zEv 4 [(0, .ref v0), (2, .int v2), (3, .int v3)] [] w (k4 (v2, v3, w))) (h0 : zShp v0 = (11, 11)) (w : zWd) : zS gX11_partByRank zEv 4 [(0, .ref v0), (2, .int v2), (3, .int v3)] [] w (mX11_partByRank_4b v0 k4 v2 v3 w) := by
  unfold mX11_partByRank_4b
  refine zS_iload_n 5 rfl 2 rfl dX11_partByRank_4 ?_
  refine zS_aload_n 6 rfl 0 rfl dX11_partByRank_5 ?_
  refine zS_getfp 9 rfl 6 dX11_partByRank_6 zC11 zw471 (by decide) rfl h0 ?_
  refine zS_getfi 12 rfl 0 dX11_partByRank_9 zC5 zw398 (by decide) rfl (zP11_line h0) ?_
  refine zS_icmp_ge 66 15 rfl dX11_partByRank_12 (by decide) ?_ ?_
  · exact zS_retv dX11_partByRank_66 rfl
  · refine zS_aload_n 16 rfl 0 rfl dX11_partByRank_15 ?_
    refine zS_getfp 19 rfl 6 dX11_partByRank_16 zC11 zw471 (by decide) rfl h0 ?_
    refine zS_getfp 22 rfl 2 dX11_partByRank_19 zC5 zw403 (by decide) rfl (zP11_line h0) ?_
    refine zS_iload_n 23 rfl 2 rfl dX11_partByRank_22 ?_
    refine zS_iald 24 rfl dX11_partByRank_23 (zP5_order (zP11_line h0)) ?_
    refine zS_bni (fun x1 => ?_)
    refine zS_istore 26 rfl dX11_partByRank_24 (by show 4 < 5; decide) (show _ = [(4, .int _), (0, .ref _), (2, .int _), (3, .int _)] from rfl) ?_
    refine zS_aload_n 27 rfl 1 rfl dX11_partByRank_26 ?_
    refine zS_getfp 30 rfl 9 dX11_partByRank_27 zC11 zw474 (by decide) rfl h0 ?_
    refine zS_iload 32 rfl 0 rfl dX11_partByRank_30 ?_
    refine zS_iload_n 33 rfl 2 rfl dX11_partByRank_32 ?_
    refine zS_aload_n 34 rfl 1 rfl dX11_partByRank_33 ?_
    refine zS_getfp 37 rfl 0 dX11_partByRank_34 zC11 zw465 (by decide) rfl h0 ?_
    refine zS_getfp 40 rfl 4 dX11_partByRank_37 zC10 zw353 (by decide) rfl (zP11_world h0) ?_
    refine zS_getfp 43 rfl 3 dX11_partByRank_40 zC8 zw248 (by decide) rfl (zP10_takers (zP11_world h0)) ?_
    refine zS_iload 45 rfl 0 rfl dX11_partByRank_43 ?_
    refine zS_iald 46 rfl dX11_partByRank_45 (zP8_gallons (zP10_takers (zP11_world h0))) ?_
    refine zS_mmin 49 rfl dX11_partByRank_46 zw917 zw584 zw90 zw585 (by decide) (Nat.le_of_ble_eq_true rfl) ?_
    refine zS_bni (fun x2 => ?_)
    refine zS_iast 50 rfl dX11_partByRank_49 (zP11_parts h0) ?_
    refine zS_bnw (fun w3 => ?_)
    refine zS_iload_n 51 rfl 2 rfl dX11_partByRank_50 ?_
    refine zS_aload_n 52 rfl 1 rfl dX11_partByRank_51 ?_
    refine zS_getfp 55 rfl 9 dX11_partByRank_52 zC11 zw474 (by decide) rfl h0 ?_
    refine zS_iload 57 rfl 0 rfl dX11_partByRank_55 ?_
    refine zS_iald 58 rfl dX11_partByRank_57 (zP11_parts h0) ?_
    refine zS_isub 59 rfl dX11_partByRank_58 ?_
    refine zS_bni (fun x4 => ?_)
    refine zS_istore_n 60 rfl dX11_partByRank_59 (by show 2 < 5; decide) (show _ = [(2, .int _), (4, .int _), (0, .ref _), (3, .int _)] from rfl) ?_
    refine zS_iinc 63 rfl 3 (_ + (1 : Int32)) dX11_partByRank_60 rfl (by show 3 < 5; decide) rfl (show _ = [(3, .int _), (2, .int _), (4, .int _), (0, .ref _)] from rfl) ?_
    refine zS_goto 4 dX11_partByRank_63 (by decide) ?_
    refine zS_sub [3, 1, 0] (show _ = [(0, .ref _), (2, .int _), (3, .int _)] from rfl) ?_
    exact hk4 _ _ _

theorem sX11_partByRank_4 (v0 : Nat) (v2 : Int32) (v3 : Int32) (h0 : zShp v0 = (11, 11)) (w : zWd) : zS gX11_partByRank zEv 4 [(0, .ref v0), (2, .int v2), (3, .int v3)] [] w (mX11_partByRank_4 v0 v2 v3 w) :=
  zS_loop (L := fun q : Int32 × Int32 × zWd => [(0, .ref v0), (2, .int q.1), (3, .int q.2.1)]) (V := fun q => q.2.2) (T := fun _ => []) (F := fun k q => mX11_partByRank_4b v0 k q.1 q.2.1 q.2.2) (fun k hk q => sX11_partByRank_4b v0 k q.1 q.2.1 (fun a2 a3 w => hk (a2, a3, w)) h0 q.2.2) zFU (v2, v3, w)
set_option maxHeartbeats 4000000 in
set_option maxRecDepth 100000 in
theorem sX11_partByRank (v0 : Nat) (v1 : Int32) (h0 : zShp v0 = (11, 11)) (w : zWd) : zS gX11_partByRank zEv 0 [(0, .ref v0), (1, .int v1)] [] w (mX11_partByRank v0 v1 w) := by
  unfold mX11_partByRank
  refine zS_iload_n 1 rfl 1 rfl dX11_partByRank_0 ?_
  refine zS_istore_n 2 rfl dX11_partByRank_1 (by show 2 < 5; decide) (show _ = [(2, .int _), (0, .ref _), (1, .int _)] from rfl) ?_
  refine zS_iconst 3 rfl (0 : Int32) (by decide) dX11_partByRank_2 ?_
  refine zS_istore_n 4 rfl dX11_partByRank_3 (by show 3 < 5; decide) (show _ = [(3, .int _), (2, .int _), (0, .ref _), (1, .int _)] from rfl) ?_
  refine zS_sub [2, 1, 0] (show _ = [(0, .ref _), (2, .int _), (3, .int _)] from rfl) ?_
  exact sX11_partByRank_4 _ _ _ h0 _

theorem okX11_partByRank (v0 : Nat) (v1 : Int32) (w : zWd) (h0 : zShp v0 = (11, 11)) : zOk gX11_partByRank zEv [.ref v0, .int v1] w (mX11_partByRank v0 v1 w) := zOk_of (by decide) rfl (Nat.le_of_ble_eq_true rfl) (sX11_partByRank v0 v1 h0 w)
abbrev gX11_partByGallons : zMth := (yX11_partByGallons, cX11_partByGallons, 5, none, 1, zE0)
theorem cbX11_partByGallons : zCbV yX11_partByGallons cX11_partByGallons 5 none 1 := ⟨zw920, zw31, zw77, zw921, by decide, by decide, by decide +kernel⟩
set_option maxHeartbeats 4000000 in
set_option maxRecDepth 100000 in
theorem sX11_partByGallons_143 (w : zWd) : zS gX11_partByGallons zEv 143 [] [] w (mX11_partByGallons_143 w) := by
  unfold mX11_partByGallons_143
  exact zS_retv dX11_partByGallons_143 rfl

set_option maxHeartbeats 4000000 in
set_option maxRecDepth 100000 in
theorem sX11_partByGallons_100b (v0 : Nat) (v3 : Int32) (k100 : Int32 × zWd → Option (Unit × zWd)) (v4 : Int32) (hk100 : ∀ (v4 : Int32) (w : zWd), zS gX11_partByGallons zEv 100 [(0, .ref v0), (3, .int v3), (4, .int v4)] [] w (k100 (v4, w))) (h0 : zShp v0 = (11, 11)) (w : zWd) : zS gX11_partByGallons zEv 100 [(0, .ref v0), (3, .int v3), (4, .int v4)] [] w (mX11_partByGallons_100b v0 v3 k100 v4 w) := by
  unfold mX11_partByGallons_100b
  refine zS_iload 102 rfl 2 rfl dX11_partByGallons_100 ?_
  refine zS_aload_n 103 rfl 0 rfl dX11_partByGallons_102 ?_
  refine zS_getfp 106 rfl 6 dX11_partByGallons_103 zC11 zw471 (by decide) rfl h0 ?_
  refine zS_getfi 109 rfl 0 dX11_partByGallons_106 zC5 zw398 (by decide) rfl (zP11_line h0) ?_
  refine zS_icmp_ge 143 112 rfl dX11_partByGallons_109 (by decide) ?_ ?_
  · refine zS_sub [] (show _ = [] from rfl) ?_
    exact sX11_partByGallons_143 _
  · refine zS_iload 114 rfl 2 rfl dX11_partByGallons_112 ?_
    refine zS_iload_n 115 rfl 1 rfl dX11_partByGallons_114 ?_
    refine zS_icmp_ge 143 118 rfl dX11_partByGallons_115 (by decide) ?_ ?_
    · refine zS_sub [] (show _ = [] from rfl) ?_
      exact sX11_partByGallons_143 _
    · refine zS_aload_n 119 rfl 0 rfl dX11_partByGallons_118 ?_
      refine zS_getfp 122 rfl 9 dX11_partByGallons_119 zC11 zw474 (by decide) rfl h0 ?_
      refine zS_aload_n 123 rfl 0 rfl dX11_partByGallons_122 ?_
      refine zS_getfp 126 rfl 6 dX11_partByGallons_123 zC11 zw471 (by decide) rfl h0 ?_
      refine zS_getfp 129 rfl 2 dX11_partByGallons_126 zC5 zw403 (by decide) rfl (zP11_line h0) ?_
      refine zS_iload 131 rfl 2 rfl dX11_partByGallons_129 ?_
      refine zS_iald 132 rfl dX11_partByGallons_131 (zP5_order (zP11_line h0)) ?_
      refine zS_dup2 133 rfl rfl rfl dX11_partByGallons_132 ?_
      refine zS_iald 134 rfl dX11_partByGallons_133 (zP11_parts h0) ?_
      refine zS_iconst 135 rfl (1 : Int32) (by decide) dX11_partByGallons_134 ?_
      refine zS_iadd 136 rfl dX11_partByGallons_135 ?_
      refine zS_iast 137 rfl dX11_partByGallons_136 (zP11_parts h0) ?_
      refine zS_bnw (fun w1 => ?_)
      refine zS_iinc 140 rfl 2 (_ + (1 : Int32)) dX11_partByGallons_137 rfl (by show 4 < 5; decide) rfl (show _ = [(4, .int _), (0, .ref _), (3, .int _)] from rfl) ?_
      refine zS_goto 100 dX11_partByGallons_140 (by decide) ?_
      refine zS_sub [1, 2, 0] (show _ = [(0, .ref _), (3, .int _), (4, .int _)] from rfl) ?_
      exact hk100 _ _

theorem sX11_partByGallons_100 (v0 : Nat) (v3 : Int32) (v4 : Int32) (h0 : zShp v0 = (11, 11)) (w : zWd) : zS gX11_partByGallons zEv 100 [(0, .ref v0), (3, .int v3), (4, .int v4)] [] w (mX11_partByGallons_100 v0 v3 v4 w) :=
  zS_loop (L := fun q : Int32 × zWd => [(0, .ref v0), (3, .int v3), (4, .int q.1)]) (V := fun q => q.2) (T := fun _ => []) (F := fun k q => mX11_partByGallons_100b v0 v3 k q.1 q.2) (fun k hk q => sX11_partByGallons_100b v0 v3 k q.1 (fun a4 w => hk (a4, w)) h0 q.2) zFU (v4, w)
set_option maxHeartbeats 4000000 in
set_option maxRecDepth 100000 in
theorem sX11_partByGallons_97 (v0 : Nat) (v3 : Int32) (h0 : zShp v0 = (11, 11)) (w : zWd) : zS gX11_partByGallons zEv 97 [(0, .ref v0), (3, .int v3)] [] w (mX11_partByGallons_97 v0 v3 w) := by
  unfold mX11_partByGallons_97
  refine zS_iconst 98 rfl (0 : Int32) (by decide) dX11_partByGallons_97 ?_
  refine zS_istore 100 rfl dX11_partByGallons_98 (by show 4 < 5; decide) (show _ = [(4, .int _), (0, .ref _), (3, .int _)] from rfl) ?_
  refine zS_sub [1, 2, 0] (show _ = [(0, .ref _), (3, .int _), (4, .int _)] from rfl) ?_
  exact sX11_partByGallons_100 _ _ _ h0 _

set_option maxHeartbeats 4000000 in
set_option maxRecDepth 100000 in
theorem sX11_partByGallons_41b (v0 : Nat) (v1 : Int32) (v2 : Int32) (k41 : Int32 × Int32 × zWd → Option (Unit × zWd)) (v3 : Int32) (v4 : Int32) (hk41 : ∀ (v3 : Int32) (v4 : Int32) (w : zWd), zS gX11_partByGallons zEv 41 [(0, .ref v0), (1, .int v1), (2, .int v2), (3, .int v3), (4, .int v4)] [] w (k41 (v3, v4, w))) (h0 : zShp v0 = (11, 11)) (w : zWd) : zS gX11_partByGallons zEv 41 [(0, .ref v0), (1, .int v1), (2, .int v2), (3, .int v3), (4, .int v4)] [] w (mX11_partByGallons_41b v0 v1 v2 k41 v3 v4 w) := by
  unfold mX11_partByGallons_41b
  refine zS_iload 43 rfl 4 rfl dX11_partByGallons_41 ?_
  refine zS_aload_n 44 rfl 0 rfl dX11_partByGallons_43 ?_
  refine zS_getfp 47 rfl 6 dX11_partByGallons_44 zC11 zw471 (by decide) rfl h0 ?_
  refine zS_getfi 50 rfl 0 dX11_partByGallons_47 zC5 zw398 (by decide) rfl (zP11_line h0) ?_
  refine zS_icmp_ge 97 53 rfl dX11_partByGallons_50 (by decide) ?_ ?_
  · refine zS_sub [0, 3] (show _ = [(0, .ref _), (3, .int _)] from rfl) ?_
    exact sX11_partByGallons_97 _ _ h0 _
  · refine zS_iload_n 54 rfl 2 rfl dX11_partByGallons_53 ?_
    refine zS_if_le 97 57 rfl dX11_partByGallons_54 (by decide) ?_ ?_
    · refine zS_sub [0, 3] (show _ = [(0, .ref _), (3, .int _)] from rfl) ?_
      exact sX11_partByGallons_97 _ _ h0 _
    · refine zS_aload_n 58 rfl 0 rfl dX11_partByGallons_57 ?_
      refine zS_getfp 61 rfl 9 dX11_partByGallons_58 zC11 zw474 (by decide) rfl h0 ?_
      refine zS_iload 63 rfl 4 rfl dX11_partByGallons_61 ?_
      refine zS_iload_n 64 rfl 1 rfl dX11_partByGallons_63 ?_
      refine zS_aload_n 65 rfl 0 rfl dX11_partByGallons_64 ?_
      refine zS_getfp 68 rfl 0 dX11_partByGallons_65 zC11 zw465 (by decide) rfl h0 ?_
      refine zS_getfp 71 rfl 4 dX11_partByGallons_68 zC10 zw353 (by decide) rfl (zP11_world h0) ?_
      refine zS_getfp 74 rfl 3 dX11_partByGallons_71 zC8 zw248 (by decide) rfl (zP10_takers (zP11_world h0)) ?_
      refine zS_iload 76 rfl 4 rfl dX11_partByGallons_74 ?_
      refine zS_iald 77 rfl dX11_partByGallons_76 (zP8_gallons (zP10_takers (zP11_world h0))) ?_
      refine zS_imul 78 rfl dX11_partByGallons_77 ?_
      refine zS_iload_n 79 rfl 2 rfl dX11_partByGallons_78 ?_
      refine zS_idiv 80 rfl dX11_partByGallons_79 ?_
      refine zS_iast 81 rfl dX11_partByGallons_80 (zP11_parts h0) ?_
      refine zS_bnw (fun w2 => ?_)
      refine zS_iload_n 82 rfl 3 rfl dX11_partByGallons_81 ?_
      refine zS_aload_n 83 rfl 0 rfl dX11_partByGallons_82 ?_
      refine zS_getfp 86 rfl 9 dX11_partByGallons_83 zC11 zw474 (by decide) rfl h0 ?_
      refine zS_iload 88 rfl 4 rfl dX11_partByGallons_86 ?_
      refine zS_iald 89 rfl dX11_partByGallons_88 (zP11_parts h0) ?_
      refine zS_isub 90 rfl dX11_partByGallons_89 ?_
      refine zS_bni (fun x3 => ?_)
      refine zS_istore_n 91 rfl dX11_partByGallons_90 (by show 3 < 5; decide) (show _ = [(3, .int _), (0, .ref _), (1, .int _), (2, .int _), (4, .int _)] from rfl) ?_
      refine zS_iinc 94 rfl 4 (_ + (1 : Int32)) dX11_partByGallons_91 rfl (by show 4 < 5; decide) rfl (show _ = [(4, .int _), (3, .int _), (0, .ref _), (1, .int _), (2, .int _)] from rfl) ?_
      refine zS_goto 41 dX11_partByGallons_94 (by decide) ?_
      refine zS_sub [2, 3, 4, 1, 0] (show _ = [(0, .ref _), (1, .int _), (2, .int _), (3, .int _), (4, .int _)] from rfl) ?_
      exact hk41 _ _ _

theorem sX11_partByGallons_41 (v0 : Nat) (v1 : Int32) (v2 : Int32) (v3 : Int32) (v4 : Int32) (h0 : zShp v0 = (11, 11)) (w : zWd) : zS gX11_partByGallons zEv 41 [(0, .ref v0), (1, .int v1), (2, .int v2), (3, .int v3), (4, .int v4)] [] w (mX11_partByGallons_41 v0 v1 v2 v3 v4 w) :=
  zS_loop (L := fun q : Int32 × Int32 × zWd => [(0, .ref v0), (1, .int v1), (2, .int v2), (3, .int q.1), (4, .int q.2.1)]) (V := fun q => q.2.2) (T := fun _ => []) (F := fun k q => mX11_partByGallons_41b v0 v1 v2 k q.1 q.2.1 q.2.2) (fun k hk q => sX11_partByGallons_41b v0 v1 v2 k q.1 q.2.1 (fun a3 a4 w => hk (a3, a4, w)) h0 q.2.2) zFU (v3, v4, w)
set_option maxHeartbeats 4000000 in
set_option maxRecDepth 100000 in
theorem sX11_partByGallons_4b (v0 : Nat) (v1 : Int32) (k4 : Int32 × Int32 × zWd → Option (Unit × zWd)) (v2 : Int32) (v3 : Int32) (hk4 : ∀ (v2 : Int32) (v3 : Int32) (w : zWd), zS gX11_partByGallons zEv 4 [(0, .ref v0), (1, .int v1), (2, .int v2), (3, .int v3)] [] w (k4 (v2, v3, w))) (h0 : zShp v0 = (11, 11)) (w : zWd) : zS gX11_partByGallons zEv 4 [(0, .ref v0), (1, .int v1), (2, .int v2), (3, .int v3)] [] w (mX11_partByGallons_4b v0 v1 k4 v2 v3 w) := by
  unfold mX11_partByGallons_4b
  refine zS_iload_n 5 rfl 3 rfl dX11_partByGallons_4 ?_
  refine zS_aload_n 6 rfl 0 rfl dX11_partByGallons_5 ?_
  refine zS_getfp 9 rfl 6 dX11_partByGallons_6 zC11 zw471 (by decide) rfl h0 ?_
  refine zS_getfi 12 rfl 0 dX11_partByGallons_9 zC5 zw398 (by decide) rfl (zP11_line h0) ?_
  refine zS_icmp_ge 36 15 rfl dX11_partByGallons_12 (by decide) ?_ ?_
  · refine zS_iload_n 37 rfl 1 rfl dX11_partByGallons_36 ?_
    refine zS_istore_n 38 rfl dX11_partByGallons_37 (by show 3 < 5; decide) (show _ = [(3, .int _), (0, .ref _), (1, .int _), (2, .int _)] from rfl) ?_
    refine zS_iconst 39 rfl (0 : Int32) (by decide) dX11_partByGallons_38 ?_
    refine zS_istore 41 rfl dX11_partByGallons_39 (by show 4 < 5; decide) (show _ = [(4, .int _), (3, .int _), (0, .ref _), (1, .int _), (2, .int _)] from rfl) ?_
    refine zS_sub [2, 3, 4, 1, 0] (show _ = [(0, .ref _), (1, .int _), (2, .int _), (3, .int _), (4, .int _)] from rfl) ?_
    exact sX11_partByGallons_41 _ _ _ _ _ h0 _
  · refine zS_iload_n 16 rfl 2 rfl dX11_partByGallons_15 ?_
    refine zS_aload_n 17 rfl 0 rfl dX11_partByGallons_16 ?_
    refine zS_getfp 20 rfl 0 dX11_partByGallons_17 zC11 zw465 (by decide) rfl h0 ?_
    refine zS_getfp 23 rfl 4 dX11_partByGallons_20 zC10 zw353 (by decide) rfl (zP11_world h0) ?_
    refine zS_getfp 26 rfl 3 dX11_partByGallons_23 zC8 zw248 (by decide) rfl (zP10_takers (zP11_world h0)) ?_
    refine zS_iload_n 27 rfl 3 rfl dX11_partByGallons_26 ?_
    refine zS_iald 28 rfl dX11_partByGallons_27 (zP8_gallons (zP10_takers (zP11_world h0))) ?_
    refine zS_iadd 29 rfl dX11_partByGallons_28 ?_
    refine zS_bni (fun x4 => ?_)
    refine zS_istore_n 30 rfl dX11_partByGallons_29 (by show 2 < 5; decide) (show _ = [(2, .int _), (0, .ref _), (1, .int _), (3, .int _)] from rfl) ?_
    refine zS_iinc 33 rfl 3 (_ + (1 : Int32)) dX11_partByGallons_30 rfl (by show 3 < 5; decide) rfl (show _ = [(3, .int _), (2, .int _), (0, .ref _), (1, .int _)] from rfl) ?_
    refine zS_goto 4 dX11_partByGallons_33 (by decide) ?_
    refine zS_sub [2, 3, 1, 0] (show _ = [(0, .ref _), (1, .int _), (2, .int _), (3, .int _)] from rfl) ?_
    exact hk4 _ _ _

theorem sX11_partByGallons_4 (v0 : Nat) (v1 : Int32) (v2 : Int32) (v3 : Int32) (h0 : zShp v0 = (11, 11)) (w : zWd) : zS gX11_partByGallons zEv 4 [(0, .ref v0), (1, .int v1), (2, .int v2), (3, .int v3)] [] w (mX11_partByGallons_4 v0 v1 v2 v3 w) :=
  zS_loop (L := fun q : Int32 × Int32 × zWd => [(0, .ref v0), (1, .int v1), (2, .int q.1), (3, .int q.2.1)]) (V := fun q => q.2.2) (T := fun _ => []) (F := fun k q => mX11_partByGallons_4b v0 v1 k q.1 q.2.1 q.2.2) (fun k hk q => sX11_partByGallons_4b v0 v1 k q.1 q.2.1 (fun a2 a3 w => hk (a2, a3, w)) h0 q.2.2) zFU (v2, v3, w)
set_option maxHeartbeats 4000000 in
set_option maxRecDepth 100000 in
theorem sX11_partByGallons (v0 : Nat) (v1 : Int32) (h0 : zShp v0 = (11, 11)) (w : zWd) : zS gX11_partByGallons zEv 0 [(0, .ref v0), (1, .int v1)] [] w (mX11_partByGallons v0 v1 w) := by
  unfold mX11_partByGallons
  refine zS_iconst 1 rfl (0 : Int32) (by decide) dX11_partByGallons_0 ?_
  refine zS_istore_n 2 rfl dX11_partByGallons_1 (by show 2 < 5; decide) (show _ = [(2, .int _), (0, .ref _), (1, .int _)] from rfl) ?_
  refine zS_iconst 3 rfl (0 : Int32) (by decide) dX11_partByGallons_2 ?_
  refine zS_istore_n 4 rfl dX11_partByGallons_3 (by show 3 < 5; decide) (show _ = [(3, .int _), (2, .int _), (0, .ref _), (1, .int _)] from rfl) ?_
  refine zS_sub [2, 3, 1, 0] (show _ = [(0, .ref _), (1, .int _), (2, .int _), (3, .int _)] from rfl) ?_
  exact sX11_partByGallons_4 _ _ _ _ h0 _

theorem okX11_partByGallons (v0 : Nat) (v1 : Int32) (w : zWd) (h0 : zShp v0 = (11, 11)) : zOk gX11_partByGallons zEv [.ref v0, .int v1] w (mX11_partByGallons v0 v1 w) := zOk_of (by decide) rfl (Nat.le_of_ble_eq_true rfl) (sX11_partByGallons v0 v1 h0 w)
abbrev gX11_partAlike : zMth := (yX11_partAlike, cX11_partAlike, 6, none, 1, zE0)
theorem cbX11_partAlike : zCbV yX11_partAlike cX11_partAlike 6 none 1 := ⟨zw924, zw32, zw77, zw925, by decide, by decide, by decide +kernel⟩
set_option maxHeartbeats 4000000 in
set_option maxRecDepth 100000 in
theorem sX11_partAlike_103 (k30 : Int32 × Int32 × zWd → Option (Unit × zWd)) (v0 : Nat) (v2 : Int32) (v3 : Int32) (hk30 : ∀ (v2 : Int32) (v3 : Int32) (w : zWd), zS gX11_partAlike zEv 30 [(0, .ref v0), (2, .int v2), (3, .int v3)] [] w (k30 (v2, v3, w))) (h0 : zShp v0 = (11, 11)) (w : zWd) : zS gX11_partAlike zEv 103 [(0, .ref v0), (2, .int v2), (3, .int v3)] [] w (mX11_partAlike_103 k30 v0 v2 v3 w) := by
  unfold mX11_partAlike_103
  refine zS_iinc 106 rfl 2 (_ + (1 : Int32)) dX11_partAlike_103 rfl (by show 3 < 6; decide) rfl (show _ = [(3, .int _), (0, .ref _), (2, .int _)] from rfl) ?_
  refine zS_goto 30 dX11_partAlike_106 (by decide) ?_
  refine zS_sub [1, 2, 0] (show _ = [(0, .ref _), (2, .int _), (3, .int _)] from rfl) ?_
  exact hk30 _ _ _

set_option maxHeartbeats 4000000 in
set_option maxRecDepth 100000 in
theorem sX11_partAlike_97 (k30 : Int32 × Int32 × zWd → Option (Unit × zWd)) (k38 : Int32 × Int32 × zWd → Option (Unit × zWd)) (v0 : Nat) (v2 : Int32) (v3 : Int32) (v4 : Int32) (hk30 : ∀ (v2 : Int32) (v3 : Int32) (w : zWd), zS gX11_partAlike zEv 30 [(0, .ref v0), (2, .int v2), (3, .int v3)] [] w (k30 (v2, v3, w))) (hk38 : ∀ (v2 : Int32) (v4 : Int32) (w : zWd), zS gX11_partAlike zEv 38 [(0, .ref v0), (2, .int v2), (3, .int v3), (4, .int v4)] [] w (k38 (v2, v4, w))) (h0 : zShp v0 = (11, 11)) (w : zWd) : zS gX11_partAlike zEv 97 [(0, .ref v0), (2, .int v2), (3, .int v3), (4, .int v4)] [] w (mX11_partAlike_97 k30 k38 v0 v2 v3 v4 w) := by
  unfold mX11_partAlike_97
  refine zS_iinc 100 rfl 3 (_ + (1 : Int32)) dX11_partAlike_97 rfl (by show 4 < 6; decide) rfl (show _ = [(4, .int _), (0, .ref _), (2, .int _), (3, .int _)] from rfl) ?_
  refine zS_goto 38 dX11_partAlike_100 (by decide) ?_
  refine zS_sub [1, 2, 3, 0] (show _ = [(0, .ref _), (2, .int _), (3, .int _), (4, .int _)] from rfl) ?_
  exact hk38 _ _ _

set_option maxHeartbeats 4000000 in
set_option maxRecDepth 100000 in
theorem sX11_partAlike_38b (k30 : Int32 × Int32 × zWd → Option (Unit × zWd)) (v0 : Nat) (v3 : Int32) (k38 : Int32 × Int32 × zWd → Option (Unit × zWd)) (v2 : Int32) (v4 : Int32) (hk30 : ∀ (v2 : Int32) (v3 : Int32) (w : zWd), zS gX11_partAlike zEv 30 [(0, .ref v0), (2, .int v2), (3, .int v3)] [] w (k30 (v2, v3, w))) (hk38 : ∀ (v2 : Int32) (v4 : Int32) (w : zWd), zS gX11_partAlike zEv 38 [(0, .ref v0), (2, .int v2), (3, .int v3), (4, .int v4)] [] w (k38 (v2, v4, w))) (h0 : zShp v0 = (11, 11)) (w : zWd) : zS gX11_partAlike zEv 38 [(0, .ref v0), (2, .int v2), (3, .int v3), (4, .int v4)] [] w (mX11_partAlike_38b k30 v0 v3 k38 v2 v4 w) := by
  unfold mX11_partAlike_38b
  refine zS_iload 40 rfl 3 rfl dX11_partAlike_38 ?_
  refine zS_aload_n 41 rfl 0 rfl dX11_partAlike_40 ?_
  refine zS_getfp 44 rfl 6 dX11_partAlike_41 zC11 zw471 (by decide) rfl h0 ?_
  refine zS_getfi 47 rfl 0 dX11_partAlike_44 zC5 zw398 (by decide) rfl (zP11_line h0) ?_
  refine zS_icmp_ge 103 50 rfl dX11_partAlike_47 (by decide) ?_ ?_
  · refine zS_sub [0, 1, 2] (show _ = [(0, .ref _), (2, .int _), (3, .int _)] from rfl) ?_
    exact sX11_partAlike_103 k30 _ _ _ hk30 h0 _
  · refine zS_iload_n 51 rfl 1 rfl dX11_partAlike_50 ?_
    refine zS_if_le 103 54 rfl dX11_partAlike_51 (by decide) ?_ ?_
    · refine zS_sub [0, 1, 2] (show _ = [(0, .ref _), (2, .int _), (3, .int _)] from rfl) ?_
      exact sX11_partAlike_103 k30 _ _ _ hk30 h0 _
    · refine zS_aload_n 55 rfl 0 rfl dX11_partAlike_54 ?_
      refine zS_getfp 58 rfl 6 dX11_partAlike_55 zC11 zw471 (by decide) rfl h0 ?_
      refine zS_getfp 61 rfl 2 dX11_partAlike_58 zC5 zw403 (by decide) rfl (zP11_line h0) ?_
      refine zS_iload 63 rfl 3 rfl dX11_partAlike_61 ?_
      refine zS_iald 64 rfl dX11_partAlike_63 (zP5_order (zP11_line h0)) ?_
      refine zS_bni (fun x1 => ?_)
      refine zS_istore 66 rfl dX11_partAlike_64 (by show 5 < 6; decide) (show _ = [(5, .int _), (0, .ref _), (2, .int _), (3, .int _), (4, .int _)] from rfl) ?_
      refine zS_aload_n 67 rfl 1 rfl dX11_partAlike_66 ?_
      refine zS_getfp 70 rfl 0 dX11_partAlike_67 zC11 zw465 (by decide) rfl h0 ?_
      refine zS_getfp 73 rfl 4 dX11_partAlike_70 zC10 zw353 (by decide) rfl (zP11_world h0) ?_
      refine zS_getfp 76 rfl 3 dX11_partAlike_73 zC8 zw248 (by decide) rfl (zP10_takers (zP11_world h0)) ?_
      refine zS_iload 78 rfl 0 rfl dX11_partAlike_76 ?_
      refine zS_iald 79 rfl dX11_partAlike_78 (zP8_gallons (zP10_takers (zP11_world h0))) ?_
      refine zS_iload_n 80 rfl 3 rfl dX11_partAlike_79 ?_
      refine zS_icmp_lt 97 83 rfl dX11_partAlike_80 (by decide) ?_ ?_
      · refine zS_sub [1, 2, 3, 4] (show _ = [(0, .ref _), (2, .int _), (3, .int _), (4, .int _)] from rfl) ?_
        exact sX11_partAlike_97 k30 k38 _ _ _ _ hk30 hk38 h0 _
      · refine zS_aload_n 84 rfl 1 rfl dX11_partAlike_83 ?_
        refine zS_getfp 87 rfl 9 dX11_partAlike_84 zC11 zw474 (by decide) rfl h0 ?_
        refine zS_iload 89 rfl 0 rfl dX11_partAlike_87 ?_
        refine zS_dup2 90 rfl rfl rfl dX11_partAlike_89 ?_
        refine zS_iald 91 rfl dX11_partAlike_90 (zP11_parts h0) ?_
        refine zS_iconst 92 rfl (1 : Int32) (by decide) dX11_partAlike_91 ?_
        refine zS_iadd 93 rfl dX11_partAlike_92 ?_
        refine zS_iast 94 rfl dX11_partAlike_93 (zP11_parts h0) ?_
        refine zS_bnw (fun w2 => ?_)
        refine zS_iinc 97 rfl 2 (_ + (-1 : Int32)) dX11_partAlike_94 rfl (by show 2 < 6; decide) rfl (show _ = [(2, .int _), (5, .int _), (0, .ref _), (3, .int _), (4, .int _)] from rfl) ?_
        refine zS_sub [2, 0, 3, 4] (show _ = [(0, .ref _), (2, .int _), (3, .int _), (4, .int _)] from rfl) ?_
        exact sX11_partAlike_97 k30 k38 _ _ _ _ hk30 hk38 h0 _

theorem sX11_partAlike_38 (k30 : Int32 × Int32 × zWd → Option (Unit × zWd)) (v0 : Nat) (v3 : Int32) (v2 : Int32) (v4 : Int32) (hk30 : ∀ (v2 : Int32) (v3 : Int32) (w : zWd), zS gX11_partAlike zEv 30 [(0, .ref v0), (2, .int v2), (3, .int v3)] [] w (k30 (v2, v3, w))) (h0 : zShp v0 = (11, 11)) (w : zWd) : zS gX11_partAlike zEv 38 [(0, .ref v0), (2, .int v2), (3, .int v3), (4, .int v4)] [] w (mX11_partAlike_38 k30 v0 v3 v2 v4 w) :=
  zS_loop (L := fun q : Int32 × Int32 × zWd => [(0, .ref v0), (2, .int q.1), (3, .int v3), (4, .int q.2.1)]) (V := fun q => q.2.2) (T := fun _ => []) (F := fun k q => mX11_partAlike_38b k30 v0 v3 k q.1 q.2.1 q.2.2) (fun k hk q => sX11_partAlike_38b k30 v0 v3 k q.1 q.2.1 hk30 (fun a2 a4 w => hk (a2, a4, w)) h0 q.2.2) zFU (v2, v4, w)
set_option maxHeartbeats 4000000 in
set_option maxRecDepth 100000 in
theorem sX11_partAlike_30b (v0 : Nat) (k30 : Int32 × Int32 × zWd → Option (Unit × zWd)) (v2 : Int32) (v3 : Int32) (hk30 : ∀ (v2 : Int32) (v3 : Int32) (w : zWd), zS gX11_partAlike zEv 30 [(0, .ref v0), (2, .int v2), (3, .int v3)] [] w (k30 (v2, v3, w))) (h0 : zShp v0 = (11, 11)) (w : zWd) : zS gX11_partAlike zEv 30 [(0, .ref v0), (2, .int v2), (3, .int v3)] [] w (mX11_partAlike_30b v0 k30 v2 v3 w) := by
  unfold mX11_partAlike_30b
  refine zS_iload_n 31 rfl 2 rfl dX11_partAlike_30 ?_
  refine zS_iconst 32 rfl (4 : Int32) (by decide) dX11_partAlike_31 ?_
  refine zS_icmp_gt 109 35 rfl dX11_partAlike_32 (by decide) ?_ ?_
  · exact zS_retv dX11_partAlike_109 rfl
  · refine zS_iconst 36 rfl (0 : Int32) (by decide) dX11_partAlike_35 ?_
    refine zS_istore 38 rfl dX11_partAlike_36 (by show 4 < 6; decide) (show _ = [(4, .int _), (0, .ref _), (2, .int _), (3, .int _)] from rfl) ?_
    refine zS_sub [1, 2, 3, 0] (show _ = [(0, .ref _), (2, .int _), (3, .int _), (4, .int _)] from rfl) ?_
    exact sX11_partAlike_38 k30 _ _ _ _ hk30 h0 _

theorem sX11_partAlike_30 (v0 : Nat) (v2 : Int32) (v3 : Int32) (h0 : zShp v0 = (11, 11)) (w : zWd) : zS gX11_partAlike zEv 30 [(0, .ref v0), (2, .int v2), (3, .int v3)] [] w (mX11_partAlike_30 v0 v2 v3 w) :=
  zS_loop (L := fun q : Int32 × Int32 × zWd => [(0, .ref v0), (2, .int q.1), (3, .int q.2.1)]) (V := fun q => q.2.2) (T := fun _ => []) (F := fun k q => mX11_partAlike_30b v0 k q.1 q.2.1 q.2.2) (fun k hk q => sX11_partAlike_30b v0 k q.1 q.2.1 (fun a2 a3 w => hk (a2, a3, w)) h0 q.2.2) zFU (v2, v3, w)
set_option maxHeartbeats 4000000 in
set_option maxRecDepth 100000 in
theorem sX11_partAlike_2b (v0 : Nat) (v1 : Int32) (k2 : Int32 × zWd → Option (Unit × zWd)) (v2 : Int32) (hk2 : ∀ (v2 : Int32) (w : zWd), zS gX11_partAlike zEv 2 [(0, .ref v0), (1, .int v1), (2, .int v2)] [] w (k2 (v2, w))) (h0 : zShp v0 = (11, 11)) (w : zWd) : zS gX11_partAlike zEv 2 [(0, .ref v0), (1, .int v1), (2, .int v2)] [] w (mX11_partAlike_2b v0 v1 k2 v2 w) := by
  unfold mX11_partAlike_2b
  refine zS_iload_n 3 rfl 2 rfl dX11_partAlike_2 ?_
  refine zS_aload_n 4 rfl 0 rfl dX11_partAlike_3 ?_
  refine zS_getfp 7 rfl 6 dX11_partAlike_4 zC11 zw471 (by decide) rfl h0 ?_
  refine zS_getfi 10 rfl 0 dX11_partAlike_7 zC5 zw398 (by decide) rfl (zP11_line h0) ?_
  refine zS_icmp_ge 26 13 rfl dX11_partAlike_10 (by decide) ?_ ?_
  · refine zS_iload_n 27 rfl 1 rfl dX11_partAlike_26 ?_
    refine zS_istore_n 28 rfl dX11_partAlike_27 (by show 2 < 6; decide) (show _ = [(2, .int _), (0, .ref _), (1, .int _)] from rfl) ?_
    refine zS_iconst 29 rfl (1 : Int32) (by decide) dX11_partAlike_28 ?_
    refine zS_istore_n 30 rfl dX11_partAlike_29 (by show 3 < 6; decide) (show _ = [(3, .int _), (2, .int _), (0, .ref _), (1, .int _)] from rfl) ?_
    refine zS_sub [2, 1, 0] (show _ = [(0, .ref _), (2, .int _), (3, .int _)] from rfl) ?_
    exact sX11_partAlike_30 _ _ _ h0 _
  · refine zS_aload_n 14 rfl 0 rfl dX11_partAlike_13 ?_
    refine zS_getfp 17 rfl 9 dX11_partAlike_14 zC11 zw474 (by decide) rfl h0 ?_
    refine zS_iload_n 18 rfl 2 rfl dX11_partAlike_17 ?_
    refine zS_iconst 19 rfl (0 : Int32) (by decide) dX11_partAlike_18 ?_
    refine zS_iast 20 rfl dX11_partAlike_19 (zP11_parts h0) ?_
    refine zS_bnw (fun w3 => ?_)
    refine zS_iinc 23 rfl 2 (_ + (1 : Int32)) dX11_partAlike_20 rfl (by show 2 < 6; decide) rfl (show _ = [(2, .int _), (0, .ref _), (1, .int _)] from rfl) ?_
    refine zS_goto 2 dX11_partAlike_23 (by decide) ?_
    refine zS_sub [1, 2, 0] (show _ = [(0, .ref _), (1, .int _), (2, .int _)] from rfl) ?_
    exact hk2 _ _

theorem sX11_partAlike_2 (v0 : Nat) (v1 : Int32) (v2 : Int32) (h0 : zShp v0 = (11, 11)) (w : zWd) : zS gX11_partAlike zEv 2 [(0, .ref v0), (1, .int v1), (2, .int v2)] [] w (mX11_partAlike_2 v0 v1 v2 w) :=
  zS_loop (L := fun q : Int32 × zWd => [(0, .ref v0), (1, .int v1), (2, .int q.1)]) (V := fun q => q.2) (T := fun _ => []) (F := fun k q => mX11_partAlike_2b v0 v1 k q.1 q.2) (fun k hk q => sX11_partAlike_2b v0 v1 k q.1 (fun a2 w => hk (a2, w)) h0 q.2) zFU (v2, w)
set_option maxHeartbeats 4000000 in
set_option maxRecDepth 100000 in
theorem sX11_partAlike (v0 : Nat) (v1 : Int32) (h0 : zShp v0 = (11, 11)) (w : zWd) : zS gX11_partAlike zEv 0 [(0, .ref v0), (1, .int v1)] [] w (mX11_partAlike v0 v1 w) := by
  unfold mX11_partAlike
  refine zS_iconst 1 rfl (0 : Int32) (by decide) dX11_partAlike_0 ?_
  refine zS_istore_n 2 rfl dX11_partAlike_1 (by show 2 < 6; decide) (show _ = [(2, .int _), (0, .ref _), (1, .int _)] from rfl) ?_
  refine zS_sub [1, 2, 0] (show _ = [(0, .ref _), (1, .int _), (2, .int _)] from rfl) ?_
  exact sX11_partAlike_2 _ _ _ h0 _

theorem okX11_partAlike (v0 : Nat) (v1 : Int32) (w : zWd) (h0 : zShp v0 = (11, 11)) : zOk gX11_partAlike zEv [.ref v0, .int v1] w (mX11_partAlike v0 v1 w) := zOk_of (by decide) rfl (Nat.le_of_ble_eq_true rfl) (sX11_partAlike v0 v1 h0 w)
