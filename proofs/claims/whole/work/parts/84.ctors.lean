theorem zw186 : (Jvm.Cond.methodLink "HotSprings$OrderBook" (3 : Nat) ({ cls := "java/lang/Object", name := "<init>", desc := "()V" } : Jvm.MethodName)) ∈ lw_gd := zIn 186 (by decide +kernel) (by decide +kernel)
theorem zw187 : (Jvm.Cond.classLink "HotSprings$OrderBook" (9 : Nat) "HotSprings$Order") ∈ lw_gd := zIn 187 (by decide +kernel) (by decide +kernel)
theorem zw189 : (Jvm.Cond.instantiable "HotSprings$Order" (8 : Nat)) ∈ lw_gd := zIn 189 (by decide +kernel) (by decide +kernel)
theorem zw191 : (Jvm.Cond.instanceMethod ({ cls := "HotSprings$Order", name := "<init>", desc := "()V" } : Jvm.MethodName)) ∈ lw_gd := zIn 191 (by decide +kernel) (by decide +kernel)
theorem zw192 : (Jvm.Cond.code ({ cls := "HotSprings$Order", name := "<init>", desc := "()V" } : Jvm.MethodName) prog_4_method_1_code (1 : Nat) (Option.none : Option Jvm.ClassFile.FieldType)) ∈ lw_gd := zIn 192 (by decide +kernel) (by decide +kernel)
theorem zw1112 : (Jvm.Cond.methodLink "HotSpringsModel" (1 : Nat) ({ cls := "java/lang/Object", name := "<init>", desc := "()V" } : Jvm.MethodName)) ∈ lw_gd := zIn 1112 (by decide +kernel) (by decide +kernel)
theorem zw1188 : (Jvm.Cond.arrayClass Jvm.ClassFile.FieldType.boolean) ∈ lw_gd := zIn 1188 (by decide +kernel) (by decide +kernel)
theorem kArr {cO : ClassId} {n : Nat} {f f' : Nat → Option Nat} (h : ∀ j, j < n → f j = f' j) : vp_cell cO (n, .inr (.inr (.inr (.inr f)))) = vp_cell cO (n, .inr (.inr (.inr (.inr f')))) := by
  rw [vp_cell_q, vp_cell_q]
  unfold arrV
  congr 1
  apply Array.ext
  · simp
  · intro i h1 h2
    have hi : i < n := by simpa using h1
    simp [h i hi]
def kBk (E : kE) (k i : Nat) : kE := fun cI cZ cO ad j => if j = k then .inr (3, [.int 0, .ref (ad (k + 1))]) else if j = k + 1 then .inl (cO, 11, .inr (.inr (.inr (.inr (fun a => if a < i ∨ 11 ≤ a then some (ad (k + 1 + 1 + 6 * a)) else none))))) else if k < j ∧ j < k + 2 + 6 * i then zEnt cI cZ cO ad zW0 j else E cI cZ cO ad j
set_option maxHeartbeats 4000000 in
set_option maxRecDepth 100000 in
theorem mk3_loop {k : Nat} (hs : zShp k = (3, 2)) (E : kE) : ∀ (d i : Nat), i + d = 11 → zR gK3 (k + 2 + 6 * i, kBk E k i, 1 + 6 * i, 11 + 160 * i, 15, [(1, .int (nI i)), (0, .ref k)], []) (k + 68, kFin E k (k + 68), 67, 1771, 43, [(1, .int (nI 11)), (0, .ref k)], []) := by
  have hlt := zShp_lt hs (by decide)
  have hso := zP3_orders hs
  have hlo := zShp_lt (zP_ord hso (i := 10) (by decide)) (by decide)
  have hself : ∀ i cI cZ cO ad, kBk E k i cI cZ cO ad k = .inr (3, ([.int 0, .ref (k + 1)] : List Value).map (zv ad)) := fun i cI cZ cO ad => by simp [kBk, zv]
  have harr : ∀ i cI cZ cO ad, kBk E k i cI cZ cO ad (k + 1) = .inl (cO, 11, .inr (.inr (.inr (.inr (fun a => if a < i ∨ 11 ≤ a then some (ad (k + 1 + 1 + 6 * a)) else none))))) := fun i cI cZ cO ad => by
    unfold kBk
    rw [if_neg (by omega), if_pos rfl]
  intro d
  induction d with
  | zero =>
    intro i hi
    have hi : i = 11 := by omega
    subst hi
    refine zR_iload_n 16 rfl 0 rfl dX3_init_15 ?_
    refine zR_aload_n 17 rfl 1 rfl dX3_init_16 ?_
    refine zR_getp 20 rfl (fs := [.int 0, .ref (k + 1)]) 1 zC3 zw224 (by decide) (by omega) (hself 11) rfl dX3_init_17 ?_
    refine zR_alenq 21 rfl (N := 11) 11 (by decide) (by omega) (fun cI cZ cO ad => ⟨_, harr 11 cI cZ cO ad⟩) dX3_init_20 ?_
    refine zR_ge_t 43 dX3_init_21 (by decide) (by decide) ?_
    have e : kBk E k 11 = kFin E k (k + 68) := by
      funext cI cZ cO ad j
      unfold kBk kFin
      by_cases h1 : j = k
      · subst h1
        rw [if_pos rfl, if_pos ⟨Nat.le_refl _, by omega⟩, zEnt_obj _ _ _ _ _ hs (by decide), zW0_z hs (by decide) (by decide)]
        rfl
      · rw [if_neg h1]
        by_cases h2 : j = k + 1
        · subst h2
          rw [if_pos rfl, if_pos ⟨by omega, by omega⟩, zEnt_ord _ _ _ _ _ hso]
          congr 7
          funext a
          rw [if_pos (by omega)]
        · rw [if_neg h2]
          by_cases h3 : k < j ∧ j < k + 2 + 6 * 11
          · rw [if_pos h3, if_pos ⟨by omega, by omega⟩]
          · rw [if_neg h3, if_neg (by omega)]
    rw [e]
    exact zR_rf
  | succ d ih =>
    intro i hi
    have hi9 : i < 11 := by omega
    have hsi := zP_ord hso hi9
    have hni := zShp_lt hsi (by decide)
    refine zR_iload_n 16 rfl 0 rfl dX3_init_15 ?_
    refine zR_aload_n 17 rfl 1 rfl dX3_init_16 ?_
    refine zR_getp 20 rfl (fs := [.int 0, .ref (k + 1)]) 1 zC3 zw224 (by decide) (by omega) (hself i) rfl dX3_init_17 ?_
    refine zR_alenq 21 rfl (N := 11) 11 (by decide) (by omega) (fun cI cZ cO ad => ⟨_, harr i cI cZ cO ad⟩) dX3_init_20 ?_
    refine zR_ge_f 24 rfl 43 dX3_init_21 (by decide) (nI_ge hi9 (by decide)) ?_
    refine zR_aload_n 25 rfl 1 rfl dX3_init_24 ?_
    refine zR_getp 28 rfl (fs := [.int 0, .ref (k + 1)]) 1 zC3 zw224 (by decide) (by omega) (hself i) rfl dX3_init_25 ?_
    refine zR_iload_n 29 rfl 0 rfl dX3_init_28 ?_
    have hne : kFin (kBk E k i) (k + 2 + 6 * i) (k + 2 + 6 * i + 6) = kFin (kBk E k i) (k + 2 + 6 * i) (k + 2 + 6 * i + 6) := rfl
    have e1 : k + 1 + 1 + 6 * i = k + 2 + 6 * i := by omega
    rw [e1] at hsi hni
    refine zR_newobj 36 rfl (n := k + 2 + 6 * i) (fs := [.int 0, .int 0, .null, .null, .null, .null, .int 0, .null]) (E1 := kup (kBk E k i) (k + 2 + 6 * i) (fun _ _ _ _ => .inr (2, [.int 0, .int 0, .null, .null, .null, .null, .int 0, .null]))) (E2 := kFin (kBk E k i) (k + 2 + 6 * i) (k + 2 + 6 * i + 6)) (n2 := k + 2 + 6 * i + 6) (g' := gK2) zC2 rfl rfl (by decide) hni (fun cI cZ cO ad j hj => by unfold kup; rw [if_neg (by omega)]) (fun cI cZ cO ad => by simp [kup]) (mk2 hsi _) dX3_init_29 dX3_init_32 dX3_init_33 zw187 zw189 zw82 (Or.inr (by decide +kernel)) zw191 zw192 kHd2 (by decide) (by show 1 + 6 * i + 1 + 5 ≤ 67; omega) (by show 11 + 160 * i + 8 + 152 ≤ 1771; omega) (Nat.le_of_ble_eq_true rfl) ?_
    refine zR_aast 37 rfl (E' := kBk E k (i + 1)) (f := fun ad a => if a < i ∨ 11 ≤ a then some (ad (k + 1 + 1 + 6 * a)) else none) (N := 11) (nI_in hi9 (by decide)) (by omega) (by omega) (fun cI cZ cO ad => ?_) (fun cI cZ cO ad => ⟨zFs ad (k + 2 + 6 * i) 2 8 (zW0 (k + 2 + 6 * i)), ?_⟩) (fun cI cZ cO ad j hj => ?_) (fun cI cZ cO ad => ?_) dX3_init_36 ?_
    · unfold kFin
      rw [if_neg (by omega)]
      exact harr i cI cZ cO ad
    · unfold kFin
      rw [if_pos ⟨Nat.le_refl _, by omega⟩]
      exact zEnt_obj _ _ _ _ _ hsi (by decide)
    · unfold kFin kBk
      by_cases h1 : j = k
      · rw [if_pos h1, if_neg (by omega), if_pos h1]
      · rw [if_neg h1, if_neg hj, if_neg h1, if_neg hj]
        by_cases h3 : k + 2 + 6 * i ≤ j ∧ j < k + 2 + 6 * i + 6
        · rw [if_pos h3, if_pos ⟨by omega, by omega⟩]
        · rw [if_neg h3]
          by_cases h4 : k < j ∧ j < k + 2 + 6 * i
          · rw [if_pos h4, if_pos ⟨h4.1, by omega⟩]
          · rw [if_neg h4, if_neg (by omega)]
    · rw [harr]
      congr 7
      funext a
      rw [nI_clamp (by omega)]
      unfold va_up
      by_cases ha : a = i
      · subst ha
        rw [if_pos (by omega), if_pos rfl, e1]
      · rw [if_neg ha]
        by_cases h5 : a < i ∨ 11 ≤ a
        · simp only [if_pos h5]; rw [if_pos (by omega)]
        · simp only [if_neg h5]; rw [if_neg (by omega)]
    refine zR_iinc 40 rfl 0 (nI (i + 1)) dX3_init_37 rfl (by decide) (by rw [nI_succ]; rfl) (show _ = [(1, .int _), (0, .ref _)] from rfl) ?_
    refine zR_goto 15 dX3_init_40 (by decide) ?_
    have := ih (i + 1) (by omega)
    rw [show k + 2 + 6 * (i + 1) = k + 2 + 6 * i + 6 by omega, show 1 + 6 * (i + 1) = 1 + 6 * i + 1 + 5 by omega, show 11 + 160 * (i + 1) = 11 + 160 * i + 8 + 152 by omega] at this
    exact this
set_option maxHeartbeats 4000000 in
set_option maxRecDepth 100000 in
theorem mk3 {k : Nat} (hs : zShp k = (3, 2)) (E : kE) : kMet gK3 k (k + 1) (kup E k (fun _ _ _ _ => .inr (3, [.int 0, .null]))) (k + 68) (kFin E k (k + 68)) := by
  have hlt := zShp_lt hs (by decide)
  have hso := zP3_orders hs
  have hlo := zShp_lt (zP_ord hso (i := 10) (by decide)) (by decide)
  rw [kIn_start (fun _ => rfl)]
  refine kMet_of (cs2 := 67) (sl2 := 1771) (pc2 := 43) (ls2 := [(1, .int (nI 11)), (0, .ref k)]) (by decide) rfl (by decide) dX3_init_43 (Nat.le_of_ble_eq_true rfl) (Nat.le_of_ble_eq_true rfl) ?_
  refine zR_aload_n 1 rfl 0 rfl dX3_init_0 ?_
  refine zR_objInit 4 rfl dX3_init_1 zw186 zw103 zw104 (by decide) (Nat.le_of_ble_eq_true rfl) ?_
  refine zR_aload_n 5 rfl 0 rfl dX3_init_4 ?_
  refine zR_bipush 7 rfl (11 : Int32) (by decide) dX3_init_5 ?_
  refine zR_newq 10 rfl 11 (E' := kup (kIn 3 E k (k + 1) [.int 0, .null]) (k + 1) (fun _ _ cO _ => .inl (cO, 11, .inr (.inr (.inr (.inr (fun _ => none))))))) (by decide) (by decide) (by decide) (by omega) (fun cI cZ cO ad j hj => by unfold kup; rw [if_neg (by omega)]) (fun cI cZ cO ad => by simp [kup]) (Nat.le_of_ble_eq_true rfl) (Nat.le_of_ble_eq_true rfl) dX3_init_7 zw187 ?_
  refine zR_put true 13 rfl (x := k + 1) (fs := [.int 0, .null]) (E' := kup (kIn 3 E k (k + 1) [.int 0, .ref (k + 1)]) (k + 1) (fun _ _ cO _ => .inl (cO, 11, .inr (.inr (.inr (.inr (fun _ => none))))))) 1 zC3 rfl rfl zw224 (by decide) rfl (Or.inr ⟨_, rfl⟩) (by omega) (Nat.le_of_ble_eq_true rfl) (fun cI cZ cO ad => by unfold kup; rw [if_neg (by omega)]; exact kIn_self cI cZ cO ad) (fun cI cZ cO ad j hj => by unfold kup; split; rfl; exact kIn_ne cI cZ cO ad j hj) (fun cI cZ cO ad => by unfold kup; rw [if_neg (by omega)]; exact kIn_self cI cZ cO ad) dX3_init_10 ?_
  refine zR_view (E' := kBk E k 0) (fun D cI cZ cO ad H j hj h => ?_) ?_
  · by_cases h1 : j = k
    · subst h1
      have e1 : kup (kIn 3 E j (j + 1) [.int 0, .ref (j + 1)]) (j + 1) (fun _ _ cO _ => .inl (cO, 11, .inr (.inr (.inr (.inr (fun _ => none)))))) cI cZ cO ad j = kBk E j 0 cI cZ cO ad j := by
        unfold kup kBk
        rw [if_neg (by omega), kIn_self, if_pos rfl]
        rfl
      rw [← e1]; exact h
    · by_cases h2 : j = k + 1
      · subst h2
        have e1 : kup (kIn 3 E k (k + 1) [.int 0, .ref (k + 1)]) (k + 1) (fun _ _ cO _ => .inl (cO, 11, .inr (.inr (.inr (.inr (fun _ => none)))))) cI cZ cO ad (k + 1) = .inl (cO, 11, .inr (.inr (.inr (.inr (fun _ => none))))) := by simp [kup]
        have e2 : kBk E k 0 cI cZ cO ad (k + 1) = .inl (cO, 11, .inr (.inr (.inr (.inr (fun a => if a < 0 ∨ 11 ≤ a then some (ad (k + 1 + 1 + 6 * a)) else none))))) := by
          unfold kBk
          rw [if_neg (by omega), if_pos rfl]
        rw [e1] at h
        rw [e2]
        have h3 : H[ad (k + 1)]? = some (vp_cell cO (11, .inr (.inr (.inr (.inr (fun _ => none)))))) := h
        show H[ad (k + 1)]? = some (vp_cell cO (11, _))
        rw [h3]
        exact congrArg some (kArr (fun a ha => by rw [if_neg (by omega)]))
      · have e1 : kup (kIn 3 E k (k + 1) [.int 0, .ref (k + 1)]) (k + 1) (fun _ _ cO _ => .inl (cO, 11, .inr (.inr (.inr (.inr (fun _ => none)))))) cI cZ cO ad j = kBk E k 0 cI cZ cO ad j := by
          unfold kup kBk kIn
          rw [if_neg h2, if_neg h1, if_neg (by omega), if_neg h1, if_neg h2, if_neg (by omega)]
        rw [← e1]; exact h
  refine zR_iconst 14 rfl (0 : Int32) (by decide) dX3_init_13 ?_
  refine zR_istore_n 15 rfl dX3_init_14 (by decide) (show _ = [(1, .int _), (0, .ref _)] from rfl) ?_
  exact mk3_loop hs E 11 0 (by decide)
def kMd (E : kE) (n2 : Nat) (fs : List Value) (f : Nat → Int32) : kE := fun cI cZ cO ad j => if j = 231 then .inr (12, fs.map (zv ad)) else if j = 232 then .inl (cI, 21948, .inl f) else if 231 < j ∧ j < n2 then zEnt cI cZ cO ad zW0 j else E cI cZ cO ad j
theorem kMd_self {E : kE} {n2 : Nat} {fs : List Value} {f : Nat → Int32} : ∀ cI cZ cO ad, kMd E n2 fs f cI cZ cO ad 231 = .inr (12, fs.map (zv ad)) := fun _ _ _ _ => by simp [kMd]
theorem kMd_s {E : kE} {n2 : Nat} {fs : List Value} {f : Nat → Int32} : ∀ cI cZ cO ad, kMd E n2 fs f cI cZ cO ad 232 = .inl (cI, 21948, .inl f) := fun _ _ _ _ => by simp [kMd]
theorem kMd_ne {E : kE} {n2 : Nat} {fs fs' : List Value} {f : Nat → Int32} : ∀ cI cZ cO ad j, j ≠ 231 → kMd E n2 fs' f cI cZ cO ad j = kMd E n2 fs f cI cZ cO ad j := fun _ _ _ _ j h => by simp [kMd, h]
theorem kMd_ne2 {E : kE} {n2 : Nat} {fs : List Value} {f f' : Nat → Int32} : ∀ cI cZ cO ad j, j ≠ 232 → kMd E n2 fs f' cI cZ cO ad j = kMd E n2 fs f cI cZ cO ad j := fun _ _ _ _ j h => by simp [kMd, h]
theorem kMd_lt {E : kE} {m : Nat} {fs : List Value} {f : Nat → Int32} (hm : 233 ≤ m) : ∀ cI cZ cO ad j, j < m → kMd E (m + 1) fs f cI cZ cO ad j = kMd E m fs f cI cZ cO ad j := fun _ _ _ _ j h => by
  unfold kMd
  by_cases h1 : j = 231
  · simp [h1]
  · by_cases h2 : j = 232
    · simp [h2]
    · simp only [if_neg h1, if_neg h2]
      by_cases hk : 231 < j
      · rw [if_pos ⟨hk, by omega⟩, if_pos ⟨hk, h⟩]
      · rw [if_neg (fun q => hk q.1), if_neg (fun q => hk q.1)]
theorem kMd_new {E : kE} {m : Nat} {fs : List Value} {f : Nat → Int32} (h : 232 < m) : ∀ cI cZ cO ad, kMd E (m + 1) fs f cI cZ cO ad m = zEnt cI cZ cO ad zW0 m := fun _ _ _ _ => by
  unfold kMd
  rw [if_neg (by omega), if_neg (by omega), if_pos ⟨by omega, by omega⟩]
theorem kMd_end {E : kE} {fs : List Value} (h : ∀ cI cZ cO ad, zEnt cI cZ cO ad zW0 231 = .inr (12, fs.map (zv ad))) : kMd E 250 fs (zW0 232) = kFin E 231 250 := by
  funext cI cZ cO ad j
  unfold kMd kFin
  by_cases h1 : j = 231
  · subst h1
    rw [if_pos rfl, if_pos (by decide), h]
  · rw [if_neg h1]
    by_cases h2 : j = 232
    · subst h2
      rw [if_pos rfl, if_pos (by decide), zEnt_int _ _ _ _ _ (show zShp 232 = (20, 21948) from rfl)]
    · rw [if_neg h2]
      by_cases h3 : 231 < j ∧ j < 250
      · rw [if_pos h3, if_pos ⟨by omega, h3.2⟩]
      · rw [if_neg h3, if_neg (by omega)]
theorem kMd_first {E : kE} {fs : List Value} {f : Nat → Int32} : ∀ cI cZ cO ad j, j < 232 → kMd E 233 fs f cI cZ cO ad j = kIn 12 E 231 232 fs cI cZ cO ad j := fun _ _ _ _ j h => by
  unfold kMd kIn
  by_cases h1 : j = 231
  · rw [if_pos h1, if_pos h1]
  · rw [if_neg h1, if_neg h1, if_neg (by omega), if_neg (by omega), if_neg (by omega)]
def kDr (i : Nat) : Nat → Int32 := fun j => if 2570 ≤ j ∧ j < 2570 + i then -1 else 0
set_option maxHeartbeats 4000000 in
set_option maxRecDepth 100000 in
theorem mk12_loop (E : kE) : ∀ (d i : Nat), i + d = 12 → zR gK12 (250, kMd E 250 [.int 0, .ref (231 + 1), .ref (231 + 2), .int 0, .ref (231 + 3), .ref (231 + 4), .ref (231 + 5), .ref (231 + 6), .ref (231 + 7), .ref (231 + 8), .int 0, .int 0, .int 0, .int 0, .int 0, .ref (231 + 9), .ref (231 + 10), .ref (231 + 11), .ref (231 + 12), .ref (231 + 13), .ref (231 + 14), .ref (231 + 15), .ref (231 + 16), .ref (231 + 17), .ref (231 + 18)] (kDr i), 18, 48918, 152, [(1, .int (nI i)), (0, .ref 231)], []) (250, kFin E 231 250, 18, 48918, 175, [(1, .int (nI 12)), (0, .ref 231)], []) := by
  intro d
  induction d with
  | zero =>
    intro i hi
    have hi : i = 12 := by omega
    subst hi
    refine zR_iload_n 153 rfl 0 rfl dX12_init_152 ?_
    refine zR_bipush 155 rfl (12 : Int32) (by decide) dX12_init_153 ?_
    refine zR_ge_t 175 dX12_init_155 (by decide) (by decide) ?_
    have e0 : kDr 12 = zW0 232 := by
      funext j
      simp [kDr, zW0]
    rw [e0, kMd_end (fun cI cZ cO ad => by rw [zEnt_obj _ _ _ _ _ (show zShp 231 = (12, 25) from rfl) (by decide), zW0_z (show zShp 231 = (12, 25) from rfl) (by decide) (by decide)]; rfl)]
    exact zR_rf
  | succ d ih =>
    intro i hi
    have hi9 : i < 12 := by omega
    refine zR_iload_n 153 rfl 0 rfl dX12_init_152 ?_
    refine zR_bipush 155 rfl (12 : Int32) (by decide) dX12_init_153 ?_
    refine zR_ge_f 158 rfl 175 dX12_init_155 (by decide) (nI_ge hi9 (by decide)) ?_
    refine zR_aload_n 159 rfl 1 rfl dX12_init_158 ?_
    refine zR_getp 162 rfl (fs := [.int 0, .ref (231 + 1), .ref (231 + 2), .int 0, .ref (231 + 3), .ref (231 + 4), .ref (231 + 5), .ref (231 + 6), .ref (231 + 7), .ref (231 + 8), .int 0, .int 0, .int 0, .int 0, .int 0, .ref (231 + 9), .ref (231 + 10), .ref (231 + 11), .ref (231 + 12), .ref (231 + 13), .ref (231 + 14), .ref (231 + 15), .ref (231 + 16), .ref (231 + 17), .ref (231 + 18)]) 1 zC12 zw1113 (by decide) (by decide) kMd_self rfl dX12_init_159 ?_
    refine zR_sipush 165 rfl (2570 : Int32) (by decide) dX12_init_162 ?_
    refine zR_iload_n 166 rfl 0 rfl dX12_init_165 ?_
    refine zR_iadd 167 rfl (nI (2570 + i)) (nI_add 2570 i) dX12_init_166 ?_
    refine zR_iconst 168 rfl (-1) (by decide) dX12_init_167 ?_
    refine zR_iast 169 rfl (E' := kMd E 250 [.int 0, .ref (231 + 1), .ref (231 + 2), .int 0, .ref (231 + 3), .ref (231 + 4), .ref (231 + 5), .ref (231 + 6), .ref (231 + 7), .ref (231 + 8), .int 0, .int 0, .int 0, .int 0, .int 0, .ref (231 + 9), .ref (231 + 10), .ref (231 + 11), .ref (231 + 12), .ref (231 + 13), .ref (231 + 14), .ref (231 + 15), .ref (231 + 16), .ref (231 + 17), .ref (231 + 18)] (kDr (i + 1))) (f := kDr i) (N := 21948) (nI_in (by omega) (by decide)) (by decide) kMd_s kMd_ne2 (fun cI cZ cO ad => ?_) dX12_init_168 ?_
    · rw [kMd_s, nI_clamp (by omega)]
      congr 4
      funext j
      show kDr (i + 1) j = upd (kDr i) (2570 + i) (-1) j
      unfold kDr upd
      by_cases hj : j = 2570 + i
      · rw [if_pos hj, if_pos (by omega)]
      · rw [if_neg hj]
        by_cases h2 : 2570 ≤ j ∧ j < 2570 + i
        · simp only [if_pos h2]; rw [if_pos (by omega)]
        · simp only [if_neg h2]; rw [if_neg (by omega)]
    refine zR_iinc 172 rfl 0 (nI (i + 1)) dX12_init_169 rfl (by decide) (by rw [nI_succ]; rfl) (show _ = [(1, .int _), (0, .ref _)] from rfl) ?_
    refine zR_goto 152 dX12_init_172 (by decide) ?_
    exact ih (i + 1) (by omega)
set_option maxHeartbeats 4000000 in
set_option maxRecDepth 100000 in
theorem mk12 (E : kE) : kMet gK12 231 (231 + 1) (kup E 231 (fun _ _ _ _ => .inr (12, [.int 0, .null, .null, .int 0, .null, .null, .null, .null, .null, .null, .int 0, .int 0, .int 0, .int 0, .int 0, .null, .null, .null, .null, .null, .null, .null, .null, .null, .null]))) (231 + 19) (kFin E 231 (231 + 19)) := by
  rw [kIn_start (fun _ => rfl)]
  refine kMet_of (cs2 := 18) (sl2 := 48918) (pc2 := 175) (ls2 := [(1, .int (nI 12)), (0, .ref 231)]) (by decide) rfl (by decide) dX12_init_175 (Nat.le_of_ble_eq_true rfl) (Nat.le_of_ble_eq_true rfl) ?_
  refine zR_aload_n 1 rfl 0 rfl dX12_init_0 ?_
  refine zR_objInit 4 rfl dX12_init_1 zw1112 zw103 zw104 (by decide) (Nat.le_of_ble_eq_true rfl) ?_
  refine zR_aload_n 5 rfl 0 rfl dX12_init_4 ?_
  refine zR_sipush 8 rfl (21948 : Int32) (by decide) dX12_init_5 ?_
  refine zR_newi 10 rfl 21948 (E' := kMd E 233 [.int 0, .null, .null, .int 0, .null, .null, .null, .null, .null, .null, .int 0, .int 0, .int 0, .int 0, .int 0, .null, .null, .null, .null, .null, .null, .null, .null, .null, .null] (fun _ => 0)) (by decide) (by decide) (by decide) (by decide) kMd_first kMd_s (Nat.le_of_ble_eq_true rfl) (Nat.le_of_ble_eq_true rfl) dX12_init_8 zw164 ?_
  refine zR_put true 13 rfl (x := 231 + 1) (fs := [.int 0, .null, .null, .int 0, .null, .null, .null, .null, .null, .null, .int 0, .int 0, .int 0, .int 0, .int 0, .null, .null, .null, .null, .null, .null, .null, .null, .null, .null]) (E' := kMd E 233 [.int 0, .ref (231 + 1), .null, .int 0, .null, .null, .null, .null, .null, .null, .int 0, .int 0, .int 0, .int 0, .int 0, .null, .null, .null, .null, .null, .null, .null, .null, .null, .null] (fun _ => 0)) 1 zC12 rfl rfl zw1113 (by decide) rfl (Or.inr ⟨_, rfl⟩) (by decide) (Nat.le_of_ble_eq_true rfl) kMd_self kMd_ne (fun cI cZ cO ad => kMd_self cI cZ cO ad) dX12_init_10 ?_
  refine zR_aload_n 14 rfl 0 rfl dX12_init_13 ?_
  refine zR_sipush 17 rfl (21948 : Int32) (by decide) dX12_init_14 ?_
  refine zR_newi 19 rfl 21948 (E' := kMd E 234 [.int 0, .ref (231 + 1), .null, .int 0, .null, .null, .null, .null, .null, .null, .int 0, .int 0, .int 0, .int 0, .int 0, .null, .null, .null, .null, .null, .null, .null, .null, .null, .null] (fun _ => 0)) (by decide) (by decide) (by decide) (by decide) (kMd_lt (by decide)) (fun cI cZ cO ad => (kMd_new (by decide) cI cZ cO ad).trans (zE_i (show zShp 233 = (20, 21948) from rfl) (show zW0 233 = fun _ => 0 from by funext i; simp [zW0]) cI cZ cO ad)) (Nat.le_of_ble_eq_true rfl) (Nat.le_of_ble_eq_true rfl) dX12_init_17 zw164 ?_
  refine zR_put true 22 rfl (x := 231 + 2) (fs := [.int 0, .ref (231 + 1), .null, .int 0, .null, .null, .null, .null, .null, .null, .int 0, .int 0, .int 0, .int 0, .int 0, .null, .null, .null, .null, .null, .null, .null, .null, .null, .null]) (E' := kMd E 234 [.int 0, .ref (231 + 1), .ref (231 + 2), .int 0, .null, .null, .null, .null, .null, .null, .int 0, .int 0, .int 0, .int 0, .int 0, .null, .null, .null, .null, .null, .null, .null, .null, .null, .null] (fun _ => 0)) 2 zC12 rfl rfl zw1114 (by decide) rfl (Or.inr ⟨_, rfl⟩) (by decide) (Nat.le_of_ble_eq_true rfl) kMd_self kMd_ne (fun cI cZ cO ad => kMd_self cI cZ cO ad) dX12_init_19 ?_
  refine zR_aload_n 23 rfl 0 rfl dX12_init_22 ?_
  refine zR_bipush 25 rfl (12 : Int32) (by decide) dX12_init_23 ?_
  refine zR_newi 27 rfl 12 (E' := kMd E 235 [.int 0, .ref (231 + 1), .ref (231 + 2), .int 0, .null, .null, .null, .null, .null, .null, .int 0, .int 0, .int 0, .int 0, .int 0, .null, .null, .null, .null, .null, .null, .null, .null, .null, .null] (fun _ => 0)) (by decide) (by decide) (by decide) (by decide) (kMd_lt (by decide)) (fun cI cZ cO ad => (kMd_new (by decide) cI cZ cO ad).trans (zE_i (show zShp 234 = (20, 12) from rfl) (zW0_z (show zShp 234 = (20, 12) from rfl) (by decide) (by decide)) cI cZ cO ad)) (Nat.le_of_ble_eq_true rfl) (Nat.le_of_ble_eq_true rfl) dX12_init_25 zw164 ?_
  refine zR_put true 30 rfl (x := 231 + 3) (fs := [.int 0, .ref (231 + 1), .ref (231 + 2), .int 0, .null, .null, .null, .null, .null, .null, .int 0, .int 0, .int 0, .int 0, .int 0, .null, .null, .null, .null, .null, .null, .null, .null, .null, .null]) (E' := kMd E 235 [.int 0, .ref (231 + 1), .ref (231 + 2), .int 0, .ref (231 + 3), .null, .null, .null, .null, .null, .int 0, .int 0, .int 0, .int 0, .int 0, .null, .null, .null, .null, .null, .null, .null, .null, .null, .null] (fun _ => 0)) 4 zC12 rfl rfl zw1116 (by decide) rfl (Or.inr ⟨_, rfl⟩) (by decide) (Nat.le_of_ble_eq_true rfl) kMd_self kMd_ne (fun cI cZ cO ad => kMd_self cI cZ cO ad) dX12_init_27 ?_
  refine zR_aload_n 31 rfl 0 rfl dX12_init_30 ?_
  refine zR_bipush 33 rfl (12 : Int32) (by decide) dX12_init_31 ?_
  refine zR_newi 35 rfl 12 (E' := kMd E 236 [.int 0, .ref (231 + 1), .ref (231 + 2), .int 0, .ref (231 + 3), .null, .null, .null, .null, .null, .int 0, .int 0, .int 0, .int 0, .int 0, .null, .null, .null, .null, .null, .null, .null, .null, .null, .null] (fun _ => 0)) (by decide) (by decide) (by decide) (by decide) (kMd_lt (by decide)) (fun cI cZ cO ad => (kMd_new (by decide) cI cZ cO ad).trans (zE_i (show zShp 235 = (20, 12) from rfl) (zW0_z (show zShp 235 = (20, 12) from rfl) (by decide) (by decide)) cI cZ cO ad)) (Nat.le_of_ble_eq_true rfl) (Nat.le_of_ble_eq_true rfl) dX12_init_33 zw164 ?_
  refine zR_put true 38 rfl (x := 231 + 4) (fs := [.int 0, .ref (231 + 1), .ref (231 + 2), .int 0, .ref (231 + 3), .null, .null, .null, .null, .null, .int 0, .int 0, .int 0, .int 0, .int 0, .null, .null, .null, .null, .null, .null, .null, .null, .null, .null]) (E' := kMd E 236 [.int 0, .ref (231 + 1), .ref (231 + 2), .int 0, .ref (231 + 3), .ref (231 + 4), .null, .null, .null, .null, .int 0, .int 0, .int 0, .int 0, .int 0, .null, .null, .null, .null, .null, .null, .null, .null, .null, .null] (fun _ => 0)) 5 zC12 rfl rfl zw1117 (by decide) rfl (Or.inr ⟨_, rfl⟩) (by decide) (Nat.le_of_ble_eq_true rfl) kMd_self kMd_ne (fun cI cZ cO ad => kMd_self cI cZ cO ad) dX12_init_35 ?_
  refine zR_aload_n 39 rfl 0 rfl dX12_init_38 ?_
  refine zR_bipush 41 rfl (12 : Int32) (by decide) dX12_init_39 ?_
  refine zR_newi 43 rfl 12 (E' := kMd E 237 [.int 0, .ref (231 + 1), .ref (231 + 2), .int 0, .ref (231 + 3), .ref (231 + 4), .null, .null, .null, .null, .int 0, .int 0, .int 0, .int 0, .int 0, .null, .null, .null, .null, .null, .null, .null, .null, .null, .null] (fun _ => 0)) (by decide) (by decide) (by decide) (by decide) (kMd_lt (by decide)) (fun cI cZ cO ad => (kMd_new (by decide) cI cZ cO ad).trans (zE_i (show zShp 236 = (20, 12) from rfl) (zW0_z (show zShp 236 = (20, 12) from rfl) (by decide) (by decide)) cI cZ cO ad)) (Nat.le_of_ble_eq_true rfl) (Nat.le_of_ble_eq_true rfl) dX12_init_41 zw164 ?_
  refine zR_put true 46 rfl (x := 231 + 5) (fs := [.int 0, .ref (231 + 1), .ref (231 + 2), .int 0, .ref (231 + 3), .ref (231 + 4), .null, .null, .null, .null, .int 0, .int 0, .int 0, .int 0, .int 0, .null, .null, .null, .null, .null, .null, .null, .null, .null, .null]) (E' := kMd E 237 [.int 0, .ref (231 + 1), .ref (231 + 2), .int 0, .ref (231 + 3), .ref (231 + 4), .ref (231 + 5), .null, .null, .null, .int 0, .int 0, .int 0, .int 0, .int 0, .null, .null, .null, .null, .null, .null, .null, .null, .null, .null] (fun _ => 0)) 6 zC12 rfl rfl zw1118 (by decide) rfl (Or.inr ⟨_, rfl⟩) (by decide) (Nat.le_of_ble_eq_true rfl) kMd_self kMd_ne (fun cI cZ cO ad => kMd_self cI cZ cO ad) dX12_init_43 ?_
  refine zR_aload_n 47 rfl 0 rfl dX12_init_46 ?_
  refine zR_bipush 49 rfl (12 : Int32) (by decide) dX12_init_47 ?_
  refine zR_newi 51 rfl 12 (E' := kMd E 238 [.int 0, .ref (231 + 1), .ref (231 + 2), .int 0, .ref (231 + 3), .ref (231 + 4), .ref (231 + 5), .null, .null, .null, .int 0, .int 0, .int 0, .int 0, .int 0, .null, .null, .null, .null, .null, .null, .null, .null, .null, .null] (fun _ => 0)) (by decide) (by decide) (by decide) (by decide) (kMd_lt (by decide)) (fun cI cZ cO ad => (kMd_new (by decide) cI cZ cO ad).trans (zE_i (show zShp 237 = (20, 12) from rfl) (zW0_z (show zShp 237 = (20, 12) from rfl) (by decide) (by decide)) cI cZ cO ad)) (Nat.le_of_ble_eq_true rfl) (Nat.le_of_ble_eq_true rfl) dX12_init_49 zw164 ?_
  refine zR_put true 54 rfl (x := 231 + 6) (fs := [.int 0, .ref (231 + 1), .ref (231 + 2), .int 0, .ref (231 + 3), .ref (231 + 4), .ref (231 + 5), .null, .null, .null, .int 0, .int 0, .int 0, .int 0, .int 0, .null, .null, .null, .null, .null, .null, .null, .null, .null, .null]) (E' := kMd E 238 [.int 0, .ref (231 + 1), .ref (231 + 2), .int 0, .ref (231 + 3), .ref (231 + 4), .ref (231 + 5), .ref (231 + 6), .null, .null, .int 0, .int 0, .int 0, .int 0, .int 0, .null, .null, .null, .null, .null, .null, .null, .null, .null, .null] (fun _ => 0)) 7 zC12 rfl rfl zw1119 (by decide) rfl (Or.inr ⟨_, rfl⟩) (by decide) (Nat.le_of_ble_eq_true rfl) kMd_self kMd_ne (fun cI cZ cO ad => kMd_self cI cZ cO ad) dX12_init_51 ?_
  refine zR_aload_n 55 rfl 0 rfl dX12_init_54 ?_
  refine zR_bipush 57 rfl (30 : Int32) (by decide) dX12_init_55 ?_
  refine zR_newi 59 rfl 30 (E' := kMd E 239 [.int 0, .ref (231 + 1), .ref (231 + 2), .int 0, .ref (231 + 3), .ref (231 + 4), .ref (231 + 5), .ref (231 + 6), .null, .null, .int 0, .int 0, .int 0, .int 0, .int 0, .null, .null, .null, .null, .null, .null, .null, .null, .null, .null] (fun _ => 0)) (by decide) (by decide) (by decide) (by decide) (kMd_lt (by decide)) (fun cI cZ cO ad => (kMd_new (by decide) cI cZ cO ad).trans (zE_i (show zShp 238 = (20, 30) from rfl) (zW0_z (show zShp 238 = (20, 30) from rfl) (by decide) (by decide)) cI cZ cO ad)) (Nat.le_of_ble_eq_true rfl) (Nat.le_of_ble_eq_true rfl) dX12_init_57 zw164 ?_
  refine zR_put true 62 rfl (x := 231 + 7) (fs := [.int 0, .ref (231 + 1), .ref (231 + 2), .int 0, .ref (231 + 3), .ref (231 + 4), .ref (231 + 5), .ref (231 + 6), .null, .null, .int 0, .int 0, .int 0, .int 0, .int 0, .null, .null, .null, .null, .null, .null, .null, .null, .null, .null]) (E' := kMd E 239 [.int 0, .ref (231 + 1), .ref (231 + 2), .int 0, .ref (231 + 3), .ref (231 + 4), .ref (231 + 5), .ref (231 + 6), .ref (231 + 7), .null, .int 0, .int 0, .int 0, .int 0, .int 0, .null, .null, .null, .null, .null, .null, .null, .null, .null, .null] (fun _ => 0)) 8 zC12 rfl rfl zw1120 (by decide) rfl (Or.inr ⟨_, rfl⟩) (by decide) (Nat.le_of_ble_eq_true rfl) kMd_self kMd_ne (fun cI cZ cO ad => kMd_self cI cZ cO ad) dX12_init_59 ?_
  refine zR_aload_n 63 rfl 0 rfl dX12_init_62 ?_
  refine zR_bipush 65 rfl (30 : Int32) (by decide) dX12_init_63 ?_
  refine zR_newi 67 rfl 30 (E' := kMd E 240 [.int 0, .ref (231 + 1), .ref (231 + 2), .int 0, .ref (231 + 3), .ref (231 + 4), .ref (231 + 5), .ref (231 + 6), .ref (231 + 7), .null, .int 0, .int 0, .int 0, .int 0, .int 0, .null, .null, .null, .null, .null, .null, .null, .null, .null, .null] (fun _ => 0)) (by decide) (by decide) (by decide) (by decide) (kMd_lt (by decide)) (fun cI cZ cO ad => (kMd_new (by decide) cI cZ cO ad).trans (zE_i (show zShp 239 = (20, 30) from rfl) (zW0_z (show zShp 239 = (20, 30) from rfl) (by decide) (by decide)) cI cZ cO ad)) (Nat.le_of_ble_eq_true rfl) (Nat.le_of_ble_eq_true rfl) dX12_init_65 zw164 ?_
  refine zR_put true 70 rfl (x := 231 + 8) (fs := [.int 0, .ref (231 + 1), .ref (231 + 2), .int 0, .ref (231 + 3), .ref (231 + 4), .ref (231 + 5), .ref (231 + 6), .ref (231 + 7), .null, .int 0, .int 0, .int 0, .int 0, .int 0, .null, .null, .null, .null, .null, .null, .null, .null, .null, .null]) (E' := kMd E 240 [.int 0, .ref (231 + 1), .ref (231 + 2), .int 0, .ref (231 + 3), .ref (231 + 4), .ref (231 + 5), .ref (231 + 6), .ref (231 + 7), .ref (231 + 8), .int 0, .int 0, .int 0, .int 0, .int 0, .null, .null, .null, .null, .null, .null, .null, .null, .null, .null] (fun _ => 0)) 9 zC12 rfl rfl zw1121 (by decide) rfl (Or.inr ⟨_, rfl⟩) (by decide) (Nat.le_of_ble_eq_true rfl) kMd_self kMd_ne (fun cI cZ cO ad => kMd_self cI cZ cO ad) dX12_init_67 ?_
  refine zR_aload_n 71 rfl 0 rfl dX12_init_70 ?_
  refine zR_bipush 73 rfl (8 : Int32) (by decide) dX12_init_71 ?_
  refine zR_newi 75 rfl 8 (E' := kMd E 241 [.int 0, .ref (231 + 1), .ref (231 + 2), .int 0, .ref (231 + 3), .ref (231 + 4), .ref (231 + 5), .ref (231 + 6), .ref (231 + 7), .ref (231 + 8), .int 0, .int 0, .int 0, .int 0, .int 0, .null, .null, .null, .null, .null, .null, .null, .null, .null, .null] (fun _ => 0)) (by decide) (by decide) (by decide) (by decide) (kMd_lt (by decide)) (fun cI cZ cO ad => (kMd_new (by decide) cI cZ cO ad).trans (zE_i (show zShp 240 = (20, 8) from rfl) (zW0_z (show zShp 240 = (20, 8) from rfl) (by decide) (by decide)) cI cZ cO ad)) (Nat.le_of_ble_eq_true rfl) (Nat.le_of_ble_eq_true rfl) dX12_init_73 zw164 ?_
  refine zR_put true 78 rfl (x := 231 + 9) (fs := [.int 0, .ref (231 + 1), .ref (231 + 2), .int 0, .ref (231 + 3), .ref (231 + 4), .ref (231 + 5), .ref (231 + 6), .ref (231 + 7), .ref (231 + 8), .int 0, .int 0, .int 0, .int 0, .int 0, .null, .null, .null, .null, .null, .null, .null, .null, .null, .null]) (E' := kMd E 241 [.int 0, .ref (231 + 1), .ref (231 + 2), .int 0, .ref (231 + 3), .ref (231 + 4), .ref (231 + 5), .ref (231 + 6), .ref (231 + 7), .ref (231 + 8), .int 0, .int 0, .int 0, .int 0, .int 0, .ref (231 + 9), .null, .null, .null, .null, .null, .null, .null, .null, .null] (fun _ => 0)) 15 zC12 rfl rfl zw1127 (by decide) rfl (Or.inr ⟨_, rfl⟩) (by decide) (Nat.le_of_ble_eq_true rfl) kMd_self kMd_ne (fun cI cZ cO ad => kMd_self cI cZ cO ad) dX12_init_75 ?_
  refine zR_aload_n 79 rfl 0 rfl dX12_init_78 ?_
  refine zR_bipush 81 rfl (8 : Int32) (by decide) dX12_init_79 ?_
  refine zR_newi 83 rfl 8 (E' := kMd E 242 [.int 0, .ref (231 + 1), .ref (231 + 2), .int 0, .ref (231 + 3), .ref (231 + 4), .ref (231 + 5), .ref (231 + 6), .ref (231 + 7), .ref (231 + 8), .int 0, .int 0, .int 0, .int 0, .int 0, .ref (231 + 9), .null, .null, .null, .null, .null, .null, .null, .null, .null] (fun _ => 0)) (by decide) (by decide) (by decide) (by decide) (kMd_lt (by decide)) (fun cI cZ cO ad => (kMd_new (by decide) cI cZ cO ad).trans (zE_i (show zShp 241 = (20, 8) from rfl) (zW0_z (show zShp 241 = (20, 8) from rfl) (by decide) (by decide)) cI cZ cO ad)) (Nat.le_of_ble_eq_true rfl) (Nat.le_of_ble_eq_true rfl) dX12_init_81 zw164 ?_
  refine zR_put true 86 rfl (x := 231 + 10) (fs := [.int 0, .ref (231 + 1), .ref (231 + 2), .int 0, .ref (231 + 3), .ref (231 + 4), .ref (231 + 5), .ref (231 + 6), .ref (231 + 7), .ref (231 + 8), .int 0, .int 0, .int 0, .int 0, .int 0, .ref (231 + 9), .null, .null, .null, .null, .null, .null, .null, .null, .null]) (E' := kMd E 242 [.int 0, .ref (231 + 1), .ref (231 + 2), .int 0, .ref (231 + 3), .ref (231 + 4), .ref (231 + 5), .ref (231 + 6), .ref (231 + 7), .ref (231 + 8), .int 0, .int 0, .int 0, .int 0, .int 0, .ref (231 + 9), .ref (231 + 10), .null, .null, .null, .null, .null, .null, .null, .null] (fun _ => 0)) 16 zC12 rfl rfl zw1128 (by decide) rfl (Or.inr ⟨_, rfl⟩) (by decide) (Nat.le_of_ble_eq_true rfl) kMd_self kMd_ne (fun cI cZ cO ad => kMd_self cI cZ cO ad) dX12_init_83 ?_
  refine zR_aload_n 87 rfl 0 rfl dX12_init_86 ?_
  refine zR_sipush 90 rfl (2401 : Int32) (by decide) dX12_init_87 ?_
  refine zR_newz 92 rfl 2401 (E' := kMd E 243 [.int 0, .ref (231 + 1), .ref (231 + 2), .int 0, .ref (231 + 3), .ref (231 + 4), .ref (231 + 5), .ref (231 + 6), .ref (231 + 7), .ref (231 + 8), .int 0, .int 0, .int 0, .int 0, .int 0, .ref (231 + 9), .ref (231 + 10), .null, .null, .null, .null, .null, .null, .null, .null] (fun _ => 0)) (by decide) (by decide) (by decide) (by decide) (kMd_lt (by decide)) (fun cI cZ cO ad => (kMd_new (by decide) cI cZ cO ad).trans (zE_z (show zShp 242 = (21, 2401) from rfl) (zW0_z (show zShp 242 = (21, 2401) from rfl) (by decide) (by decide)) cI cZ cO ad)) (Nat.le_of_ble_eq_true rfl) (Nat.le_of_ble_eq_true rfl) dX12_init_90 zw1188 ?_
  refine zR_put true 95 rfl (x := 231 + 11) (fs := [.int 0, .ref (231 + 1), .ref (231 + 2), .int 0, .ref (231 + 3), .ref (231 + 4), .ref (231 + 5), .ref (231 + 6), .ref (231 + 7), .ref (231 + 8), .int 0, .int 0, .int 0, .int 0, .int 0, .ref (231 + 9), .ref (231 + 10), .null, .null, .null, .null, .null, .null, .null, .null]) (E' := kMd E 243 [.int 0, .ref (231 + 1), .ref (231 + 2), .int 0, .ref (231 + 3), .ref (231 + 4), .ref (231 + 5), .ref (231 + 6), .ref (231 + 7), .ref (231 + 8), .int 0, .int 0, .int 0, .int 0, .int 0, .ref (231 + 9), .ref (231 + 10), .ref (231 + 11), .null, .null, .null, .null, .null, .null, .null] (fun _ => 0)) 17 zC12 rfl rfl zw1129 (by decide) rfl (Or.inr ⟨_, rfl⟩) (by decide) (Nat.le_of_ble_eq_true rfl) kMd_self kMd_ne (fun cI cZ cO ad => kMd_self cI cZ cO ad) dX12_init_92 ?_
  refine zR_aload_n 96 rfl 0 rfl dX12_init_95 ?_
  refine zR_sipush 99 rfl (2401 : Int32) (by decide) dX12_init_96 ?_
  refine zR_newz 101 rfl 2401 (E' := kMd E 244 [.int 0, .ref (231 + 1), .ref (231 + 2), .int 0, .ref (231 + 3), .ref (231 + 4), .ref (231 + 5), .ref (231 + 6), .ref (231 + 7), .ref (231 + 8), .int 0, .int 0, .int 0, .int 0, .int 0, .ref (231 + 9), .ref (231 + 10), .ref (231 + 11), .null, .null, .null, .null, .null, .null, .null] (fun _ => 0)) (by decide) (by decide) (by decide) (by decide) (kMd_lt (by decide)) (fun cI cZ cO ad => (kMd_new (by decide) cI cZ cO ad).trans (zE_z (show zShp 243 = (21, 2401) from rfl) (zW0_z (show zShp 243 = (21, 2401) from rfl) (by decide) (by decide)) cI cZ cO ad)) (Nat.le_of_ble_eq_true rfl) (Nat.le_of_ble_eq_true rfl) dX12_init_99 zw1188 ?_
  refine zR_put true 104 rfl (x := 231 + 12) (fs := [.int 0, .ref (231 + 1), .ref (231 + 2), .int 0, .ref (231 + 3), .ref (231 + 4), .ref (231 + 5), .ref (231 + 6), .ref (231 + 7), .ref (231 + 8), .int 0, .int 0, .int 0, .int 0, .int 0, .ref (231 + 9), .ref (231 + 10), .ref (231 + 11), .null, .null, .null, .null, .null, .null, .null]) (E' := kMd E 244 [.int 0, .ref (231 + 1), .ref (231 + 2), .int 0, .ref (231 + 3), .ref (231 + 4), .ref (231 + 5), .ref (231 + 6), .ref (231 + 7), .ref (231 + 8), .int 0, .int 0, .int 0, .int 0, .int 0, .ref (231 + 9), .ref (231 + 10), .ref (231 + 11), .ref (231 + 12), .null, .null, .null, .null, .null, .null] (fun _ => 0)) 18 zC12 rfl rfl zw1130 (by decide) rfl (Or.inr ⟨_, rfl⟩) (by decide) (Nat.le_of_ble_eq_true rfl) kMd_self kMd_ne (fun cI cZ cO ad => kMd_self cI cZ cO ad) dX12_init_101 ?_
  refine zR_aload_n 105 rfl 0 rfl dX12_init_104 ?_
  refine zR_iconst 106 rfl (4 : Int32) (by decide) dX12_init_105 ?_
  refine zR_newi 108 rfl 4 (E' := kMd E 245 [.int 0, .ref (231 + 1), .ref (231 + 2), .int 0, .ref (231 + 3), .ref (231 + 4), .ref (231 + 5), .ref (231 + 6), .ref (231 + 7), .ref (231 + 8), .int 0, .int 0, .int 0, .int 0, .int 0, .ref (231 + 9), .ref (231 + 10), .ref (231 + 11), .ref (231 + 12), .null, .null, .null, .null, .null, .null] (fun _ => 0)) (by decide) (by decide) (by decide) (by decide) (kMd_lt (by decide)) (fun cI cZ cO ad => (kMd_new (by decide) cI cZ cO ad).trans (zE_i (show zShp 244 = (20, 4) from rfl) (zW0_z (show zShp 244 = (20, 4) from rfl) (by decide) (by decide)) cI cZ cO ad)) (Nat.le_of_ble_eq_true rfl) (Nat.le_of_ble_eq_true rfl) dX12_init_106 zw164 ?_
  refine zR_put true 111 rfl (x := 231 + 13) (fs := [.int 0, .ref (231 + 1), .ref (231 + 2), .int 0, .ref (231 + 3), .ref (231 + 4), .ref (231 + 5), .ref (231 + 6), .ref (231 + 7), .ref (231 + 8), .int 0, .int 0, .int 0, .int 0, .int 0, .ref (231 + 9), .ref (231 + 10), .ref (231 + 11), .ref (231 + 12), .null, .null, .null, .null, .null, .null]) (E' := kMd E 245 [.int 0, .ref (231 + 1), .ref (231 + 2), .int 0, .ref (231 + 3), .ref (231 + 4), .ref (231 + 5), .ref (231 + 6), .ref (231 + 7), .ref (231 + 8), .int 0, .int 0, .int 0, .int 0, .int 0, .ref (231 + 9), .ref (231 + 10), .ref (231 + 11), .ref (231 + 12), .ref (231 + 13), .null, .null, .null, .null, .null] (fun _ => 0)) 19 zC12 rfl rfl zw1131 (by decide) rfl (Or.inr ⟨_, rfl⟩) (by decide) (Nat.le_of_ble_eq_true rfl) kMd_self kMd_ne (fun cI cZ cO ad => kMd_self cI cZ cO ad) dX12_init_108 ?_
  refine zR_aload_n 112 rfl 0 rfl dX12_init_111 ?_
  refine zR_iconst 113 rfl (4 : Int32) (by decide) dX12_init_112 ?_
  refine zR_newi 115 rfl 4 (E' := kMd E 246 [.int 0, .ref (231 + 1), .ref (231 + 2), .int 0, .ref (231 + 3), .ref (231 + 4), .ref (231 + 5), .ref (231 + 6), .ref (231 + 7), .ref (231 + 8), .int 0, .int 0, .int 0, .int 0, .int 0, .ref (231 + 9), .ref (231 + 10), .ref (231 + 11), .ref (231 + 12), .ref (231 + 13), .null, .null, .null, .null, .null] (fun _ => 0)) (by decide) (by decide) (by decide) (by decide) (kMd_lt (by decide)) (fun cI cZ cO ad => (kMd_new (by decide) cI cZ cO ad).trans (zE_i (show zShp 245 = (20, 4) from rfl) (zW0_z (show zShp 245 = (20, 4) from rfl) (by decide) (by decide)) cI cZ cO ad)) (Nat.le_of_ble_eq_true rfl) (Nat.le_of_ble_eq_true rfl) dX12_init_113 zw164 ?_
  refine zR_put true 118 rfl (x := 231 + 14) (fs := [.int 0, .ref (231 + 1), .ref (231 + 2), .int 0, .ref (231 + 3), .ref (231 + 4), .ref (231 + 5), .ref (231 + 6), .ref (231 + 7), .ref (231 + 8), .int 0, .int 0, .int 0, .int 0, .int 0, .ref (231 + 9), .ref (231 + 10), .ref (231 + 11), .ref (231 + 12), .ref (231 + 13), .null, .null, .null, .null, .null]) (E' := kMd E 246 [.int 0, .ref (231 + 1), .ref (231 + 2), .int 0, .ref (231 + 3), .ref (231 + 4), .ref (231 + 5), .ref (231 + 6), .ref (231 + 7), .ref (231 + 8), .int 0, .int 0, .int 0, .int 0, .int 0, .ref (231 + 9), .ref (231 + 10), .ref (231 + 11), .ref (231 + 12), .ref (231 + 13), .ref (231 + 14), .null, .null, .null, .null] (fun _ => 0)) 20 zC12 rfl rfl zw1132 (by decide) rfl (Or.inr ⟨_, rfl⟩) (by decide) (Nat.le_of_ble_eq_true rfl) kMd_self kMd_ne (fun cI cZ cO ad => kMd_self cI cZ cO ad) dX12_init_115 ?_
  refine zR_aload_n 119 rfl 0 rfl dX12_init_118 ?_
  refine zR_bipush 121 rfl (8 : Int32) (by decide) dX12_init_119 ?_
  refine zR_newi 123 rfl 8 (E' := kMd E 247 [.int 0, .ref (231 + 1), .ref (231 + 2), .int 0, .ref (231 + 3), .ref (231 + 4), .ref (231 + 5), .ref (231 + 6), .ref (231 + 7), .ref (231 + 8), .int 0, .int 0, .int 0, .int 0, .int 0, .ref (231 + 9), .ref (231 + 10), .ref (231 + 11), .ref (231 + 12), .ref (231 + 13), .ref (231 + 14), .null, .null, .null, .null] (fun _ => 0)) (by decide) (by decide) (by decide) (by decide) (kMd_lt (by decide)) (fun cI cZ cO ad => (kMd_new (by decide) cI cZ cO ad).trans (zE_i (show zShp 246 = (20, 8) from rfl) (zW0_z (show zShp 246 = (20, 8) from rfl) (by decide) (by decide)) cI cZ cO ad)) (Nat.le_of_ble_eq_true rfl) (Nat.le_of_ble_eq_true rfl) dX12_init_121 zw164 ?_
  refine zR_put true 126 rfl (x := 231 + 15) (fs := [.int 0, .ref (231 + 1), .ref (231 + 2), .int 0, .ref (231 + 3), .ref (231 + 4), .ref (231 + 5), .ref (231 + 6), .ref (231 + 7), .ref (231 + 8), .int 0, .int 0, .int 0, .int 0, .int 0, .ref (231 + 9), .ref (231 + 10), .ref (231 + 11), .ref (231 + 12), .ref (231 + 13), .ref (231 + 14), .null, .null, .null, .null]) (E' := kMd E 247 [.int 0, .ref (231 + 1), .ref (231 + 2), .int 0, .ref (231 + 3), .ref (231 + 4), .ref (231 + 5), .ref (231 + 6), .ref (231 + 7), .ref (231 + 8), .int 0, .int 0, .int 0, .int 0, .int 0, .ref (231 + 9), .ref (231 + 10), .ref (231 + 11), .ref (231 + 12), .ref (231 + 13), .ref (231 + 14), .ref (231 + 15), .null, .null, .null] (fun _ => 0)) 21 zC12 rfl rfl zw1133 (by decide) rfl (Or.inr ⟨_, rfl⟩) (by decide) (Nat.le_of_ble_eq_true rfl) kMd_self kMd_ne (fun cI cZ cO ad => kMd_self cI cZ cO ad) dX12_init_123 ?_
  refine zR_aload_n 127 rfl 0 rfl dX12_init_126 ?_
  refine zR_bipush 129 rfl (8 : Int32) (by decide) dX12_init_127 ?_
  refine zR_newi 131 rfl 8 (E' := kMd E 248 [.int 0, .ref (231 + 1), .ref (231 + 2), .int 0, .ref (231 + 3), .ref (231 + 4), .ref (231 + 5), .ref (231 + 6), .ref (231 + 7), .ref (231 + 8), .int 0, .int 0, .int 0, .int 0, .int 0, .ref (231 + 9), .ref (231 + 10), .ref (231 + 11), .ref (231 + 12), .ref (231 + 13), .ref (231 + 14), .ref (231 + 15), .null, .null, .null] (fun _ => 0)) (by decide) (by decide) (by decide) (by decide) (kMd_lt (by decide)) (fun cI cZ cO ad => (kMd_new (by decide) cI cZ cO ad).trans (zE_i (show zShp 247 = (20, 8) from rfl) (zW0_z (show zShp 247 = (20, 8) from rfl) (by decide) (by decide)) cI cZ cO ad)) (Nat.le_of_ble_eq_true rfl) (Nat.le_of_ble_eq_true rfl) dX12_init_129 zw164 ?_
  refine zR_put true 134 rfl (x := 231 + 16) (fs := [.int 0, .ref (231 + 1), .ref (231 + 2), .int 0, .ref (231 + 3), .ref (231 + 4), .ref (231 + 5), .ref (231 + 6), .ref (231 + 7), .ref (231 + 8), .int 0, .int 0, .int 0, .int 0, .int 0, .ref (231 + 9), .ref (231 + 10), .ref (231 + 11), .ref (231 + 12), .ref (231 + 13), .ref (231 + 14), .ref (231 + 15), .null, .null, .null]) (E' := kMd E 248 [.int 0, .ref (231 + 1), .ref (231 + 2), .int 0, .ref (231 + 3), .ref (231 + 4), .ref (231 + 5), .ref (231 + 6), .ref (231 + 7), .ref (231 + 8), .int 0, .int 0, .int 0, .int 0, .int 0, .ref (231 + 9), .ref (231 + 10), .ref (231 + 11), .ref (231 + 12), .ref (231 + 13), .ref (231 + 14), .ref (231 + 15), .ref (231 + 16), .null, .null] (fun _ => 0)) 22 zC12 rfl rfl zw1134 (by decide) rfl (Or.inr ⟨_, rfl⟩) (by decide) (Nat.le_of_ble_eq_true rfl) kMd_self kMd_ne (fun cI cZ cO ad => kMd_self cI cZ cO ad) dX12_init_131 ?_
  refine zR_aload_n 135 rfl 0 rfl dX12_init_134 ?_
  refine zR_bipush 137 rfl (60 : Int32) (by decide) dX12_init_135 ?_
  refine zR_newi 139 rfl 60 (E' := kMd E 249 [.int 0, .ref (231 + 1), .ref (231 + 2), .int 0, .ref (231 + 3), .ref (231 + 4), .ref (231 + 5), .ref (231 + 6), .ref (231 + 7), .ref (231 + 8), .int 0, .int 0, .int 0, .int 0, .int 0, .ref (231 + 9), .ref (231 + 10), .ref (231 + 11), .ref (231 + 12), .ref (231 + 13), .ref (231 + 14), .ref (231 + 15), .ref (231 + 16), .null, .null] (fun _ => 0)) (by decide) (by decide) (by decide) (by decide) (kMd_lt (by decide)) (fun cI cZ cO ad => (kMd_new (by decide) cI cZ cO ad).trans (zE_i (show zShp 248 = (20, 60) from rfl) (zW0_z (show zShp 248 = (20, 60) from rfl) (by decide) (by decide)) cI cZ cO ad)) (Nat.le_of_ble_eq_true rfl) (Nat.le_of_ble_eq_true rfl) dX12_init_137 zw164 ?_
  refine zR_put true 142 rfl (x := 231 + 17) (fs := [.int 0, .ref (231 + 1), .ref (231 + 2), .int 0, .ref (231 + 3), .ref (231 + 4), .ref (231 + 5), .ref (231 + 6), .ref (231 + 7), .ref (231 + 8), .int 0, .int 0, .int 0, .int 0, .int 0, .ref (231 + 9), .ref (231 + 10), .ref (231 + 11), .ref (231 + 12), .ref (231 + 13), .ref (231 + 14), .ref (231 + 15), .ref (231 + 16), .null, .null]) (E' := kMd E 249 [.int 0, .ref (231 + 1), .ref (231 + 2), .int 0, .ref (231 + 3), .ref (231 + 4), .ref (231 + 5), .ref (231 + 6), .ref (231 + 7), .ref (231 + 8), .int 0, .int 0, .int 0, .int 0, .int 0, .ref (231 + 9), .ref (231 + 10), .ref (231 + 11), .ref (231 + 12), .ref (231 + 13), .ref (231 + 14), .ref (231 + 15), .ref (231 + 16), .ref (231 + 17), .null] (fun _ => 0)) 23 zC12 rfl rfl zw1135 (by decide) rfl (Or.inr ⟨_, rfl⟩) (by decide) (Nat.le_of_ble_eq_true rfl) kMd_self kMd_ne (fun cI cZ cO ad => kMd_self cI cZ cO ad) dX12_init_139 ?_
  refine zR_aload_n 143 rfl 0 rfl dX12_init_142 ?_
  refine zR_bipush 145 rfl (12 : Int32) (by decide) dX12_init_143 ?_
  refine zR_newi 147 rfl 12 (E' := kMd E 250 [.int 0, .ref (231 + 1), .ref (231 + 2), .int 0, .ref (231 + 3), .ref (231 + 4), .ref (231 + 5), .ref (231 + 6), .ref (231 + 7), .ref (231 + 8), .int 0, .int 0, .int 0, .int 0, .int 0, .ref (231 + 9), .ref (231 + 10), .ref (231 + 11), .ref (231 + 12), .ref (231 + 13), .ref (231 + 14), .ref (231 + 15), .ref (231 + 16), .ref (231 + 17), .null] (fun _ => 0)) (by decide) (by decide) (by decide) (by decide) (kMd_lt (by decide)) (fun cI cZ cO ad => (kMd_new (by decide) cI cZ cO ad).trans (zE_i (show zShp 249 = (20, 12) from rfl) (zW0_z (show zShp 249 = (20, 12) from rfl) (by decide) (by decide)) cI cZ cO ad)) (Nat.le_of_ble_eq_true rfl) (Nat.le_of_ble_eq_true rfl) dX12_init_145 zw164 ?_
  refine zR_put true 150 rfl (x := 231 + 18) (fs := [.int 0, .ref (231 + 1), .ref (231 + 2), .int 0, .ref (231 + 3), .ref (231 + 4), .ref (231 + 5), .ref (231 + 6), .ref (231 + 7), .ref (231 + 8), .int 0, .int 0, .int 0, .int 0, .int 0, .ref (231 + 9), .ref (231 + 10), .ref (231 + 11), .ref (231 + 12), .ref (231 + 13), .ref (231 + 14), .ref (231 + 15), .ref (231 + 16), .ref (231 + 17), .null]) (E' := kMd E 250 [.int 0, .ref (231 + 1), .ref (231 + 2), .int 0, .ref (231 + 3), .ref (231 + 4), .ref (231 + 5), .ref (231 + 6), .ref (231 + 7), .ref (231 + 8), .int 0, .int 0, .int 0, .int 0, .int 0, .ref (231 + 9), .ref (231 + 10), .ref (231 + 11), .ref (231 + 12), .ref (231 + 13), .ref (231 + 14), .ref (231 + 15), .ref (231 + 16), .ref (231 + 17), .ref (231 + 18)] (fun _ => 0)) 24 zC12 rfl rfl zw1136 (by decide) rfl (Or.inr ⟨_, rfl⟩) (by decide) (Nat.le_of_ble_eq_true rfl) kMd_self kMd_ne (fun cI cZ cO ad => kMd_self cI cZ cO ad) dX12_init_147 ?_
  refine zR_iconst 151 rfl (0 : Int32) (by decide) dX12_init_150 ?_
  refine zR_istore_n 152 rfl dX12_init_151 (by decide) (show _ = [(1, .int _), (0, .ref _)] from rfl) ?_
  have e0 : (fun _ => 0 : Nat → Int32) = kDr 0 := by
    funext j
    unfold kDr
    rw [if_neg (by omega)]
  rw [e0]
  exact mk12_loop E 12 0 (by decide)
