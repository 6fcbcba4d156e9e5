theorem zw102 : (Jvm.Cond.methodLink "HotSprings" (1 : Nat) ({ cls := "java/lang/Object", name := "<init>", desc := "()V" } : Jvm.MethodName)) ∈ lw_gd := zIn 102 (by decide +kernel) (by decide +kernel)
theorem zw103 : (Jvm.Cond.instanceMethod ({ cls := "java/lang/Object", name := "<init>", desc := "()V" } : Jvm.MethodName)) ∈ lw_gd := zIn 103 (by decide +kernel) (by decide +kernel)
theorem zw104 : (Jvm.Cond.code ({ cls := "java/lang/Object", name := "<init>", desc := "()V" } : Jvm.MethodName) object_method_1_code (1 : Nat) (Option.none : Option Jvm.ClassFile.FieldType)) ∈ lw_gd := zIn 104 (by decide +kernel) (by decide +kernel)
theorem zw105 : (Jvm.Cond.classLink "HotSprings" (7 : Nat) "HotSprings$World") ∈ lw_gd := zIn 105 (by decide +kernel) (by decide +kernel)
theorem zw106 : (Jvm.Cond.instantiable "HotSprings$World" (6 : Nat)) ∈ lw_gd := zIn 106 (by decide +kernel) (by decide +kernel)
theorem zw108 : (Jvm.Cond.instanceMethod ({ cls := "HotSprings$World", name := "<init>", desc := "()V" } : Jvm.MethodName)) ∈ lw_gd := zIn 108 (by decide +kernel) (by decide +kernel)
theorem zw109 : (Jvm.Cond.code ({ cls := "HotSprings$World", name := "<init>", desc := "()V" } : Jvm.MethodName) prog_12_method_1_code (1 : Nat) (Option.none : Option Jvm.ClassFile.FieldType)) ∈ lw_gd := zIn 109 (by decide +kernel) (by decide +kernel)
theorem zw110 : (Jvm.Cond.methodLink "HotSprings$World" (3 : Nat) ({ cls := "java/lang/Object", name := "<init>", desc := "()V" } : Jvm.MethodName)) ∈ lw_gd := zIn 110 (by decide +kernel) (by decide +kernel)
theorem zw111 : (Jvm.Cond.classLink "HotSprings$World" (9 : Nat) "HotSprings$Ground") ∈ lw_gd := zIn 111 (by decide +kernel) (by decide +kernel)
theorem zw112 : (Jvm.Cond.instantiable "HotSprings$Ground" (11 : Nat)) ∈ lw_gd := zIn 112 (by decide +kernel) (by decide +kernel)
theorem zw114 : (Jvm.Cond.instanceMethod ({ cls := "HotSprings$Ground", name := "<init>", desc := "()V" } : Jvm.MethodName)) ∈ lw_gd := zIn 114 (by decide +kernel) (by decide +kernel)
theorem zw115 : (Jvm.Cond.code ({ cls := "HotSprings$Ground", name := "<init>", desc := "()V" } : Jvm.MethodName) prog_2_method_1_code (1 : Nat) (Option.none : Option Jvm.ClassFile.FieldType)) ∈ lw_gd := zIn 115 (by decide +kernel) (by decide +kernel)
theorem zw116 : (Jvm.Cond.methodLink "HotSprings$Ground" (3 : Nat) ({ cls := "java/lang/Object", name := "<init>", desc := "()V" } : Jvm.MethodName)) ∈ lw_gd := zIn 116 (by decide +kernel) (by decide +kernel)
theorem zw164 : (Jvm.Cond.arrayClass Jvm.ClassFile.FieldType.int) ∈ lw_gd := zIn 164 (by decide +kernel) (by decide +kernel)
theorem zw165 : (Jvm.Cond.classLink "HotSprings$World" (18 : Nat) "HotSprings$Tape") ∈ lw_gd := zIn 165 (by decide +kernel) (by decide +kernel)
theorem zw166 : (Jvm.Cond.instantiable "HotSprings$Tape" (2 : Nat)) ∈ lw_gd := zIn 166 (by decide +kernel) (by decide +kernel)
theorem zw168 : (Jvm.Cond.instanceMethod ({ cls := "HotSprings$Tape", name := "<init>", desc := "()V" } : Jvm.MethodName)) ∈ lw_gd := zIn 168 (by decide +kernel) (by decide +kernel)
theorem zw169 : (Jvm.Cond.code ({ cls := "HotSprings$Tape", name := "<init>", desc := "()V" } : Jvm.MethodName) prog_11_method_1_code (1 : Nat) (Option.none : Option Jvm.ClassFile.FieldType)) ∈ lw_gd := zIn 169 (by decide +kernel) (by decide +kernel)
theorem zw170 : (Jvm.Cond.methodLink "HotSprings$Tape" (3 : Nat) ({ cls := "java/lang/Object", name := "<init>", desc := "()V" } : Jvm.MethodName)) ∈ lw_gd := zIn 170 (by decide +kernel) (by decide +kernel)
theorem zw181 : (Jvm.Cond.classLink "HotSprings$World" (25 : Nat) "HotSprings$OrderBook") ∈ lw_gd := zIn 181 (by decide +kernel) (by decide +kernel)
theorem zw182 : (Jvm.Cond.instantiable "HotSprings$OrderBook" (2 : Nat)) ∈ lw_gd := zIn 182 (by decide +kernel) (by decide +kernel)
theorem zw183 : (Jvm.Cond.methodLink "HotSprings$World" (27 : Nat) ({ cls := "HotSprings$OrderBook", name := "<init>", desc := "()V" } : Jvm.MethodName)) ∈ lw_gd := zIn 183 (by decide +kernel) (by decide +kernel)
theorem zw184 : (Jvm.Cond.instanceMethod ({ cls := "HotSprings$OrderBook", name := "<init>", desc := "()V" } : Jvm.MethodName)) ∈ lw_gd := zIn 184 (by decide +kernel) (by decide +kernel)
theorem zw185 : (Jvm.Cond.code ({ cls := "HotSprings$OrderBook", name := "<init>", desc := "()V" } : Jvm.MethodName) prog_5_method_1_code (2 : Nat) (Option.none : Option Jvm.ClassFile.FieldType)) ∈ lw_gd := zIn 185 (by decide +kernel) (by decide +kernel)
theorem zw193 : (Jvm.Cond.methodLink "HotSprings$Order" (3 : Nat) ({ cls := "java/lang/Object", name := "<init>", desc := "()V" } : Jvm.MethodName)) ∈ lw_gd := zIn 193 (by decide +kernel) (by decide +kernel)
theorem zw230 : (Jvm.Cond.classLink "HotSprings$World" (32 : Nat) "HotSprings$Takers") ∈ lw_gd := zIn 230 (by decide +kernel) (by decide +kernel)
theorem zw231 : (Jvm.Cond.instantiable "HotSprings$Takers" (13 : Nat)) ∈ lw_gd := zIn 231 (by decide +kernel) (by decide +kernel)
theorem zw233 : (Jvm.Cond.instanceMethod ({ cls := "HotSprings$Takers", name := "<init>", desc := "()V" } : Jvm.MethodName)) ∈ lw_gd := zIn 233 (by decide +kernel) (by decide +kernel)
theorem zw234 : (Jvm.Cond.code ({ cls := "HotSprings$Takers", name := "<init>", desc := "()V" } : Jvm.MethodName) prog_10_method_1_code (1 : Nat) (Option.none : Option Jvm.ClassFile.FieldType)) ∈ lw_gd := zIn 234 (by decide +kernel) (by decide +kernel)
theorem zw235 : (Jvm.Cond.methodLink "HotSprings$Takers" (3 : Nat) ({ cls := "java/lang/Object", name := "<init>", desc := "()V" } : Jvm.MethodName)) ∈ lw_gd := zIn 235 (by decide +kernel) (by decide +kernel)
theorem zw291 : (Jvm.Cond.classLink "HotSprings$World" (39 : Nat) "HotSprings$Seen") ∈ lw_gd := zIn 291 (by decide +kernel) (by decide +kernel)
theorem zw292 : (Jvm.Cond.instantiable "HotSprings$Seen" (12 : Nat)) ∈ lw_gd := zIn 292 (by decide +kernel) (by decide +kernel)
theorem zw294 : (Jvm.Cond.instanceMethod ({ cls := "HotSprings$Seen", name := "<init>", desc := "()V" } : Jvm.MethodName)) ∈ lw_gd := zIn 294 (by decide +kernel) (by decide +kernel)
theorem zw295 : (Jvm.Cond.code ({ cls := "HotSprings$Seen", name := "<init>", desc := "()V" } : Jvm.MethodName) prog_8_method_1_code (1 : Nat) (Option.none : Option Jvm.ClassFile.FieldType)) ∈ lw_gd := zIn 295 (by decide +kernel) (by decide +kernel)
theorem zw296 : (Jvm.Cond.methodLink "HotSprings$Seen" (3 : Nat) ({ cls := "java/lang/Object", name := "<init>", desc := "()V" } : Jvm.MethodName)) ∈ lw_gd := zIn 296 (by decide +kernel) (by decide +kernel)
theorem zw369 : (Jvm.Cond.classLink "HotSprings" (23 : Nat) "HotSprings$Ground") ∈ lw_gd := zIn 369 (by decide +kernel) (by decide +kernel)
theorem zw371 : (Jvm.Cond.classLink "HotSprings" (30 : Nat) "HotSprings$Reader") ∈ lw_gd := zIn 371 (by decide +kernel) (by decide +kernel)
theorem zw372 : (Jvm.Cond.instantiable "HotSprings$Reader" (4 : Nat)) ∈ lw_gd := zIn 372 (by decide +kernel) (by decide +kernel)
theorem zw374 : (Jvm.Cond.instanceMethod ({ cls := "HotSprings$Reader", name := "<init>", desc := "()V" } : Jvm.MethodName)) ∈ lw_gd := zIn 374 (by decide +kernel) (by decide +kernel)
theorem zw375 : (Jvm.Cond.code ({ cls := "HotSprings$Reader", name := "<init>", desc := "()V" } : Jvm.MethodName) prog_6_method_1_code (1 : Nat) (Option.none : Option Jvm.ClassFile.FieldType)) ∈ lw_gd := zIn 375 (by decide +kernel) (by decide +kernel)
theorem zw376 : (Jvm.Cond.methodLink "HotSprings$Reader" (3 : Nat) ({ cls := "java/lang/Object", name := "<init>", desc := "()V" } : Jvm.MethodName)) ∈ lw_gd := zIn 376 (by decide +kernel) (by decide +kernel)
theorem zw390 : (Jvm.Cond.classLink "HotSprings" (37 : Nat) "HotSprings$Row") ∈ lw_gd := zIn 390 (by decide +kernel) (by decide +kernel)
theorem zw391 : (Jvm.Cond.instantiable "HotSprings$Row" (3 : Nat)) ∈ lw_gd := zIn 391 (by decide +kernel) (by decide +kernel)
theorem zw393 : (Jvm.Cond.instanceMethod ({ cls := "HotSprings$Row", name := "<init>", desc := "()V" } : Jvm.MethodName)) ∈ lw_gd := zIn 393 (by decide +kernel) (by decide +kernel)
theorem zw394 : (Jvm.Cond.code ({ cls := "HotSprings$Row", name := "<init>", desc := "()V" } : Jvm.MethodName) prog_7_method_1_code (1 : Nat) (Option.none : Option Jvm.ClassFile.FieldType)) ∈ lw_gd := zIn 394 (by decide +kernel) (by decide +kernel)
theorem zw395 : (Jvm.Cond.methodLink "HotSprings$Row" (3 : Nat) ({ cls := "java/lang/Object", name := "<init>", desc := "()V" } : Jvm.MethodName)) ∈ lw_gd := zIn 395 (by decide +kernel) (by decide +kernel)
theorem zw411 : (Jvm.Cond.classLink "HotSprings" (44 : Nat) "HotSprings$Mix") ∈ lw_gd := zIn 411 (by decide +kernel) (by decide +kernel)
theorem zw412 : (Jvm.Cond.instantiable "HotSprings$Mix" (8 : Nat)) ∈ lw_gd := zIn 412 (by decide +kernel) (by decide +kernel)
theorem zw414 : (Jvm.Cond.instanceMethod ({ cls := "HotSprings$Mix", name := "<init>", desc := "()V" } : Jvm.MethodName)) ∈ lw_gd := zIn 414 (by decide +kernel) (by decide +kernel)
theorem zw415 : (Jvm.Cond.code ({ cls := "HotSprings$Mix", name := "<init>", desc := "()V" } : Jvm.MethodName) prog_3_method_1_code (1 : Nat) (Option.none : Option Jvm.ClassFile.FieldType)) ∈ lw_gd := zIn 415 (by decide +kernel) (by decide +kernel)
theorem zw416 : (Jvm.Cond.methodLink "HotSprings$Mix" (5 : Nat) ({ cls := "java/lang/Object", name := "<init>", desc := "()V" } : Jvm.MethodName)) ∈ lw_gd := zIn 416 (by decide +kernel) (by decide +kernel)
theorem zw442 : (Jvm.Cond.classLink "HotSprings" (51 : Nat) "HotSprings$Sets") ∈ lw_gd := zIn 442 (by decide +kernel) (by decide +kernel)
theorem zw443 : (Jvm.Cond.instantiable "HotSprings$Sets" (5 : Nat)) ∈ lw_gd := zIn 443 (by decide +kernel) (by decide +kernel)
theorem zw445 : (Jvm.Cond.instanceMethod ({ cls := "HotSprings$Sets", name := "<init>", desc := "()V" } : Jvm.MethodName)) ∈ lw_gd := zIn 445 (by decide +kernel) (by decide +kernel)
theorem zw446 : (Jvm.Cond.code ({ cls := "HotSprings$Sets", name := "<init>", desc := "()V" } : Jvm.MethodName) prog_9_method_1_code (1 : Nat) (Option.none : Option Jvm.ClassFile.FieldType)) ∈ lw_gd := zIn 446 (by decide +kernel) (by decide +kernel)
theorem zw447 : (Jvm.Cond.methodLink "HotSprings$Sets" (3 : Nat) ({ cls := "java/lang/Object", name := "<init>", desc := "()V" } : Jvm.MethodName)) ∈ lw_gd := zIn 447 (by decide +kernel) (by decide +kernel)
def kFin (E : kE) (k n2 : Nat) : kE := fun cI cZ cO ad j => if k ≤ j ∧ j < n2 then zEnt cI cZ cO ad zW0 j else E cI cZ cO ad j
def kIn (ci : Nat) (E : kE) (k n2 : Nat) (fs : List Value) : kE := fun cI cZ cO ad j => if j = k then .inr (ci, fs.map (zv ad)) else if k < j ∧ j < n2 then zEnt cI cZ cO ad zW0 j else E cI cZ cO ad j
theorem kIn_start {ci : Nat} {E : kE} {k : Nat} {fs : List Value} (h : ∀ ad, fs.map (zv ad) = fs) : kup E k (fun _ _ _ _ => .inr (ci, fs)) = kIn ci E k (k + 1) fs := by
  funext cI cZ cO ad j
  unfold kup kIn
  rw [h]
  by_cases hj : j = k
  · simp [hj]
  · simp only [if_neg hj]
    rw [if_neg (by omega)]
theorem kIn_self {ci : Nat} {E : kE} {k n2 : Nat} {fs : List Value} : ∀ cI cZ cO ad, kIn ci E k n2 fs cI cZ cO ad k = .inr (ci, fs.map (zv ad)) := fun _ _ _ _ => by simp [kIn]
theorem kIn_ne {ci : Nat} {E : kE} {k n2 : Nat} {fs fs' : List Value} : ∀ cI cZ cO ad j, j ≠ k → kIn ci E k n2 fs' cI cZ cO ad j = kIn ci E k n2 fs cI cZ cO ad j := fun _ _ _ _ j h => by simp [kIn, h]
theorem kIn_lt {ci : Nat} {E : kE} {k m : Nat} {fs : List Value} : ∀ cI cZ cO ad j, j < m → kIn ci E k (m + 1) fs cI cZ cO ad j = kIn ci E k m fs cI cZ cO ad j := fun _ _ _ _ j h => by
  unfold kIn
  by_cases hj : j = k
  · simp [hj]
  · simp only [if_neg hj]
    by_cases hk : k < j
    · rw [if_pos ⟨hk, by omega⟩, if_pos ⟨hk, h⟩]
    · rw [if_neg (fun q => hk q.1), if_neg (fun q => hk q.1)]
theorem kIn_new {ci : Nat} {E : kE} {k m : Nat} {fs : List Value} (h : k < m) : ∀ cI cZ cO ad, kIn ci E k (m + 1) fs cI cZ cO ad m = zEnt cI cZ cO ad zW0 m := fun _ _ _ _ => by
  unfold kIn
  rw [if_neg (by omega), if_pos ⟨h, by omega⟩]
theorem kFin_kIn {ci : Nat} {E : kE} {k m n2 : Nat} {fs : List Value} (h : k < m) (h2 : m ≤ n2) : kFin (kIn ci E k m fs) m n2 = kIn ci E k n2 fs := by
  funext cI cZ cO ad j
  unfold kFin kIn
  by_cases hj : j = k
  · rw [if_neg (by omega), if_pos hj, if_pos hj]
  · rw [if_neg hj, if_neg hj]
    by_cases h3 : m ≤ j ∧ j < n2
    · rw [if_pos h3, if_pos ⟨by omega, h3.2⟩]
    · rw [if_neg h3]
      by_cases h4 : k < j ∧ j < m
      · rw [if_pos h4, if_pos ⟨h4.1, by omega⟩]
      · rw [if_neg h4, if_neg (fun q => by
          rcases Nat.lt_or_ge j m with z | z
          · exact h4 ⟨q.1, z⟩
          · exact h3 ⟨z, q.2⟩)]
theorem kIn_end {ci : Nat} {E : kE} {k n2 : Nat} {fs : List Value} (hk : k < n2) (h : ∀ cI cZ cO ad, zEnt cI cZ cO ad zW0 k = .inr (ci, fs.map (zv ad))) : kIn ci E k n2 fs = kFin E k n2 := by
  funext cI cZ cO ad j
  unfold kFin kIn
  by_cases hj : j = k
  · subst hj
    rw [if_pos rfl, if_pos ⟨Nat.le_refl _, hk⟩, h]
  · rw [if_neg hj]
    by_cases h3 : k < j ∧ j < n2
    · rw [if_pos h3, if_pos ⟨by omega, h3.2⟩]
    · rw [if_neg h3, if_neg (fun q => h3 ⟨by omega, q.2⟩)]
theorem zW0_z {k c n : Nat} (h : zShp k = (c, n)) (h1 : c ≠ 1) (h2 : n ≠ 21948) : zW0 k = fun _ => 0 := by
  funext i
  unfold zW0
  rw [if_neg (fun q => by rw [q, show zShp 220 = (1, 8) from rfl] at h; cases h; exact h1 rfl), if_neg (fun q => by rw [q, show zShp 232 = (20, 21948) from rfl] at h; cases h; exact h2 rfl)]
theorem zE_i {k n : Nat} (h : zShp k = (20, n)) (h2 : zW0 k = fun _ => 0) : ∀ cI cZ cO ad, zEnt cI cZ cO ad zW0 k = .inl (cI, n, .inl (fun _ => 0)) := fun cI cZ cO ad => by rw [zEnt_int _ _ _ _ _ h, h2]
theorem zE_z {k n : Nat} (h : zShp k = (21, n)) (h2 : zW0 k = fun _ => 0) : ∀ cI cZ cO ad, zEnt cI cZ cO ad zW0 k = .inl (cZ, n, .inl (fun _ => 0)) := fun cI cZ cO ad => by rw [zEnt_boo _ _ _ _ _ h, h2]
abbrev kHd (y : MethodName) : Prop := y.cls ≠ "java/lang/invoke/MethodHandle" ∧ y.cls ≠ "java/lang/invoke/VarHandle" ∧ (parseMethodDescriptor y.desc).map (fun d => d.parameters.length) = some 0
abbrev gK0 : kMth := (yX0_init, cX0_init, 1, 1, 9, 270)
theorem kHd0 : kHd yX0_init := ⟨by decide, by decide, by decide +kernel⟩
set_option maxHeartbeats 4000000 in
set_option maxRecDepth 100000 in
theorem mk0 {k : Nat} (hs : zShp k = (0, 11)) (E : kE) : kMet gK0 k (k + 1) (kup E k (fun _ _ _ _ => .inr (0, [.null, .int 0, .int 0, .null, .null, .null, .null, .null, .null, .null, .null]))) (k + 10) (kFin E k (k + 10)) := by
  have hlt := zShp_lt hs (by decide)
  rw [kIn_start (fun _ => rfl)]
  refine kMet_of (cs2 := 9) (sl2 := 270) (pc2 := 81) (ls2 := [(0, .ref k)]) (by decide) rfl (by decide) dX0_init_81 (Nat.le_of_ble_eq_true rfl) (Nat.le_of_ble_eq_true rfl) ?_
  refine zR_aload_n 1 rfl 0 rfl dX0_init_0 ?_
  refine zR_objInit 4 rfl dX0_init_1 zw116 zw103 zw104 (by decide) (Nat.le_of_ble_eq_true rfl) ?_
  refine zR_aload_n 5 rfl 0 rfl dX0_init_4 ?_
  refine zR_gets 8 rfl 0 rfl dX0_init_5 (by decide +kernel) ?_
  refine zR_tlen 9 rfl 0 rfl 4 (by decide) dX0_init_8 ?_
  refine zR_bipush 11 rfl (30 : Int32) (by decide) dX0_init_9 ?_
  refine zR_imul 12 rfl (120 : Int32) (by decide) dX0_init_11 ?_
  refine zR_newi 14 rfl 120 (E' := kIn 0 E k (k + 2) [.null, .int 0, .int 0, .null, .null, .null, .null, .null, .null, .null, .null]) (by decide) (by decide) (by decide) (zShp_lt (zP0_cells hs) (by decide)) kIn_lt (fun cI cZ cO ad => (kIn_new (by omega) cI cZ cO ad).trans (zE_i (zP0_cells hs) (zW0_z (zP0_cells hs) (by decide) (by decide)) cI cZ cO ad)) (Nat.le_of_ble_eq_true rfl) (Nat.le_of_ble_eq_true rfl) dX0_init_12 zw164 ?_
  refine zR_put true 17 rfl (x := k + 1) (fs := [.null, .int 0, .int 0, .null, .null, .null, .null, .null, .null, .null, .null]) (E' := kIn 0 E k (k + 2) [.ref (k + 1), .int 0, .int 0, .null, .null, .null, .null, .null, .null, .null, .null]) 0 zC0 rfl rfl zw119 (by decide) rfl (Or.inr ⟨_, rfl⟩) (by omega) (Nat.le_of_ble_eq_true rfl) kIn_self kIn_ne (fun cI cZ cO ad => kIn_self cI cZ cO ad) dX0_init_14 ?_
  refine zR_aload_n 18 rfl 0 rfl dX0_init_17 ?_
  refine zR_bipush 20 rfl (12 : Int32) (by decide) dX0_init_18 ?_
  refine zR_newi 22 rfl 12 (E' := kIn 0 E k (k + 3) [.ref (k + 1), .int 0, .int 0, .null, .null, .null, .null, .null, .null, .null, .null]) (by decide) (by decide) (by decide) (zShp_lt (zP0_kind hs) (by decide)) kIn_lt (fun cI cZ cO ad => (kIn_new (by omega) cI cZ cO ad).trans (zE_i (zP0_kind hs) (zW0_z (zP0_kind hs) (by decide) (by decide)) cI cZ cO ad)) (Nat.le_of_ble_eq_true rfl) (Nat.le_of_ble_eq_true rfl) dX0_init_20 zw164 ?_
  refine zR_put true 25 rfl (x := k + 2) (fs := [.ref (k + 1), .int 0, .int 0, .null, .null, .null, .null, .null, .null, .null, .null]) (E' := kIn 0 E k (k + 3) [.ref (k + 1), .int 0, .int 0, .ref (k + 2), .null, .null, .null, .null, .null, .null, .null]) 3 zC0 rfl rfl zw126 (by decide) rfl (Or.inr ⟨_, rfl⟩) (by omega) (Nat.le_of_ble_eq_true rfl) kIn_self kIn_ne (fun cI cZ cO ad => kIn_self cI cZ cO ad) dX0_init_22 ?_
  refine zR_aload_n 26 rfl 0 rfl dX0_init_25 ?_
  refine zR_bipush 28 rfl (12 : Int32) (by decide) dX0_init_26 ?_
  refine zR_newi 30 rfl 12 (E' := kIn 0 E k (k + 4) [.ref (k + 1), .int 0, .int 0, .ref (k + 2), .null, .null, .null, .null, .null, .null, .null]) (by decide) (by decide) (by decide) (zShp_lt (zP0_cellOf hs) (by decide)) kIn_lt (fun cI cZ cO ad => (kIn_new (by omega) cI cZ cO ad).trans (zE_i (zP0_cellOf hs) (zW0_z (zP0_cellOf hs) (by decide) (by decide)) cI cZ cO ad)) (Nat.le_of_ble_eq_true rfl) (Nat.le_of_ble_eq_true rfl) dX0_init_28 zw164 ?_
  refine zR_put true 33 rfl (x := k + 3) (fs := [.ref (k + 1), .int 0, .int 0, .ref (k + 2), .null, .null, .null, .null, .null, .null, .null]) (E' := kIn 0 E k (k + 4) [.ref (k + 1), .int 0, .int 0, .ref (k + 2), .ref (k + 3), .null, .null, .null, .null, .null, .null]) 4 zC0 rfl rfl zw127 (by decide) rfl (Or.inr ⟨_, rfl⟩) (by omega) (Nat.le_of_ble_eq_true rfl) kIn_self kIn_ne (fun cI cZ cO ad => kIn_self cI cZ cO ad) dX0_init_30 ?_
  refine zR_aload_n 34 rfl 0 rfl dX0_init_33 ?_
  refine zR_bipush 36 rfl (12 : Int32) (by decide) dX0_init_34 ?_
  refine zR_newi 38 rfl 12 (E' := kIn 0 E k (k + 5) [.ref (k + 1), .int 0, .int 0, .ref (k + 2), .ref (k + 3), .null, .null, .null, .null, .null, .null]) (by decide) (by decide) (by decide) (zShp_lt (zP0_told hs) (by decide)) kIn_lt (fun cI cZ cO ad => (kIn_new (by omega) cI cZ cO ad).trans (zE_i (zP0_told hs) (zW0_z (zP0_told hs) (by decide) (by decide)) cI cZ cO ad)) (Nat.le_of_ble_eq_true rfl) (Nat.le_of_ble_eq_true rfl) dX0_init_36 zw164 ?_
  refine zR_put true 41 rfl (x := k + 4) (fs := [.ref (k + 1), .int 0, .int 0, .ref (k + 2), .ref (k + 3), .null, .null, .null, .null, .null, .null]) (E' := kIn 0 E k (k + 5) [.ref (k + 1), .int 0, .int 0, .ref (k + 2), .ref (k + 3), .ref (k + 4), .null, .null, .null, .null, .null]) 5 zC0 rfl rfl zw130 (by decide) rfl (Or.inr ⟨_, rfl⟩) (by omega) (Nat.le_of_ble_eq_true rfl) kIn_self kIn_ne (fun cI cZ cO ad => kIn_self cI cZ cO ad) dX0_init_38 ?_
  refine zR_aload_n 42 rfl 0 rfl dX0_init_41 ?_
  refine zR_bipush 44 rfl (12 : Int32) (by decide) dX0_init_42 ?_
  refine zR_newi 46 rfl 12 (E' := kIn 0 E k (k + 6) [.ref (k + 1), .int 0, .int 0, .ref (k + 2), .ref (k + 3), .ref (k + 4), .null, .null, .null, .null, .null]) (by decide) (by decide) (by decide) (zShp_lt (zP0_from hs) (by decide)) kIn_lt (fun cI cZ cO ad => (kIn_new (by omega) cI cZ cO ad).trans (zE_i (zP0_from hs) (zW0_z (zP0_from hs) (by decide) (by decide)) cI cZ cO ad)) (Nat.le_of_ble_eq_true rfl) (Nat.le_of_ble_eq_true rfl) dX0_init_44 zw164 ?_
  refine zR_put true 49 rfl (x := k + 5) (fs := [.ref (k + 1), .int 0, .int 0, .ref (k + 2), .ref (k + 3), .ref (k + 4), .null, .null, .null, .null, .null]) (E' := kIn 0 E k (k + 6) [.ref (k + 1), .int 0, .int 0, .ref (k + 2), .ref (k + 3), .ref (k + 4), .ref (k + 5), .null, .null, .null, .null]) 6 zC0 rfl rfl zw132 (by decide) rfl (Or.inr ⟨_, rfl⟩) (by omega) (Nat.le_of_ble_eq_true rfl) kIn_self kIn_ne (fun cI cZ cO ad => kIn_self cI cZ cO ad) dX0_init_46 ?_
  refine zR_aload_n 50 rfl 0 rfl dX0_init_49 ?_
  refine zR_bipush 52 rfl (12 : Int32) (by decide) dX0_init_50 ?_
  refine zR_newi 54 rfl 12 (E' := kIn 0 E k (k + 7) [.ref (k + 1), .int 0, .int 0, .ref (k + 2), .ref (k + 3), .ref (k + 4), .ref (k + 5), .null, .null, .null, .null]) (by decide) (by decide) (by decide) (zShp_lt (zP0_length hs) (by decide)) kIn_lt (fun cI cZ cO ad => (kIn_new (by omega) cI cZ cO ad).trans (zE_i (zP0_length hs) (zW0_z (zP0_length hs) (by decide) (by decide)) cI cZ cO ad)) (Nat.le_of_ble_eq_true rfl) (Nat.le_of_ble_eq_true rfl) dX0_init_52 zw164 ?_
  refine zR_put true 57 rfl (x := k + 6) (fs := [.ref (k + 1), .int 0, .int 0, .ref (k + 2), .ref (k + 3), .ref (k + 4), .ref (k + 5), .null, .null, .null, .null]) (E' := kIn 0 E k (k + 7) [.ref (k + 1), .int 0, .int 0, .ref (k + 2), .ref (k + 3), .ref (k + 4), .ref (k + 5), .ref (k + 6), .null, .null, .null]) 7 zC0 rfl rfl zw134 (by decide) rfl (Or.inr ⟨_, rfl⟩) (by omega) (Nat.le_of_ble_eq_true rfl) kIn_self kIn_ne (fun cI cZ cO ad => kIn_self cI cZ cO ad) dX0_init_54 ?_
  refine zR_aload_n 58 rfl 0 rfl dX0_init_57 ?_
  refine zR_bipush 60 rfl (12 : Int32) (by decide) dX0_init_58 ?_
  refine zR_newi 62 rfl 12 (E' := kIn 0 E k (k + 8) [.ref (k + 1), .int 0, .int 0, .ref (k + 2), .ref (k + 3), .ref (k + 4), .ref (k + 5), .ref (k + 6), .null, .null, .null]) (by decide) (by decide) (by decide) (zShp_lt (zP0_closing hs) (by decide)) kIn_lt (fun cI cZ cO ad => (kIn_new (by omega) cI cZ cO ad).trans (zE_i (zP0_closing hs) (zW0_z (zP0_closing hs) (by decide) (by decide)) cI cZ cO ad)) (Nat.le_of_ble_eq_true rfl) (Nat.le_of_ble_eq_true rfl) dX0_init_60 zw164 ?_
  refine zR_put true 65 rfl (x := k + 7) (fs := [.ref (k + 1), .int 0, .int 0, .ref (k + 2), .ref (k + 3), .ref (k + 4), .ref (k + 5), .ref (k + 6), .null, .null, .null]) (E' := kIn 0 E k (k + 8) [.ref (k + 1), .int 0, .int 0, .ref (k + 2), .ref (k + 3), .ref (k + 4), .ref (k + 5), .ref (k + 6), .ref (k + 7), .null, .null]) 8 zC0 rfl rfl zw136 (by decide) rfl (Or.inr ⟨_, rfl⟩) (by omega) (Nat.le_of_ble_eq_true rfl) kIn_self kIn_ne (fun cI cZ cO ad => kIn_self cI cZ cO ad) dX0_init_62 ?_
  refine zR_aload_n 66 rfl 0 rfl dX0_init_65 ?_
  refine zR_bipush 68 rfl (48 : Int32) (by decide) dX0_init_66 ?_
  refine zR_newi 70 rfl 48 (E' := kIn 0 E k (k + 9) [.ref (k + 1), .int 0, .int 0, .ref (k + 2), .ref (k + 3), .ref (k + 4), .ref (k + 5), .ref (k + 6), .ref (k + 7), .null, .null]) (by decide) (by decide) (by decide) (zShp_lt (zP0_flows hs) (by decide)) kIn_lt (fun cI cZ cO ad => (kIn_new (by omega) cI cZ cO ad).trans (zE_i (zP0_flows hs) (zW0_z (zP0_flows hs) (by decide) (by decide)) cI cZ cO ad)) (Nat.le_of_ble_eq_true rfl) (Nat.le_of_ble_eq_true rfl) dX0_init_68 zw164 ?_
  refine zR_put true 73 rfl (x := k + 8) (fs := [.ref (k + 1), .int 0, .int 0, .ref (k + 2), .ref (k + 3), .ref (k + 4), .ref (k + 5), .ref (k + 6), .ref (k + 7), .null, .null]) (E' := kIn 0 E k (k + 9) [.ref (k + 1), .int 0, .int 0, .ref (k + 2), .ref (k + 3), .ref (k + 4), .ref (k + 5), .ref (k + 6), .ref (k + 7), .ref (k + 8), .null]) 9 zC0 rfl rfl zw138 (by decide) rfl (Or.inr ⟨_, rfl⟩) (by omega) (Nat.le_of_ble_eq_true rfl) kIn_self kIn_ne (fun cI cZ cO ad => kIn_self cI cZ cO ad) dX0_init_70 ?_
  refine zR_aload_n 74 rfl 0 rfl dX0_init_73 ?_
  refine zR_bipush 76 rfl (30 : Int32) (by decide) dX0_init_74 ?_
  refine zR_newi 78 rfl 30 (E' := kIn 0 E k (k + 10) [.ref (k + 1), .int 0, .int 0, .ref (k + 2), .ref (k + 3), .ref (k + 4), .ref (k + 5), .ref (k + 6), .ref (k + 7), .ref (k + 8), .null]) (by decide) (by decide) (by decide) (zShp_lt (zP0_moves hs) (by decide)) kIn_lt (fun cI cZ cO ad => (kIn_new (by omega) cI cZ cO ad).trans (zE_i (zP0_moves hs) (zW0_z (zP0_moves hs) (by decide) (by decide)) cI cZ cO ad)) (Nat.le_of_ble_eq_true rfl) (Nat.le_of_ble_eq_true rfl) dX0_init_76 zw164 ?_
  refine zR_put true 81 rfl (x := k + 9) (fs := [.ref (k + 1), .int 0, .int 0, .ref (k + 2), .ref (k + 3), .ref (k + 4), .ref (k + 5), .ref (k + 6), .ref (k + 7), .ref (k + 8), .null]) (E' := kIn 0 E k (k + 10) [.ref (k + 1), .int 0, .int 0, .ref (k + 2), .ref (k + 3), .ref (k + 4), .ref (k + 5), .ref (k + 6), .ref (k + 7), .ref (k + 8), .ref (k + 9)]) 10 zC0 rfl rfl zw140 (by decide) rfl (Or.inr ⟨_, rfl⟩) (by omega) (Nat.le_of_ble_eq_true rfl) kIn_self kIn_ne (fun cI cZ cO ad => kIn_self cI cZ cO ad) dX0_init_78 ?_
  rw [← kIn_end (fs := [.ref (k + 1), .int 0, .int 0, .ref (k + 2), .ref (k + 3), .ref (k + 4), .ref (k + 5), .ref (k + 6), .ref (k + 7), .ref (k + 8), .ref (k + 9)]) (by omega) (fun cI cZ cO ad => by rw [zEnt_obj _ _ _ _ _ hs (by decide), zW0_z hs (by decide) (by decide)]; rfl)]
  exact zR_rf
abbrev gK1 : kMth := (yX1_init, cX1_init, 1, 1, 5, 7211)
theorem kHd1 : kHd yX1_init := ⟨by decide, by decide, by decide +kernel⟩
set_option maxHeartbeats 4000000 in
set_option maxRecDepth 100000 in
theorem mk1 (E : kE) : kMet gK1 220 (220 + 1) (kup E 220 (fun _ _ _ _ => .inr (1, [.null, .null, .null, .null, .int 0, .int 0, .null, .int 0]))) (220 + 6) (kFin E 220 (220 + 6)) := by
  have hs : zShp 220 = (1, 8) := rfl
  have hlt := zShp_lt hs (by decide)
  rw [kIn_start (fun _ => rfl)]
  refine kMet_of (cs2 := 5) (sl2 := 7211) (pc2 := 45) (ls2 := [(0, .ref 220)]) (by decide) rfl (by decide) dX1_init_45 (Nat.le_of_ble_eq_true rfl) (Nat.le_of_ble_eq_true rfl) ?_
  refine zR_aload_n 1 rfl 0 rfl dX1_init_0 ?_
  refine zR_objInit 4 rfl dX1_init_1 zw416 zw103 zw104 (by decide) (Nat.le_of_ble_eq_true rfl) ?_
  refine zR_aload_n 5 rfl 0 rfl dX1_init_4 ?_
  refine zR_iconst 6 rfl (4 : Int32) (by decide) dX1_init_5 ?_
  refine zR_newi 8 rfl 4 (E' := kIn 1 E 220 (220 + 2) [.null, .null, .null, .null, .int 0, .int 0, .null, .int 0]) (by decide) (by decide) (by decide) (zShp_lt (zP1_tens hs) (by decide)) kIn_lt (fun cI cZ cO ad => (kIn_new (by omega) cI cZ cO ad).trans (zE_i (zP1_tens hs) (zW0_z (zP1_tens hs) (by decide) (by decide)) cI cZ cO ad)) (Nat.le_of_ble_eq_true rfl) (Nat.le_of_ble_eq_true rfl) dX1_init_6 zw164 ?_
  refine zR_put true 11 rfl (x := 220 + 1) (fs := [.null, .null, .null, .null, .int 0, .int 0, .null, .int 0]) (E' := kIn 1 E 220 (220 + 2) [.ref (220 + 1), .null, .null, .null, .int 0, .int 0, .null, .int 0]) 0 zC1 rfl rfl zw417 (by decide) rfl (Or.inr ⟨_, rfl⟩) (by omega) (Nat.le_of_ble_eq_true rfl) kIn_self kIn_ne (fun cI cZ cO ad => kIn_self cI cZ cO ad) dX1_init_8 ?_
  refine zR_aload_n 12 rfl 0 rfl dX1_init_11 ?_
  refine zR_iconst 13 rfl (4 : Int32) (by decide) dX1_init_12 ?_
  refine zR_newi 15 rfl 4 (E' := kIn 1 E 220 (220 + 3) [.ref (220 + 1), .null, .null, .null, .int 0, .int 0, .null, .int 0]) (by decide) (by decide) (by decide) (zShp_lt (zP1_warm hs) (by decide)) kIn_lt (fun cI cZ cO ad => (kIn_new (by omega) cI cZ cO ad).trans (zE_i (zP1_warm hs) (zW0_z (zP1_warm hs) (by decide) (by decide)) cI cZ cO ad)) (Nat.le_of_ble_eq_true rfl) (Nat.le_of_ble_eq_true rfl) dX1_init_13 zw164 ?_
  refine zR_put true 18 rfl (x := 220 + 2) (fs := [.ref (220 + 1), .null, .null, .null, .int 0, .int 0, .null, .int 0]) (E' := kIn 1 E 220 (220 + 3) [.ref (220 + 1), .ref (220 + 2), .null, .null, .int 0, .int 0, .null, .int 0]) 1 zC1 rfl rfl zw418 (by decide) rfl (Or.inr ⟨_, rfl⟩) (by omega) (Nat.le_of_ble_eq_true rfl) kIn_self kIn_ne (fun cI cZ cO ad => kIn_self cI cZ cO ad) dX1_init_15 ?_
  refine zR_aload_n 19 rfl 0 rfl dX1_init_18 ?_
  refine zR_sipush 22 rfl (2401 : Int32) (by decide) dX1_init_19 ?_
  refine zR_newi 24 rfl 2401 (E' := kIn 1 E 220 (220 + 4) [.ref (220 + 1), .ref (220 + 2), .null, .null, .int 0, .int 0, .null, .int 0]) (by decide) (by decide) (by decide) (zShp_lt (show zShp (220 + 3) = (20, 2401) from rfl) (by decide)) kIn_lt (fun cI cZ cO ad => (kIn_new (by omega) cI cZ cO ad).trans (zE_i (show zShp (220 + 3) = (20, 2401) from rfl) (zW0_z (show zShp (220 + 3) = (20, 2401) from rfl) (by decide) (by decide)) cI cZ cO ad)) (Nat.le_of_ble_eq_true rfl) (Nat.le_of_ble_eq_true rfl) dX1_init_22 zw164 ?_
  refine zR_put false 27 rfl (x := 220 + 3) (fs := [.ref (220 + 1), .ref (220 + 2), .null, .null, .int 0, .int 0, .null, .int 0]) (E' := kIn 1 E 220 (220 + 4) [.ref (220 + 1), .ref (220 + 2), .ref (220 + 3), .null, .int 0, .int 0, .null, .int 0]) 2 zC1 rfl rfl zw419 (by decide) rfl (Or.inr ⟨_, rfl⟩) (by omega) (Nat.le_of_ble_eq_true rfl) kIn_self kIn_ne (fun cI cZ cO ad => kIn_self cI cZ cO ad) dX1_init_24 ?_
  refine zR_aload_n 28 rfl 0 rfl dX1_init_27 ?_
  refine zR_sipush 31 rfl (2401 : Int32) (by decide) dX1_init_28 ?_
  refine zR_newi 33 rfl 2401 (E' := kIn 1 E 220 (220 + 5) [.ref (220 + 1), .ref (220 + 2), .ref (220 + 3), .null, .int 0, .int 0, .null, .int 0]) (by decide) (by decide) (by decide) (zShp_lt (show zShp (220 + 4) = (20, 2401) from rfl) (by decide)) kIn_lt (fun cI cZ cO ad => (kIn_new (by omega) cI cZ cO ad).trans (zE_i (show zShp (220 + 4) = (20, 2401) from rfl) (zW0_z (show zShp (220 + 4) = (20, 2401) from rfl) (by decide) (by decide)) cI cZ cO ad)) (Nat.le_of_ble_eq_true rfl) (Nat.le_of_ble_eq_true rfl) dX1_init_31 zw164 ?_
  refine zR_put false 36 rfl (x := 220 + 4) (fs := [.ref (220 + 1), .ref (220 + 2), .ref (220 + 3), .null, .int 0, .int 0, .null, .int 0]) (E' := kIn 1 E 220 (220 + 5) [.ref (220 + 1), .ref (220 + 2), .ref (220 + 3), .ref (220 + 4), .int 0, .int 0, .null, .int 0]) 3 zC1 rfl rfl zw420 (by decide) rfl (Or.inr ⟨_, rfl⟩) (by omega) (Nat.le_of_ble_eq_true rfl) kIn_self kIn_ne (fun cI cZ cO ad => kIn_self cI cZ cO ad) dX1_init_33 ?_
  refine zR_aload_n 37 rfl 0 rfl dX1_init_36 ?_
  refine zR_sipush 40 rfl (2401 : Int32) (by decide) dX1_init_37 ?_
  refine zR_newi 42 rfl 2401 (E' := kIn 1 E 220 (220 + 6) [.ref (220 + 1), .ref (220 + 2), .ref (220 + 3), .ref (220 + 4), .int 0, .int 0, .null, .int 0]) (by decide) (by decide) (by decide) (zShp_lt (zP1_found hs) (by decide)) kIn_lt (fun cI cZ cO ad => (kIn_new (by omega) cI cZ cO ad).trans (zE_i (zP1_found hs) (zW0_z (zP1_found hs) (by decide) (by decide)) cI cZ cO ad)) (Nat.le_of_ble_eq_true rfl) (Nat.le_of_ble_eq_true rfl) dX1_init_40 zw164 ?_
  refine zR_put true 45 rfl (x := 220 + 5) (fs := [.ref (220 + 1), .ref (220 + 2), .ref (220 + 3), .ref (220 + 4), .int 0, .int 0, .null, .int 0]) (E' := kIn 1 E 220 (220 + 6) [.ref (220 + 1), .ref (220 + 2), .ref (220 + 3), .ref (220 + 4), .int 0, .int 0, .ref (220 + 5), .int 0]) 6 zC1 rfl rfl zw423 (by decide) rfl (Or.inr ⟨_, rfl⟩) (by omega) (Nat.le_of_ble_eq_true rfl) kIn_self kIn_ne (fun cI cZ cO ad => kIn_self cI cZ cO ad) dX1_init_42 ?_
  rw [← kIn_end (fs := [.ref (220 + 1), .ref (220 + 2), .ref (220 + 3), .ref (220 + 4), .int 0, .int 0, .ref (220 + 5), .int 0]) (by omega) (fun cI cZ cO ad => by rw [zEnt_obj _ _ _ _ _ hs (by decide)]; rfl)]
  exact zR_rf
abbrev gK2 : kMth := (yX2_init, cX2_init, 1, 1, 5, 152)
theorem kHd2 : kHd yX2_init := ⟨by decide, by decide, by decide +kernel⟩
set_option maxHeartbeats 4000000 in
set_option maxRecDepth 100000 in
theorem mk2 {k : Nat} (hs : zShp k = (2, 8)) (E : kE) : kMet gK2 k (k + 1) (kup E k (fun _ _ _ _ => .inr (2, [.int 0, .int 0, .null, .null, .null, .null, .int 0, .null]))) (k + 6) (kFin E k (k + 6)) := by
  have hlt := zShp_lt hs (by decide)
  rw [kIn_start (fun _ => rfl)]
  refine kMet_of (cs2 := 5) (sl2 := 152) (pc2 := 44) (ls2 := [(0, .ref k)]) (by decide) rfl (by decide) dX2_init_44 (Nat.le_of_ble_eq_true rfl) (Nat.le_of_ble_eq_true rfl) ?_
  refine zR_aload_n 1 rfl 0 rfl dX2_init_0 ?_
  refine zR_objInit 4 rfl dX2_init_1 zw193 zw103 zw104 (by decide) (Nat.le_of_ble_eq_true rfl) ?_
  refine zR_aload_n 5 rfl 0 rfl dX2_init_4 ?_
  refine zR_bipush 7 rfl (8 : Int32) (by decide) dX2_init_5 ?_
  refine zR_newi 9 rfl 8 (E' := kIn 2 E k (k + 2) [.int 0, .int 0, .null, .null, .null, .null, .int 0, .null]) (by decide) (by decide) (by decide) (zShp_lt (zP2_word hs) (by decide)) kIn_lt (fun cI cZ cO ad => (kIn_new (by omega) cI cZ cO ad).trans (zE_i (zP2_word hs) (zW0_z (zP2_word hs) (by decide) (by decide)) cI cZ cO ad)) (Nat.le_of_ble_eq_true rfl) (Nat.le_of_ble_eq_true rfl) dX2_init_7 zw164 ?_
  refine zR_put true 12 rfl (x := k + 1) (fs := [.int 0, .int 0, .null, .null, .null, .null, .int 0, .null]) (E' := kIn 2 E k (k + 2) [.int 0, .int 0, .ref (k + 1), .null, .null, .null, .int 0, .null]) 2 zC2 rfl rfl zw197 (by decide) rfl (Or.inr ⟨_, rfl⟩) (by omega) (Nat.le_of_ble_eq_true rfl) kIn_self kIn_ne (fun cI cZ cO ad => kIn_self cI cZ cO ad) dX2_init_9 ?_
  refine zR_aload_n 13 rfl 0 rfl dX2_init_12 ?_
  refine zR_bipush 15 rfl (8 : Int32) (by decide) dX2_init_13 ?_
  refine zR_newi 17 rfl 8 (E' := kIn 2 E k (k + 3) [.int 0, .int 0, .ref (k + 1), .null, .null, .null, .int 0, .null]) (by decide) (by decide) (by decide) (zShp_lt (zP2_number hs) (by decide)) kIn_lt (fun cI cZ cO ad => (kIn_new (by omega) cI cZ cO ad).trans (zE_i (zP2_number hs) (zW0_z (zP2_number hs) (by decide) (by decide)) cI cZ cO ad)) (Nat.le_of_ble_eq_true rfl) (Nat.le_of_ble_eq_true rfl) dX2_init_15 zw164 ?_
  refine zR_put true 20 rfl (x := k + 2) (fs := [.int 0, .int 0, .ref (k + 1), .null, .null, .null, .int 0, .null]) (E' := kIn 2 E k (k + 3) [.int 0, .int 0, .ref (k + 1), .ref (k + 2), .null, .null, .int 0, .null]) 3 zC2 rfl rfl zw198 (by decide) rfl (Or.inr ⟨_, rfl⟩) (by omega) (Nat.le_of_ble_eq_true rfl) kIn_self kIn_ne (fun cI cZ cO ad => kIn_self cI cZ cO ad) dX2_init_17 ?_
  refine zR_aload_n 21 rfl 0 rfl dX2_init_20 ?_
  refine zR_bipush 23 rfl (8 : Int32) (by decide) dX2_init_21 ?_
  refine zR_newi 25 rfl 8 (E' := kIn 2 E k (k + 4) [.int 0, .int 0, .ref (k + 1), .ref (k + 2), .null, .null, .int 0, .null]) (by decide) (by decide) (by decide) (zShp_lt (zP2_first hs) (by decide)) kIn_lt (fun cI cZ cO ad => (kIn_new (by omega) cI cZ cO ad).trans (zE_i (zP2_first hs) (zW0_z (zP2_first hs) (by decide) (by decide)) cI cZ cO ad)) (Nat.le_of_ble_eq_true rfl) (Nat.le_of_ble_eq_true rfl) dX2_init_23 zw164 ?_
  refine zR_put true 28 rfl (x := k + 3) (fs := [.int 0, .int 0, .ref (k + 1), .ref (k + 2), .null, .null, .int 0, .null]) (E' := kIn 2 E k (k + 4) [.int 0, .int 0, .ref (k + 1), .ref (k + 2), .ref (k + 3), .null, .int 0, .null]) 4 zC2 rfl rfl zw200 (by decide) rfl (Or.inr ⟨_, rfl⟩) (by omega) (Nat.le_of_ble_eq_true rfl) kIn_self kIn_ne (fun cI cZ cO ad => kIn_self cI cZ cO ad) dX2_init_25 ?_
  refine zR_aload_n 29 rfl 0 rfl dX2_init_28 ?_
  refine zR_bipush 31 rfl (8 : Int32) (by decide) dX2_init_29 ?_
  refine zR_newi 33 rfl 8 (E' := kIn 2 E k (k + 5) [.int 0, .int 0, .ref (k + 1), .ref (k + 2), .ref (k + 3), .null, .int 0, .null]) (by decide) (by decide) (by decide) (zShp_lt (zP2_end hs) (by decide)) kIn_lt (fun cI cZ cO ad => (kIn_new (by omega) cI cZ cO ad).trans (zE_i (zP2_end hs) (zW0_z (zP2_end hs) (by decide) (by decide)) cI cZ cO ad)) (Nat.le_of_ble_eq_true rfl) (Nat.le_of_ble_eq_true rfl) dX2_init_31 zw164 ?_
  refine zR_put true 36 rfl (x := k + 4) (fs := [.int 0, .int 0, .ref (k + 1), .ref (k + 2), .ref (k + 3), .null, .int 0, .null]) (E' := kIn 2 E k (k + 5) [.int 0, .int 0, .ref (k + 1), .ref (k + 2), .ref (k + 3), .ref (k + 4), .int 0, .null]) 5 zC2 rfl rfl zw201 (by decide) rfl (Or.inr ⟨_, rfl⟩) (by omega) (Nat.le_of_ble_eq_true rfl) kIn_self kIn_ne (fun cI cZ cO ad => kIn_self cI cZ cO ad) dX2_init_33 ?_
  refine zR_aload_n 37 rfl 0 rfl dX2_init_36 ?_
  refine zR_bipush 39 rfl (120 : Int32) (by decide) dX2_init_37 ?_
  refine zR_newi 41 rfl 120 (E' := kIn 2 E k (k + 6) [.int 0, .int 0, .ref (k + 1), .ref (k + 2), .ref (k + 3), .ref (k + 4), .int 0, .null]) (by decide) (by decide) (by decide) (zShp_lt (zP2_steps hs) (by decide)) kIn_lt (fun cI cZ cO ad => (kIn_new (by omega) cI cZ cO ad).trans (zE_i (zP2_steps hs) (zW0_z (zP2_steps hs) (by decide) (by decide)) cI cZ cO ad)) (Nat.le_of_ble_eq_true rfl) (Nat.le_of_ble_eq_true rfl) dX2_init_39 zw164 ?_
  refine zR_put true 44 rfl (x := k + 5) (fs := [.int 0, .int 0, .ref (k + 1), .ref (k + 2), .ref (k + 3), .ref (k + 4), .int 0, .null]) (E' := kIn 2 E k (k + 6) [.int 0, .int 0, .ref (k + 1), .ref (k + 2), .ref (k + 3), .ref (k + 4), .int 0, .ref (k + 5)]) 7 zC2 rfl rfl zw204 (by decide) rfl (Or.inr ⟨_, rfl⟩) (by omega) (Nat.le_of_ble_eq_true rfl) kIn_self kIn_ne (fun cI cZ cO ad => kIn_self cI cZ cO ad) dX2_init_41 ?_
  rw [← kIn_end (fs := [.int 0, .int 0, .ref (k + 1), .ref (k + 2), .ref (k + 3), .ref (k + 4), .int 0, .ref (k + 5)]) (by omega) (fun cI cZ cO ad => by rw [zEnt_obj _ _ _ _ _ hs (by decide), zW0_z hs (by decide) (by decide)]; rfl)]
  exact zR_rf
abbrev gK4 : kMth := (yX4_init, cX4_init, 1, 1, 0, 0)
theorem kHd4 : kHd yX4_init := ⟨by decide, by decide, by decide +kernel⟩
set_option maxHeartbeats 4000000 in
set_option maxRecDepth 100000 in
theorem mk4 {k : Nat} (hs : zShp k = (4, 4)) (E : kE) : kMet gK4 k (k + 1) (kup E k (fun _ _ _ _ => .inr (4, [.null, .null, .int 0, .int 0]))) (k + 1) (kFin E k (k + 1)) := by
  have hlt := zShp_lt hs (by decide)
  rw [kIn_start (fun _ => rfl)]
  refine kMet_of (cs2 := 0) (sl2 := 0) (pc2 := 4) (ls2 := [(0, .ref k)]) (by decide) rfl (by decide) dX4_init_4 (Nat.le_of_ble_eq_true rfl) (Nat.le_of_ble_eq_true rfl) ?_
  refine zR_aload_n 1 rfl 0 rfl dX4_init_0 ?_
  refine zR_objInit 4 rfl dX4_init_1 zw376 zw103 zw104 (by decide) (Nat.le_of_ble_eq_true rfl) ?_
  rw [← kIn_end (fs := [.null, .null, .int 0, .int 0]) (by omega) (fun cI cZ cO ad => by rw [zEnt_obj _ _ _ _ _ hs (by decide), zW0_z hs (by decide) (by decide)]; rfl)]
  exact zR_rf
abbrev gK5 : kMth := (yX5_init, cX5_init, 1, 1, 2, 16)
theorem kHd5 : kHd yX5_init := ⟨by decide, by decide, by decide +kernel⟩
set_option maxHeartbeats 4000000 in
set_option maxRecDepth 100000 in
theorem mk5 {k : Nat} (hs : zShp k = (5, 3)) (E : kE) : kMet gK5 k (k + 1) (kup E k (fun _ _ _ _ => .inr (5, [.int 0, .null, .null]))) (k + 3) (kFin E k (k + 3)) := by
  have hlt := zShp_lt hs (by decide)
  rw [kIn_start (fun _ => rfl)]
  refine kMet_of (cs2 := 2) (sl2 := 16) (pc2 := 20) (ls2 := [(0, .ref k)]) (by decide) rfl (by decide) dX5_init_20 (Nat.le_of_ble_eq_true rfl) (Nat.le_of_ble_eq_true rfl) ?_
  refine zR_aload_n 1 rfl 0 rfl dX5_init_0 ?_
  refine zR_objInit 4 rfl dX5_init_1 zw395 zw103 zw104 (by decide) (Nat.le_of_ble_eq_true rfl) ?_
  refine zR_aload_n 5 rfl 0 rfl dX5_init_4 ?_
  refine zR_bipush 7 rfl (8 : Int32) (by decide) dX5_init_5 ?_
  refine zR_newi 9 rfl 8 (E' := kIn 5 E k (k + 2) [.int 0, .null, .null]) (by decide) (by decide) (by decide) (zShp_lt (zP5_rank hs) (by decide)) kIn_lt (fun cI cZ cO ad => (kIn_new (by omega) cI cZ cO ad).trans (zE_i (zP5_rank hs) (zW0_z (zP5_rank hs) (by decide) (by decide)) cI cZ cO ad)) (Nat.le_of_ble_eq_true rfl) (Nat.le_of_ble_eq_true rfl) dX5_init_7 zw164 ?_
  refine zR_put true 12 rfl (x := k + 1) (fs := [.int 0, .null, .null]) (E' := kIn 5 E k (k + 2) [.int 0, .ref (k + 1), .null]) 1 zC5 rfl rfl zw399 (by decide) rfl (Or.inr ⟨_, rfl⟩) (by omega) (Nat.le_of_ble_eq_true rfl) kIn_self kIn_ne (fun cI cZ cO ad => kIn_self cI cZ cO ad) dX5_init_9 ?_
  refine zR_aload_n 13 rfl 0 rfl dX5_init_12 ?_
  refine zR_bipush 15 rfl (8 : Int32) (by decide) dX5_init_13 ?_
  refine zR_newi 17 rfl 8 (E' := kIn 5 E k (k + 3) [.int 0, .ref (k + 1), .null]) (by decide) (by decide) (by decide) (zShp_lt (zP5_order hs) (by decide)) kIn_lt (fun cI cZ cO ad => (kIn_new (by omega) cI cZ cO ad).trans (zE_i (zP5_order hs) (zW0_z (zP5_order hs) (by decide) (by decide)) cI cZ cO ad)) (Nat.le_of_ble_eq_true rfl) (Nat.le_of_ble_eq_true rfl) dX5_init_15 zw164 ?_
  refine zR_put true 20 rfl (x := k + 2) (fs := [.int 0, .ref (k + 1), .null]) (E' := kIn 5 E k (k + 3) [.int 0, .ref (k + 1), .ref (k + 2)]) 2 zC5 rfl rfl zw401 (by decide) rfl (Or.inr ⟨_, rfl⟩) (by omega) (Nat.le_of_ble_eq_true rfl) kIn_self kIn_ne (fun cI cZ cO ad => kIn_self cI cZ cO ad) dX5_init_17 ?_
  rw [← kIn_end (fs := [.int 0, .ref (k + 1), .ref (k + 2)]) (by omega) (fun cI cZ cO ad => by rw [zEnt_obj _ _ _ _ _ hs (by decide), zW0_z hs (by decide) (by decide)]; rfl)]
  exact zR_rf
abbrev gK6 : kMth := (yX6_init, cX6_init, 1, 1, 8, 294)
theorem kHd6 : kHd yX6_init := ⟨by decide, by decide, by decide +kernel⟩
set_option maxHeartbeats 4000000 in
set_option maxRecDepth 100000 in
theorem mk6 {k : Nat} (hs : zShp k = (6, 12)) (E : kE) : kMet gK6 k (k + 1) (kup E k (fun _ _ _ _ => .inr (6, [.int 0, .null, .null, .null, .null, .int 0, .null, .int 0, .null, .int 0, .null, .null]))) (k + 9) (kFin E k (k + 9)) := by
  have hlt := zShp_lt hs (by decide)
  rw [kIn_start (fun _ => rfl)]
  refine kMet_of (cs2 := 8) (sl2 := 294) (pc2 := 68) (ls2 := [(0, .ref k)]) (by decide) rfl (by decide) dX6_init_68 (Nat.le_of_ble_eq_true rfl) (Nat.le_of_ble_eq_true rfl) ?_
  refine zR_aload_n 1 rfl 0 rfl dX6_init_0 ?_
  refine zR_objInit 4 rfl dX6_init_1 zw296 zw103 zw104 (by decide) (Nat.le_of_ble_eq_true rfl) ?_
  refine zR_aload_n 5 rfl 0 rfl dX6_init_4 ?_
  refine zR_bipush 7 rfl (60 : Int32) (by decide) dX6_init_5 ?_
  refine zR_newi 9 rfl 60 (E' := kIn 6 E k (k + 2) [.int 0, .null, .null, .null, .null, .int 0, .null, .int 0, .null, .int 0, .null, .null]) (by decide) (by decide) (by decide) (zShp_lt (zP6_lookTap hs) (by decide)) kIn_lt (fun cI cZ cO ad => (kIn_new (by omega) cI cZ cO ad).trans (zE_i (zP6_lookTap hs) (zW0_z (zP6_lookTap hs) (by decide) (by decide)) cI cZ cO ad)) (Nat.le_of_ble_eq_true rfl) (Nat.le_of_ble_eq_true rfl) dX6_init_7 zw164 ?_
  refine zR_put true 12 rfl (x := k + 1) (fs := [.int 0, .null, .null, .null, .null, .int 0, .null, .int 0, .null, .int 0, .null, .null]) (E' := kIn 6 E k (k + 2) [.int 0, .ref (k + 1), .null, .null, .null, .int 0, .null, .int 0, .null, .int 0, .null, .null]) 1 zC6 rfl rfl zw299 (by decide) rfl (Or.inr ⟨_, rfl⟩) (by omega) (Nat.le_of_ble_eq_true rfl) kIn_self kIn_ne (fun cI cZ cO ad => kIn_self cI cZ cO ad) dX6_init_9 ?_
  refine zR_aload_n 13 rfl 0 rfl dX6_init_12 ?_
  refine zR_bipush 15 rfl (60 : Int32) (by decide) dX6_init_13 ?_
  refine zR_newi 17 rfl 60 (E' := kIn 6 E k (k + 3) [.int 0, .ref (k + 1), .null, .null, .null, .int 0, .null, .int 0, .null, .int 0, .null, .null]) (by decide) (by decide) (by decide) (zShp_lt (zP6_lookDay hs) (by decide)) kIn_lt (fun cI cZ cO ad => (kIn_new (by omega) cI cZ cO ad).trans (zE_i (zP6_lookDay hs) (zW0_z (zP6_lookDay hs) (by decide) (by decide)) cI cZ cO ad)) (Nat.le_of_ble_eq_true rfl) (Nat.le_of_ble_eq_true rfl) dX6_init_15 zw164 ?_
  refine zR_put true 20 rfl (x := k + 2) (fs := [.int 0, .ref (k + 1), .null, .null, .null, .int 0, .null, .int 0, .null, .int 0, .null, .null]) (E' := kIn 6 E k (k + 3) [.int 0, .ref (k + 1), .ref (k + 2), .null, .null, .int 0, .null, .int 0, .null, .int 0, .null, .null]) 2 zC6 rfl rfl zw301 (by decide) rfl (Or.inr ⟨_, rfl⟩) (by omega) (Nat.le_of_ble_eq_true rfl) kIn_self kIn_ne (fun cI cZ cO ad => kIn_self cI cZ cO ad) dX6_init_17 ?_
  refine zR_aload_n 21 rfl 0 rfl dX6_init_20 ?_
  refine zR_bipush 23 rfl (60 : Int32) (by decide) dX6_init_21 ?_
  refine zR_newi 25 rfl 60 (E' := kIn 6 E k (k + 4) [.int 0, .ref (k + 1), .ref (k + 2), .null, .null, .int 0, .null, .int 0, .null, .int 0, .null, .null]) (by decide) (by decide) (by decide) (zShp_lt (zP6_lookGallons hs) (by decide)) kIn_lt (fun cI cZ cO ad => (kIn_new (by omega) cI cZ cO ad).trans (zE_i (zP6_lookGallons hs) (zW0_z (zP6_lookGallons hs) (by decide) (by decide)) cI cZ cO ad)) (Nat.le_of_ble_eq_true rfl) (Nat.le_of_ble_eq_true rfl) dX6_init_23 zw164 ?_
  refine zR_put true 28 rfl (x := k + 3) (fs := [.int 0, .ref (k + 1), .ref (k + 2), .null, .null, .int 0, .null, .int 0, .null, .int 0, .null, .null]) (E' := kIn 6 E k (k + 4) [.int 0, .ref (k + 1), .ref (k + 2), .ref (k + 3), .null, .int 0, .null, .int 0, .null, .int 0, .null, .null]) 3 zC6 rfl rfl zw303 (by decide) rfl (Or.inr ⟨_, rfl⟩) (by omega) (Nat.le_of_ble_eq_true rfl) kIn_self kIn_ne (fun cI cZ cO ad => kIn_self cI cZ cO ad) dX6_init_25 ?_
  refine zR_aload_n 29 rfl 0 rfl dX6_init_28 ?_
  refine zR_bipush 31 rfl (60 : Int32) (by decide) dX6_init_29 ?_
  refine zR_newi 33 rfl 60 (E' := kIn 6 E k (k + 5) [.int 0, .ref (k + 1), .ref (k + 2), .ref (k + 3), .null, .int 0, .null, .int 0, .null, .int 0, .null, .null]) (by decide) (by decide) (by decide) (zShp_lt (zP6_lookHeat hs) (by decide)) kIn_lt (fun cI cZ cO ad => (kIn_new (by omega) cI cZ cO ad).trans (zE_i (zP6_lookHeat hs) (zW0_z (zP6_lookHeat hs) (by decide) (by decide)) cI cZ cO ad)) (Nat.le_of_ble_eq_true rfl) (Nat.le_of_ble_eq_true rfl) dX6_init_31 zw164 ?_
  refine zR_put true 36 rfl (x := k + 4) (fs := [.int 0, .ref (k + 1), .ref (k + 2), .ref (k + 3), .null, .int 0, .null, .int 0, .null, .int 0, .null, .null]) (E' := kIn 6 E k (k + 5) [.int 0, .ref (k + 1), .ref (k + 2), .ref (k + 3), .ref (k + 4), .int 0, .null, .int 0, .null, .int 0, .null, .null]) 4 zC6 rfl rfl zw305 (by decide) rfl (Or.inr ⟨_, rfl⟩) (by omega) (Nat.le_of_ble_eq_true rfl) kIn_self kIn_ne (fun cI cZ cO ad => kIn_self cI cZ cO ad) dX6_init_33 ?_
  refine zR_aload_n 37 rfl 0 rfl dX6_init_36 ?_
  refine zR_bipush 39 rfl (12 : Int32) (by decide) dX6_init_37 ?_
  refine zR_newi 41 rfl 12 (E' := kIn 6 E k (k + 6) [.int 0, .ref (k + 1), .ref (k + 2), .ref (k + 3), .ref (k + 4), .int 0, .null, .int 0, .null, .int 0, .null, .null]) (by decide) (by decide) (by decide) (zShp_lt (zP6_dropOf hs) (by decide)) kIn_lt (fun cI cZ cO ad => (kIn_new (by omega) cI cZ cO ad).trans (zE_i (zP6_dropOf hs) (zW0_z (zP6_dropOf hs) (by decide) (by decide)) cI cZ cO ad)) (Nat.le_of_ble_eq_true rfl) (Nat.le_of_ble_eq_true rfl) dX6_init_39 zw164 ?_
  refine zR_put true 44 rfl (x := k + 5) (fs := [.int 0, .ref (k + 1), .ref (k + 2), .ref (k + 3), .ref (k + 4), .int 0, .null, .int 0, .null, .int 0, .null, .null]) (E' := kIn 6 E k (k + 6) [.int 0, .ref (k + 1), .ref (k + 2), .ref (k + 3), .ref (k + 4), .int 0, .ref (k + 5), .int 0, .null, .int 0, .null, .null]) 6 zC6 rfl rfl zw308 (by decide) rfl (Or.inr ⟨_, rfl⟩) (by omega) (Nat.le_of_ble_eq_true rfl) kIn_self kIn_ne (fun cI cZ cO ad => kIn_self cI cZ cO ad) dX6_init_41 ?_
  refine zR_aload_n 45 rfl 0 rfl dX6_init_44 ?_
  refine zR_bipush 47 rfl (30 : Int32) (by decide) dX6_init_45 ?_
  refine zR_newi 49 rfl 30 (E' := kIn 6 E k (k + 7) [.int 0, .ref (k + 1), .ref (k + 2), .ref (k + 3), .ref (k + 4), .int 0, .ref (k + 5), .int 0, .null, .int 0, .null, .null]) (by decide) (by decide) (by decide) (zShp_lt (zP6_changeOf hs) (by decide)) kIn_lt (fun cI cZ cO ad => (kIn_new (by omega) cI cZ cO ad).trans (zE_i (zP6_changeOf hs) (zW0_z (zP6_changeOf hs) (by decide) (by decide)) cI cZ cO ad)) (Nat.le_of_ble_eq_true rfl) (Nat.le_of_ble_eq_true rfl) dX6_init_47 zw164 ?_
  refine zR_put true 52 rfl (x := k + 6) (fs := [.int 0, .ref (k + 1), .ref (k + 2), .ref (k + 3), .ref (k + 4), .int 0, .ref (k + 5), .int 0, .null, .int 0, .null, .null]) (E' := kIn 6 E k (k + 7) [.int 0, .ref (k + 1), .ref (k + 2), .ref (k + 3), .ref (k + 4), .int 0, .ref (k + 5), .int 0, .ref (k + 6), .int 0, .null, .null]) 8 zC6 rfl rfl zw311 (by decide) rfl (Or.inr ⟨_, rfl⟩) (by omega) (Nat.le_of_ble_eq_true rfl) kIn_self kIn_ne (fun cI cZ cO ad => kIn_self cI cZ cO ad) dX6_init_49 ?_
  refine zR_aload_n 53 rfl 0 rfl dX6_init_52 ?_
  refine zR_bipush 55 rfl (6 : Int32) (by decide) dX6_init_53 ?_
  refine zR_newi 57 rfl 6 (E' := kIn 6 E k (k + 8) [.int 0, .ref (k + 1), .ref (k + 2), .ref (k + 3), .ref (k + 4), .int 0, .ref (k + 5), .int 0, .ref (k + 6), .int 0, .null, .null]) (by decide) (by decide) (by decide) (zShp_lt (zP6_pushCell hs) (by decide)) kIn_lt (fun cI cZ cO ad => (kIn_new (by omega) cI cZ cO ad).trans (zE_i (zP6_pushCell hs) (zW0_z (zP6_pushCell hs) (by decide) (by decide)) cI cZ cO ad)) (Nat.le_of_ble_eq_true rfl) (Nat.le_of_ble_eq_true rfl) dX6_init_55 zw164 ?_
  refine zR_put true 60 rfl (x := k + 7) (fs := [.int 0, .ref (k + 1), .ref (k + 2), .ref (k + 3), .ref (k + 4), .int 0, .ref (k + 5), .int 0, .ref (k + 6), .int 0, .null, .null]) (E' := kIn 6 E k (k + 8) [.int 0, .ref (k + 1), .ref (k + 2), .ref (k + 3), .ref (k + 4), .int 0, .ref (k + 5), .int 0, .ref (k + 6), .int 0, .ref (k + 7), .null]) 10 zC6 rfl rfl zw315 (by decide) rfl (Or.inr ⟨_, rfl⟩) (by omega) (Nat.le_of_ble_eq_true rfl) kIn_self kIn_ne (fun cI cZ cO ad => kIn_self cI cZ cO ad) dX6_init_57 ?_
  refine zR_aload_n 61 rfl 0 rfl dX6_init_60 ?_
  refine zR_bipush 63 rfl (6 : Int32) (by decide) dX6_init_61 ?_
  refine zR_newi 65 rfl 6 (E' := kIn 6 E k (k + 9) [.int 0, .ref (k + 1), .ref (k + 2), .ref (k + 3), .ref (k + 4), .int 0, .ref (k + 5), .int 0, .ref (k + 6), .int 0, .ref (k + 7), .null]) (by decide) (by decide) (by decide) (zShp_lt (zP6_pushStrength hs) (by decide)) kIn_lt (fun cI cZ cO ad => (kIn_new (by omega) cI cZ cO ad).trans (zE_i (zP6_pushStrength hs) (zW0_z (zP6_pushStrength hs) (by decide) (by decide)) cI cZ cO ad)) (Nat.le_of_ble_eq_true rfl) (Nat.le_of_ble_eq_true rfl) dX6_init_63 zw164 ?_
  refine zR_put true 68 rfl (x := k + 8) (fs := [.int 0, .ref (k + 1), .ref (k + 2), .ref (k + 3), .ref (k + 4), .int 0, .ref (k + 5), .int 0, .ref (k + 6), .int 0, .ref (k + 7), .null]) (E' := kIn 6 E k (k + 9) [.int 0, .ref (k + 1), .ref (k + 2), .ref (k + 3), .ref (k + 4), .int 0, .ref (k + 5), .int 0, .ref (k + 6), .int 0, .ref (k + 7), .ref (k + 8)]) 11 zC6 rfl rfl zw317 (by decide) rfl (Or.inr ⟨_, rfl⟩) (by omega) (Nat.le_of_ble_eq_true rfl) kIn_self kIn_ne (fun cI cZ cO ad => kIn_self cI cZ cO ad) dX6_init_65 ?_
  rw [← kIn_end (fs := [.int 0, .ref (k + 1), .ref (k + 2), .ref (k + 3), .ref (k + 4), .int 0, .ref (k + 5), .int 0, .ref (k + 6), .int 0, .ref (k + 7), .ref (k + 8)]) (by omega) (fun cI cZ cO ad => by rw [zEnt_obj _ _ _ _ _ hs (by decide), zW0_z hs (by decide) (by decide)]; rfl)]
  exact zR_rf
abbrev gK7 : kMth := (yX7_init, cX7_init, 1, 1, 2, 54)
theorem kHd7 : kHd yX7_init := ⟨by decide, by decide, by decide +kernel⟩
set_option maxHeartbeats 4000000 in
set_option maxRecDepth 100000 in
theorem mk7 {k : Nat} (hs : zShp k = (7, 5)) (E : kE) : kMet gK7 k (k + 1) (kup E k (fun _ _ _ _ => .inr (7, [.int 0, .int 0, .int 0, .null, .null]))) (k + 3) (kFin E k (k + 3)) := by
  have hlt := zShp_lt hs (by decide)
  rw [kIn_start (fun _ => rfl)]
  refine kMet_of (cs2 := 2) (sl2 := 54) (pc2 := 20) (ls2 := [(0, .ref k)]) (by decide) rfl (by decide) dX7_init_20 (Nat.le_of_ble_eq_true rfl) (Nat.le_of_ble_eq_true rfl) ?_
  refine zR_aload_n 1 rfl 0 rfl dX7_init_0 ?_
  refine zR_objInit 4 rfl dX7_init_1 zw447 zw103 zw104 (by decide) (Nat.le_of_ble_eq_true rfl) ?_
  refine zR_aload_n 5 rfl 0 rfl dX7_init_4 ?_
  refine zR_bipush 7 rfl (6 : Int32) (by decide) dX7_init_5 ?_
  refine zR_newi 9 rfl 6 (E' := kIn 7 E k (k + 2) [.int 0, .int 0, .int 0, .null, .null]) (by decide) (by decide) (by decide) (zShp_lt (zP7_due hs) (by decide)) kIn_lt (fun cI cZ cO ad => (kIn_new (by omega) cI cZ cO ad).trans (zE_i (zP7_due hs) (zW0_z (zP7_due hs) (by decide) (by decide)) cI cZ cO ad)) (Nat.le_of_ble_eq_true rfl) (Nat.le_of_ble_eq_true rfl) dX7_init_7 zw164 ?_
  refine zR_put true 12 rfl (x := k + 1) (fs := [.int 0, .int 0, .int 0, .null, .null]) (E' := kIn 7 E k (k + 2) [.int 0, .int 0, .int 0, .ref (k + 1), .null]) 3 zC7 rfl rfl zw452 (by decide) rfl (Or.inr ⟨_, rfl⟩) (by omega) (Nat.le_of_ble_eq_true rfl) kIn_self kIn_ne (fun cI cZ cO ad => kIn_self cI cZ cO ad) dX7_init_9 ?_
  refine zR_aload_n 13 rfl 0 rfl dX7_init_12 ?_
  refine zR_bipush 15 rfl (48 : Int32) (by decide) dX7_init_13 ?_
  refine zR_newi 17 rfl 48 (E' := kIn 7 E k (k + 3) [.int 0, .int 0, .int 0, .ref (k + 1), .null]) (by decide) (by decide) (by decide) (zShp_lt (zP7_share hs) (by decide)) kIn_lt (fun cI cZ cO ad => (kIn_new (by omega) cI cZ cO ad).trans (zE_i (zP7_share hs) (zW0_z (zP7_share hs) (by decide) (by decide)) cI cZ cO ad)) (Nat.le_of_ble_eq_true rfl) (Nat.le_of_ble_eq_true rfl) dX7_init_15 zw164 ?_
  refine zR_put true 20 rfl (x := k + 2) (fs := [.int 0, .int 0, .int 0, .ref (k + 1), .null]) (E' := kIn 7 E k (k + 3) [.int 0, .int 0, .int 0, .ref (k + 1), .ref (k + 2)]) 4 zC7 rfl rfl zw453 (by decide) rfl (Or.inr ⟨_, rfl⟩) (by omega) (Nat.le_of_ble_eq_true rfl) kIn_self kIn_ne (fun cI cZ cO ad => kIn_self cI cZ cO ad) dX7_init_17 ?_
  rw [← kIn_end (fs := [.int 0, .int 0, .int 0, .ref (k + 1), .ref (k + 2)]) (by omega) (fun cI cZ cO ad => by rw [zEnt_obj _ _ _ _ _ hs (by decide), zW0_z hs (by decide) (by decide)]; rfl)]
  exact zR_rf
abbrev gK8 : kMth := (yX8_init, cX8_init, 1, 1, 11, 328)
theorem kHd8 : kHd yX8_init := ⟨by decide, by decide, by decide +kernel⟩
set_option maxHeartbeats 4000000 in
set_option maxRecDepth 100000 in
theorem mk8 {k : Nat} (hs : zShp k = (8, 13)) (E : kE) : kMet gK8 k (k + 1) (kup E k (fun _ _ _ _ => .inr (8, [.int 0, .null, .null, .null, .null, .null, .null, .null, .int 0, .null, .null, .null, .null]))) (k + 12) (kFin E k (k + 12)) := by
  have hlt := zShp_lt hs (by decide)
  rw [kIn_start (fun _ => rfl)]
  refine kMet_of (cs2 := 11) (sl2 := 328) (pc2 := 93) (ls2 := [(0, .ref k)]) (by decide) rfl (by decide) dX8_init_93 (Nat.le_of_ble_eq_true rfl) (Nat.le_of_ble_eq_true rfl) ?_
  refine zR_aload_n 1 rfl 0 rfl dX8_init_0 ?_
  refine zR_objInit 4 rfl dX8_init_1 zw235 zw103 zw104 (by decide) (Nat.le_of_ble_eq_true rfl) ?_
  refine zR_aload_n 5 rfl 0 rfl dX8_init_4 ?_
  refine zR_bipush 7 rfl (8 : Int32) (by decide) dX8_init_5 ?_
  refine zR_newi 9 rfl 8 (E' := kIn 8 E k (k + 2) [.int 0, .null, .null, .null, .null, .null, .null, .null, .int 0, .null, .null, .null, .null]) (by decide) (by decide) (by decide) (zShp_lt (zP8_kind hs) (by decide)) kIn_lt (fun cI cZ cO ad => (kIn_new (by omega) cI cZ cO ad).trans (zE_i (zP8_kind hs) (zW0_z (zP8_kind hs) (by decide) (by decide)) cI cZ cO ad)) (Nat.le_of_ble_eq_true rfl) (Nat.le_of_ble_eq_true rfl) dX8_init_7 zw164 ?_
  refine zR_put true 12 rfl (x := k + 1) (fs := [.int 0, .null, .null, .null, .null, .null, .null, .null, .int 0, .null, .null, .null, .null]) (E' := kIn 8 E k (k + 2) [.int 0, .ref (k + 1), .null, .null, .null, .null, .null, .null, .int 0, .null, .null, .null, .null]) 1 zC8 rfl rfl zw239 (by decide) rfl (Or.inr ⟨_, rfl⟩) (by omega) (Nat.le_of_ble_eq_true rfl) kIn_self kIn_ne (fun cI cZ cO ad => kIn_self cI cZ cO ad) dX8_init_9 ?_
  refine zR_aload_n 13 rfl 0 rfl dX8_init_12 ?_
  refine zR_bipush 15 rfl (8 : Int32) (by decide) dX8_init_13 ?_
  refine zR_newi 17 rfl 8 (E' := kIn 8 E k (k + 3) [.int 0, .ref (k + 1), .null, .null, .null, .null, .null, .null, .int 0, .null, .null, .null, .null]) (by decide) (by decide) (by decide) (zShp_lt (zP8_tap hs) (by decide)) kIn_lt (fun cI cZ cO ad => (kIn_new (by omega) cI cZ cO ad).trans (zE_i (zP8_tap hs) (zW0_z (zP8_tap hs) (by decide) (by decide)) cI cZ cO ad)) (Nat.le_of_ble_eq_true rfl) (Nat.le_of_ble_eq_true rfl) dX8_init_15 zw164 ?_
  refine zR_put true 20 rfl (x := k + 2) (fs := [.int 0, .ref (k + 1), .null, .null, .null, .null, .null, .null, .int 0, .null, .null, .null, .null]) (E' := kIn 8 E k (k + 3) [.int 0, .ref (k + 1), .ref (k + 2), .null, .null, .null, .null, .null, .int 0, .null, .null, .null, .null]) 2 zC8 rfl rfl zw243 (by decide) rfl (Or.inr ⟨_, rfl⟩) (by omega) (Nat.le_of_ble_eq_true rfl) kIn_self kIn_ne (fun cI cZ cO ad => kIn_self cI cZ cO ad) dX8_init_17 ?_
  refine zR_aload_n 21 rfl 0 rfl dX8_init_20 ?_
  refine zR_bipush 23 rfl (8 : Int32) (by decide) dX8_init_21 ?_
  refine zR_newi 25 rfl 8 (E' := kIn 8 E k (k + 4) [.int 0, .ref (k + 1), .ref (k + 2), .null, .null, .null, .null, .null, .int 0, .null, .null, .null, .null]) (by decide) (by decide) (by decide) (zShp_lt (zP8_gallons hs) (by decide)) kIn_lt (fun cI cZ cO ad => (kIn_new (by omega) cI cZ cO ad).trans (zE_i (zP8_gallons hs) (zW0_z (zP8_gallons hs) (by decide) (by decide)) cI cZ cO ad)) (Nat.le_of_ble_eq_true rfl) (Nat.le_of_ble_eq_true rfl) dX8_init_23 zw164 ?_
  refine zR_put true 28 rfl (x := k + 3) (fs := [.int 0, .ref (k + 1), .ref (k + 2), .null, .null, .null, .null, .null, .int 0, .null, .null, .null, .null]) (E' := kIn 8 E k (k + 4) [.int 0, .ref (k + 1), .ref (k + 2), .ref (k + 3), .null, .null, .null, .null, .int 0, .null, .null, .null, .null]) 3 zC8 rfl rfl zw245 (by decide) rfl (Or.inr ⟨_, rfl⟩) (by omega) (Nat.le_of_ble_eq_true rfl) kIn_self kIn_ne (fun cI cZ cO ad => kIn_self cI cZ cO ad) dX8_init_25 ?_
  refine zR_aload_n 29 rfl 0 rfl dX8_init_28 ?_
  refine zR_bipush 31 rfl (8 : Int32) (by decide) dX8_init_29 ?_
  refine zR_newi 33 rfl 8 (E' := kIn 8 E k (k + 5) [.int 0, .ref (k + 1), .ref (k + 2), .ref (k + 3), .null, .null, .null, .null, .int 0, .null, .null, .null, .null]) (by decide) (by decide) (by decide) (zShp_lt (zP8_heat hs) (by decide)) kIn_lt (fun cI cZ cO ad => (kIn_new (by omega) cI cZ cO ad).trans (zE_i (zP8_heat hs) (zW0_z (zP8_heat hs) (by decide) (by decide)) cI cZ cO ad)) (Nat.le_of_ble_eq_true rfl) (Nat.le_of_ble_eq_true rfl) dX8_init_31 zw164 ?_
  refine zR_put true 36 rfl (x := k + 4) (fs := [.int 0, .ref (k + 1), .ref (k + 2), .ref (k + 3), .null, .null, .null, .null, .int 0, .null, .null, .null, .null]) (E' := kIn 8 E k (k + 5) [.int 0, .ref (k + 1), .ref (k + 2), .ref (k + 3), .ref (k + 4), .null, .null, .null, .int 0, .null, .null, .null, .null]) 4 zC8 rfl rfl zw249 (by decide) rfl (Or.inr ⟨_, rfl⟩) (by omega) (Nat.le_of_ble_eq_true rfl) kIn_self kIn_ne (fun cI cZ cO ad => kIn_self cI cZ cO ad) dX8_init_33 ?_
  refine zR_aload_n 37 rfl 0 rfl dX8_init_36 ?_
  refine zR_bipush 39 rfl (8 : Int32) (by decide) dX8_init_37 ?_
  refine zR_newi 41 rfl 8 (E' := kIn 8 E k (k + 6) [.int 0, .ref (k + 1), .ref (k + 2), .ref (k + 3), .ref (k + 4), .null, .null, .null, .int 0, .null, .null, .null, .null]) (by decide) (by decide) (by decide) (zShp_lt (zP8_since hs) (by decide)) kIn_lt (fun cI cZ cO ad => (kIn_new (by omega) cI cZ cO ad).trans (zE_i (zP8_since hs) (zW0_z (zP8_since hs) (by decide) (by decide)) cI cZ cO ad)) (Nat.le_of_ble_eq_true rfl) (Nat.le_of_ble_eq_true rfl) dX8_init_39 zw164 ?_
  refine zR_put true 44 rfl (x := k + 5) (fs := [.int 0, .ref (k + 1), .ref (k + 2), .ref (k + 3), .ref (k + 4), .null, .null, .null, .int 0, .null, .null, .null, .null]) (E' := kIn 8 E k (k + 6) [.int 0, .ref (k + 1), .ref (k + 2), .ref (k + 3), .ref (k + 4), .ref (k + 5), .null, .null, .int 0, .null, .null, .null, .null]) 5 zC8 rfl rfl zw251 (by decide) rfl (Or.inr ⟨_, rfl⟩) (by omega) (Nat.le_of_ble_eq_true rfl) kIn_self kIn_ne (fun cI cZ cO ad => kIn_self cI cZ cO ad) dX8_init_41 ?_
  refine zR_aload_n 45 rfl 0 rfl dX8_init_44 ?_
  refine zR_bipush 47 rfl (8 : Int32) (by decide) dX8_init_45 ?_
  refine zR_newi 49 rfl 8 (E' := kIn 8 E k (k + 7) [.int 0, .ref (k + 1), .ref (k + 2), .ref (k + 3), .ref (k + 4), .ref (k + 5), .null, .null, .int 0, .null, .null, .null, .null]) (by decide) (by decide) (by decide) (zShp_lt (zP8_uses hs) (by decide)) kIn_lt (fun cI cZ cO ad => (kIn_new (by omega) cI cZ cO ad).trans (zE_i (zP8_uses hs) (zW0_z (zP8_uses hs) (by decide) (by decide)) cI cZ cO ad)) (Nat.le_of_ble_eq_true rfl) (Nat.le_of_ble_eq_true rfl) dX8_init_47 zw164 ?_
  refine zR_put true 52 rfl (x := k + 6) (fs := [.int 0, .ref (k + 1), .ref (k + 2), .ref (k + 3), .ref (k + 4), .ref (k + 5), .null, .null, .int 0, .null, .null, .null, .null]) (E' := kIn 8 E k (k + 7) [.int 0, .ref (k + 1), .ref (k + 2), .ref (k + 3), .ref (k + 4), .ref (k + 5), .ref (k + 6), .null, .int 0, .null, .null, .null, .null]) 6 zC8 rfl rfl zw255 (by decide) rfl (Or.inr ⟨_, rfl⟩) (by omega) (Nat.le_of_ble_eq_true rfl) kIn_self kIn_ne (fun cI cZ cO ad => kIn_self cI cZ cO ad) dX8_init_49 ?_
  refine zR_aload_n 53 rfl 0 rfl dX8_init_52 ?_
  refine zR_sipush 56 rfl (160 : Int32) (by decide) dX8_init_53 ?_
  refine zR_newi 58 rfl 160 (E' := kIn 8 E k (k + 8) [.int 0, .ref (k + 1), .ref (k + 2), .ref (k + 3), .ref (k + 4), .ref (k + 5), .ref (k + 6), .null, .int 0, .null, .null, .null, .null]) (by decide) (by decide) (by decide) (zShp_lt (zP8_useDay hs) (by decide)) kIn_lt (fun cI cZ cO ad => (kIn_new (by omega) cI cZ cO ad).trans (zE_i (zP8_useDay hs) (zW0_z (zP8_useDay hs) (by decide) (by decide)) cI cZ cO ad)) (Nat.le_of_ble_eq_true rfl) (Nat.le_of_ble_eq_true rfl) dX8_init_56 zw164 ?_
  refine zR_put true 61 rfl (x := k + 7) (fs := [.int 0, .ref (k + 1), .ref (k + 2), .ref (k + 3), .ref (k + 4), .ref (k + 5), .ref (k + 6), .null, .int 0, .null, .null, .null, .null]) (E' := kIn 8 E k (k + 8) [.int 0, .ref (k + 1), .ref (k + 2), .ref (k + 3), .ref (k + 4), .ref (k + 5), .ref (k + 6), .ref (k + 7), .int 0, .null, .null, .null, .null]) 7 zC8 rfl rfl zw257 (by decide) rfl (Or.inr ⟨_, rfl⟩) (by omega) (Nat.le_of_ble_eq_true rfl) kIn_self kIn_ne (fun cI cZ cO ad => kIn_self cI cZ cO ad) dX8_init_58 ?_
  refine zR_aload_n 62 rfl 0 rfl dX8_init_61 ?_
  refine zR_bipush 64 rfl (30 : Int32) (by decide) dX8_init_62 ?_
  refine zR_newi 66 rfl 30 (E' := kIn 8 E k (k + 9) [.int 0, .ref (k + 1), .ref (k + 2), .ref (k + 3), .ref (k + 4), .ref (k + 5), .ref (k + 6), .ref (k + 7), .int 0, .null, .null, .null, .null]) (by decide) (by decide) (by decide) (zShp_lt (zP8_saleTaker hs) (by decide)) kIn_lt (fun cI cZ cO ad => (kIn_new (by omega) cI cZ cO ad).trans (zE_i (zP8_saleTaker hs) (zW0_z (zP8_saleTaker hs) (by decide) (by decide)) cI cZ cO ad)) (Nat.le_of_ble_eq_true rfl) (Nat.le_of_ble_eq_true rfl) dX8_init_64 zw164 ?_
  refine zR_put true 69 rfl (x := k + 8) (fs := [.int 0, .ref (k + 1), .ref (k + 2), .ref (k + 3), .ref (k + 4), .ref (k + 5), .ref (k + 6), .ref (k + 7), .int 0, .null, .null, .null, .null]) (E' := kIn 8 E k (k + 9) [.int 0, .ref (k + 1), .ref (k + 2), .ref (k + 3), .ref (k + 4), .ref (k + 5), .ref (k + 6), .ref (k + 7), .int 0, .ref (k + 8), .null, .null, .null]) 9 zC8 rfl rfl zw260 (by decide) rfl (Or.inr ⟨_, rfl⟩) (by omega) (Nat.le_of_ble_eq_true rfl) kIn_self kIn_ne (fun cI cZ cO ad => kIn_self cI cZ cO ad) dX8_init_66 ?_
  refine zR_aload_n 70 rfl 0 rfl dX8_init_69 ?_
  refine zR_bipush 72 rfl (30 : Int32) (by decide) dX8_init_70 ?_
  refine zR_newi 74 rfl 30 (E' := kIn 8 E k (k + 10) [.int 0, .ref (k + 1), .ref (k + 2), .ref (k + 3), .ref (k + 4), .ref (k + 5), .ref (k + 6), .ref (k + 7), .int 0, .ref (k + 8), .null, .null, .null]) (by decide) (by decide) (by decide) (zShp_lt (zP8_saleBy hs) (by decide)) kIn_lt (fun cI cZ cO ad => (kIn_new (by omega) cI cZ cO ad).trans (zE_i (zP8_saleBy hs) (zW0_z (zP8_saleBy hs) (by decide) (by decide)) cI cZ cO ad)) (Nat.le_of_ble_eq_true rfl) (Nat.le_of_ble_eq_true rfl) dX8_init_72 zw164 ?_
  refine zR_put true 77 rfl (x := k + 9) (fs := [.int 0, .ref (k + 1), .ref (k + 2), .ref (k + 3), .ref (k + 4), .ref (k + 5), .ref (k + 6), .ref (k + 7), .int 0, .ref (k + 8), .null, .null, .null]) (E' := kIn 8 E k (k + 10) [.int 0, .ref (k + 1), .ref (k + 2), .ref (k + 3), .ref (k + 4), .ref (k + 5), .ref (k + 6), .ref (k + 7), .int 0, .ref (k + 8), .ref (k + 9), .null, .null]) 10 zC8 rfl rfl zw261 (by decide) rfl (Or.inr ⟨_, rfl⟩) (by omega) (Nat.le_of_ble_eq_true rfl) kIn_self kIn_ne (fun cI cZ cO ad => kIn_self cI cZ cO ad) dX8_init_74 ?_
  refine zR_aload_n 78 rfl 0 rfl dX8_init_77 ?_
  refine zR_bipush 80 rfl (30 : Int32) (by decide) dX8_init_78 ?_
  refine zR_newi 82 rfl 30 (E' := kIn 8 E k (k + 11) [.int 0, .ref (k + 1), .ref (k + 2), .ref (k + 3), .ref (k + 4), .ref (k + 5), .ref (k + 6), .ref (k + 7), .int 0, .ref (k + 8), .ref (k + 9), .null, .null]) (by decide) (by decide) (by decide) (zShp_lt (zP8_saleTo hs) (by decide)) kIn_lt (fun cI cZ cO ad => (kIn_new (by omega) cI cZ cO ad).trans (zE_i (zP8_saleTo hs) (zW0_z (zP8_saleTo hs) (by decide) (by decide)) cI cZ cO ad)) (Nat.le_of_ble_eq_true rfl) (Nat.le_of_ble_eq_true rfl) dX8_init_80 zw164 ?_
  refine zR_put true 85 rfl (x := k + 10) (fs := [.int 0, .ref (k + 1), .ref (k + 2), .ref (k + 3), .ref (k + 4), .ref (k + 5), .ref (k + 6), .ref (k + 7), .int 0, .ref (k + 8), .ref (k + 9), .null, .null]) (E' := kIn 8 E k (k + 11) [.int 0, .ref (k + 1), .ref (k + 2), .ref (k + 3), .ref (k + 4), .ref (k + 5), .ref (k + 6), .ref (k + 7), .int 0, .ref (k + 8), .ref (k + 9), .ref (k + 10), .null]) 11 zC8 rfl rfl zw262 (by decide) rfl (Or.inr ⟨_, rfl⟩) (by omega) (Nat.le_of_ble_eq_true rfl) kIn_self kIn_ne (fun cI cZ cO ad => kIn_self cI cZ cO ad) dX8_init_82 ?_
  refine zR_aload_n 86 rfl 0 rfl dX8_init_85 ?_
  refine zR_bipush 88 rfl (30 : Int32) (by decide) dX8_init_86 ?_
  refine zR_newi 90 rfl 30 (E' := kIn 8 E k (k + 12) [.int 0, .ref (k + 1), .ref (k + 2), .ref (k + 3), .ref (k + 4), .ref (k + 5), .ref (k + 6), .ref (k + 7), .int 0, .ref (k + 8), .ref (k + 9), .ref (k + 10), .null]) (by decide) (by decide) (by decide) (zShp_lt (zP8_saleDay hs) (by decide)) kIn_lt (fun cI cZ cO ad => (kIn_new (by omega) cI cZ cO ad).trans (zE_i (zP8_saleDay hs) (zW0_z (zP8_saleDay hs) (by decide) (by decide)) cI cZ cO ad)) (Nat.le_of_ble_eq_true rfl) (Nat.le_of_ble_eq_true rfl) dX8_init_88 zw164 ?_
  refine zR_put true 93 rfl (x := k + 11) (fs := [.int 0, .ref (k + 1), .ref (k + 2), .ref (k + 3), .ref (k + 4), .ref (k + 5), .ref (k + 6), .ref (k + 7), .int 0, .ref (k + 8), .ref (k + 9), .ref (k + 10), .null]) (E' := kIn 8 E k (k + 12) [.int 0, .ref (k + 1), .ref (k + 2), .ref (k + 3), .ref (k + 4), .ref (k + 5), .ref (k + 6), .ref (k + 7), .int 0, .ref (k + 8), .ref (k + 9), .ref (k + 10), .ref (k + 11)]) 12 zC8 rfl rfl zw263 (by decide) rfl (Or.inr ⟨_, rfl⟩) (by omega) (Nat.le_of_ble_eq_true rfl) kIn_self kIn_ne (fun cI cZ cO ad => kIn_self cI cZ cO ad) dX8_init_90 ?_
  rw [← kIn_end (fs := [.int 0, .ref (k + 1), .ref (k + 2), .ref (k + 3), .ref (k + 4), .ref (k + 5), .ref (k + 6), .ref (k + 7), .int 0, .ref (k + 8), .ref (k + 9), .ref (k + 10), .ref (k + 11)]) (by omega) (fun cI cZ cO ad => by rw [zEnt_obj _ _ _ _ _ hs (by decide), zW0_z hs (by decide) (by decide)]; rfl)]
  exact zR_rf
abbrev gK9 : kMth := (yX9_init, cX9_init, 1, 1, 1, 120)
theorem kHd9 : kHd yX9_init := ⟨by decide, by decide, by decide +kernel⟩
set_option maxHeartbeats 4000000 in
set_option maxRecDepth 100000 in
theorem mk9 {k : Nat} (hs : zShp k = (9, 2)) (E : kE) : kMet gK9 k (k + 1) (kup E k (fun _ _ _ _ => .inr (9, [.int 0, .null]))) (k + 2) (kFin E k (k + 2)) := by
  have hlt := zShp_lt hs (by decide)
  rw [kIn_start (fun _ => rfl)]
  refine kMet_of (cs2 := 1) (sl2 := 120) (pc2 := 12) (ls2 := [(0, .ref k)]) (by decide) rfl (by decide) dX9_init_12 (Nat.le_of_ble_eq_true rfl) (Nat.le_of_ble_eq_true rfl) ?_
  refine zR_aload_n 1 rfl 0 rfl dX9_init_0 ?_
  refine zR_objInit 4 rfl dX9_init_1 zw170 zw103 zw104 (by decide) (Nat.le_of_ble_eq_true rfl) ?_
  refine zR_aload_n 5 rfl 0 rfl dX9_init_4 ?_
  refine zR_bipush 7 rfl (120 : Int32) (by decide) dX9_init_5 ?_
  refine zR_newi 9 rfl 120 (E' := kIn 9 E k (k + 2) [.int 0, .null]) (by decide) (by decide) (by decide) (zShp_lt (zP9_bytes hs) (by decide)) kIn_lt (fun cI cZ cO ad => (kIn_new (by omega) cI cZ cO ad).trans (zE_i (zP9_bytes hs) (zW0_z (zP9_bytes hs) (by decide) (by decide)) cI cZ cO ad)) (Nat.le_of_ble_eq_true rfl) (Nat.le_of_ble_eq_true rfl) dX9_init_7 zw164 ?_
  refine zR_put true 12 rfl (x := k + 1) (fs := [.int 0, .null]) (E' := kIn 9 E k (k + 2) [.int 0, .ref (k + 1)]) 1 zC9 rfl rfl zw174 (by decide) rfl (Or.inr ⟨_, rfl⟩) (by omega) (Nat.le_of_ble_eq_true rfl) kIn_self kIn_ne (fun cI cZ cO ad => kIn_self cI cZ cO ad) dX9_init_9 ?_
  rw [← kIn_end (fs := [.int 0, .ref (k + 1)]) (by omega) (fun cI cZ cO ad => by rw [zEnt_obj _ _ _ _ _ hs (by decide), zW0_z hs (by decide) (by decide)]; rfl)]
  exact zR_rf
abbrev gK3 : kMth := (yX3_init, cX3_init, 2, 2, 67, 1771)
theorem kHd3 : kHd yX3_init := ⟨by decide, by decide, by decide +kernel⟩
abbrev gK12 : kMth := (yX12_init, cX12_init, 2, 1, 18, 48918)
theorem kHd12 : kHd yX12_init := ⟨by decide, by decide, by decide +kernel⟩
