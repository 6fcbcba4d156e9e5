abbrev zin (i : Int32) (n : Nat) : Prop := ¬ (i < 0 ∨ n ≤ i.toNatClampNeg)
section ZR2
variable {ρ : Type} {g : zMth} {emb : ρ → Option Value} {pc : Nat} {ls : List (Nat × Value)} {st : List Value} {w : zWd} {X : Option (ρ × zWd)}
theorem zS_iconst (pc' : Nat) (hn : pc + 1 = pc') {n : Int} (v : Int32) (hv : Int32.ofInt n = v) (hdg : decode g.2.1 pc = .ok (.iconst n, 1)) (K : zS g emb pc' ls (.int v :: st) w X) : zS g emb pc ls (st) w X := by
  subst hn
  exact zS_step (fun p l e R s m args below meth c H locs cells slots Q D cI cZ cO ad A lsA F hl hH hS k => lv_iconst F.1 F.2.1 hdg hv k) K
theorem zS_bipush (pc' : Nat) (hn : pc + 2 = pc') {n : Int} (v : Int32) (hv : (Int8.ofInt n).toInt32 = v) (hdg : decode g.2.1 pc = .ok (.bipush n, 2)) (K : zS g emb pc' ls (.int v :: st) w X) : zS g emb pc ls (st) w X := by
  subst hn
  exact zS_step (fun p l e R s m args below meth c H locs cells slots Q D cI cZ cO ad A lsA F hl hH hS k => lv_bipush F.1 F.2.1 hdg hv k) K
theorem zS_sipush (pc' : Nat) (hn : pc + 3 = pc') {n : Int} (v : Int32) (hv : (Int16.ofInt n).toInt32 = v) (hdg : decode g.2.1 pc = .ok (.sipush n, 3)) (K : zS g emb pc' ls (.int v :: st) w X) : zS g emb pc ls (st) w X := by
  subst hn
  exact zS_step (fun p l e R s m args below meth c H locs cells slots Q D cI cZ cO ad A lsA F hl hH hS k => lv_sipush F.1 F.2.1 hdg hv k) K
theorem zS_ldc (pc' : Nat) (hn : pc + 2 = pc') {i : Nat} (v : Int32) (hv : Cond.constant g.1.cls i v ∈ lw_gd) (hdg : decode g.2.1 pc = .ok (.ldc i, 2)) (K : zS g emb pc' ls (.int v :: st) w X) : zS g emb pc ls (st) w X := by
  subst hn
  exact zS_step (fun p l e R s m args below meth c H locs cells slots Q D cI cZ cO ad A lsA F hl hH hS k => lv_ldc F.1 F.2.1 F.2.2.2.2.1 (F.2.2.2.2.2.1 _ hv) hdg k) K
theorem zS_ldc2 (pc' : Nat) (hn : pc + 3 = pc') {i : Nat} (v : Int64) (hv : Cond.constantLong g.1.cls i v ∈ lw_gd) (hdg : decode g.2.1 pc = .ok (.ldc2_w i, 3)) (K : zS g emb pc' ls (.long v :: st) w X) : zS g emb pc ls (st) w X := by
  subst hn
  exact zS_step (fun p l e R s m args below meth c H locs cells slots Q D cI cZ cO ad A lsA F hl hH hS k => lv_ldc2 F.1 F.2.1 F.2.2.2.2.1 (F.2.2.2.2.2.1 _ hv) hdg k) K
theorem zS_iload_n (pc' : Nat) (hn : pc + 1 = pc') (q : Nat) {k : Fin 4} {x : Int32} (hl0 : ls[q]? = some ((k : Nat), .int x)) (hdg : decode g.2.1 pc = .ok (.iload_n k, 1)) (K : zS g emb pc' ls (.int x :: st) w X) : zS g emb pc ls (st) w X := by
  subst hn
  exact zS_step (fun p l e R s m args below meth c H locs cells slots Q D cI cZ cO ad A lsA F hl hH hS k => lv_iload_n F.1 F.2.1 hdg rfl (lv_at hl q (by rw [List.getElem?_map, hl0]; rfl)) k) K
theorem zS_iload (pc' : Nat) (hn : pc + 2 = pc') (q : Nat) {i : Nat} {x : Int32} (hl0 : ls[q]? = some (i, .int x)) (hdg : decode g.2.1 pc = .ok (.iload i, 2)) (K : zS g emb pc' ls (.int x :: st) w X) : zS g emb pc ls (st) w X := by
  subst hn
  exact zS_step (fun p l e R s m args below meth c H locs cells slots Q D cI cZ cO ad A lsA F hl hH hS k => lv_iload F.1 F.2.1 hdg (lv_at hl q (by rw [List.getElem?_map, hl0]; rfl)) k) K
theorem zS_lload_n (pc' : Nat) (hn : pc + 1 = pc') (q : Nat) {k : Fin 4} {x : Int64} (hl0 : ls[q]? = some ((k : Nat), .long x)) (hdg : decode g.2.1 pc = .ok (.lload_n k, 1)) (K : zS g emb pc' ls (.long x :: st) w X) : zS g emb pc ls (st) w X := by
  subst hn
  exact zS_step (fun p l e R s m args below meth c H locs cells slots Q D cI cZ cO ad A lsA F hl hH hS k => lv_lload_n F.1 F.2.1 hdg rfl (lv_at hl q (by rw [List.getElem?_map, hl0]; rfl)) k) K
theorem zS_aload_n (pc' : Nat) (hn : pc + 1 = pc') (q : Nat) {k : Fin 4} {x : Nat} (hl0 : ls[q]? = some ((k : Nat), .ref x)) (hdg : decode g.2.1 pc = .ok (.aload_n k, 1)) (K : zS g emb pc' ls (.ref x :: st) w X) : zS g emb pc ls (st) w X := by
  subst hn
  exact zS_step (fun p l e R s m args below meth c H locs cells slots Q D cI cZ cO ad A lsA F hl hH hS k => lv_aload_n F.1 F.2.1 hdg rfl (lv_at hl q (by rw [List.getElem?_map, hl0]; rfl)) k) K
theorem zS_aload (pc' : Nat) (hn : pc + 2 = pc') (q : Nat) {i : Nat} {x : Nat} (hl0 : ls[q]? = some (i, .ref x)) (hdg : decode g.2.1 pc = .ok (.aload i, 2)) (K : zS g emb pc' ls (.ref x :: st) w X) : zS g emb pc ls (st) w X := by
  subst hn
  exact zS_step (fun p l e R s m args below meth c H locs cells slots Q D cI cZ cO ad A lsA F hl hH hS k => lv_aload F.1 F.2.1 hdg (lv_at hl q (by rw [List.getElem?_map, hl0]; rfl)) k) K
theorem zS_iadd (pc' : Nat) (hn : pc + 1 = pc') {x y : Int32} (hdg : decode g.2.1 pc = .ok (.iadd, 1)) (K : zS g emb pc' ls (.int (x + y) :: st) w X) : zS g emb pc ls (.int y :: .int x :: st) w X := by
  subst hn
  exact zS_step (fun p l e R s m args below meth c H locs cells slots Q D cI cZ cO ad A lsA F hl hH hS k => lv_iadd F.1 F.2.1 hdg k) K
theorem zS_isub (pc' : Nat) (hn : pc + 1 = pc') {x y : Int32} (hdg : decode g.2.1 pc = .ok (.isub, 1)) (K : zS g emb pc' ls (.int (x - y) :: st) w X) : zS g emb pc ls (.int y :: .int x :: st) w X := by
  subst hn
  exact zS_step (fun p l e R s m args below meth c H locs cells slots Q D cI cZ cO ad A lsA F hl hH hS k => lv_isub F.1 F.2.1 hdg k) K
theorem zS_imul (pc' : Nat) (hn : pc + 1 = pc') {x y : Int32} (hdg : decode g.2.1 pc = .ok (.imul, 1)) (K : zS g emb pc' ls (.int (x * y) :: st) w X) : zS g emb pc ls (.int y :: .int x :: st) w X := by
  subst hn
  exact zS_step (fun p l e R s m args below meth c H locs cells slots Q D cI cZ cO ad A lsA F hl hH hS k => lv_imul F.1 F.2.1 hdg k) K
theorem zS_iand (pc' : Nat) (hn : pc + 1 = pc') {x y : Int32} (hdg : decode g.2.1 pc = .ok (.iand, 1)) (K : zS g emb pc' ls (.int (x &&& y) :: st) w X) : zS g emb pc ls (.int y :: .int x :: st) w X := by
  subst hn
  exact zS_step (fun p l e R s m args below meth c H locs cells slots Q D cI cZ cO ad A lsA F hl hH hS k => lv_iand F.1 F.2.1 hdg k) K
theorem zS_ior (pc' : Nat) (hn : pc + 1 = pc') {x y : Int32} (hdg : decode g.2.1 pc = .ok (.ior, 1)) (K : zS g emb pc' ls (.int (x ||| y) :: st) w X) : zS g emb pc ls (.int y :: .int x :: st) w X := by
  subst hn
  exact zS_step (fun p l e R s m args below meth c H locs cells slots Q D cI cZ cO ad A lsA F hl hH hS k => lv_ior F.1 F.2.1 hdg k) K
theorem zS_ixor (pc' : Nat) (hn : pc + 1 = pc') {x y : Int32} (hdg : decode g.2.1 pc = .ok (.ixor, 1)) (K : zS g emb pc' ls (.int (x ^^^ y) :: st) w X) : zS g emb pc ls (.int y :: .int x :: st) w X := by
  subst hn
  exact zS_step (fun p l e R s m args below meth c H locs cells slots Q D cI cZ cO ad A lsA F hl hH hS k => lv_ixor F.1 F.2.1 hdg k) K
theorem zS_ishl (pc' : Nat) (hn : pc + 1 = pc') {x y : Int32} (hdg : decode g.2.1 pc = .ok (.ishl, 1)) (K : zS g emb pc' ls (.int (x <<< (y &&& 31)) :: st) w X) : zS g emb pc ls (.int y :: .int x :: st) w X := by
  subst hn
  exact zS_step (fun p l e R s m args below meth c H locs cells slots Q D cI cZ cO ad A lsA F hl hH hS k => lv_ishl F.1 F.2.1 hdg k) K
theorem zS_ishr (pc' : Nat) (hn : pc + 1 = pc') {x y : Int32} (hdg : decode g.2.1 pc = .ok (.ishr, 1)) (K : zS g emb pc' ls (.int (x >>> (y &&& 31)) :: st) w X) : zS g emb pc ls (.int y :: .int x :: st) w X := by
  subst hn
  exact zS_step (fun p l e R s m args below meth c H locs cells slots Q D cI cZ cO ad A lsA F hl hH hS k => lv_ishr F.1 F.2.1 hdg k) K
theorem zS_iushr (pc' : Nat) (hn : pc + 1 = pc') {x y : Int32} (hdg : decode g.2.1 pc = .ok (.iushr, 1)) (K : zS g emb pc' ls (.int ((x.toUInt32 >>> (y.toUInt32 &&& Int32.toUInt32 31)).toInt32) :: st) w X) : zS g emb pc ls (.int y :: .int x :: st) w X := by
  subst hn
  exact zS_step (fun p l e R s m args below meth c H locs cells slots Q D cI cZ cO ad A lsA F hl hH hS k => lv_iushr F.1 F.2.1 hdg rfl k) K
theorem zS_lushr (pc' : Nat) (hn : pc + 1 = pc') {x : Int64} {y : Int32} (hdg : decode g.2.1 pc = .ok (.lushr, 1)) (K : zS g emb pc' ls (.long ((x.toUInt64 >>> (y.toInt64.toUInt64 &&& Int64.toUInt64 63)).toInt64) :: st) w X) : zS g emb pc ls (.int y :: .long x :: st) w X := by
  subst hn
  exact zS_step (fun p l e R s m args below meth c H locs cells slots Q D cI cZ cO ad A lsA F hl hH hS k => lv_lushr F.1 F.2.1 hdg rfl k) K
theorem zS_lshl (pc' : Nat) (hn : pc + 1 = pc') {x : Int64} {y : Int32} (hdg : decode g.2.1 pc = .ok (.lshl, 1)) (K : zS g emb pc' ls (.long (x <<< (y.toInt64 &&& 63)) :: st) w X) : zS g emb pc ls (.int y :: .long x :: st) w X := by
  subst hn
  exact zS_step (fun p l e R s m args below meth c H locs cells slots Q D cI cZ cO ad A lsA F hl hH hS k => lv_lshl F.1 F.2.1 hdg rfl k) K
theorem zS_lshr (pc' : Nat) (hn : pc + 1 = pc') {x : Int64} {y : Int32} (hdg : decode g.2.1 pc = .ok (.lshr, 1)) (K : zS g emb pc' ls (.long (x >>> (y.toInt64 &&& 63)) :: st) w X) : zS g emb pc ls (.int y :: .long x :: st) w X := by
  subst hn
  exact zS_step (fun p l e R s m args below meth c H locs cells slots Q D cI cZ cO ad A lsA F hl hH hS k => lv_lshr F.1 F.2.1 hdg rfl k) K
theorem zS_land (pc' : Nat) (hn : pc + 1 = pc') {x y : Int64} (hdg : decode g.2.1 pc = .ok (.land, 1)) (K : zS g emb pc' ls (.long (x &&& y) :: st) w X) : zS g emb pc ls (.long y :: .long x :: st) w X := by
  subst hn
  exact zS_step (fun p l e R s m args below meth c H locs cells slots Q D cI cZ cO ad A lsA F hl hH hS k => lv_land F.1 F.2.1 hdg k) K
theorem zS_lor (pc' : Nat) (hn : pc + 1 = pc') {x y : Int64} (hdg : decode g.2.1 pc = .ok (.lor, 1)) (K : zS g emb pc' ls (.long (x ||| y) :: st) w X) : zS g emb pc ls (.long y :: .long x :: st) w X := by
  subst hn
  exact zS_step (fun p l e R s m args below meth c H locs cells slots Q D cI cZ cO ad A lsA F hl hH hS k => lv_lor F.1 F.2.1 hdg k) K
theorem zS_i2l (pc' : Nat) (hn : pc + 1 = pc') {x : Int32} (hdg : decode g.2.1 pc = .ok (.i2l, 1)) (K : zS g emb pc' ls (.long (x.toInt64) :: st) w X) : zS g emb pc ls (.int x :: st) w X := by
  subst hn
  exact zS_step (fun p l e R s m args below meth c H locs cells slots Q D cI cZ cO ad A lsA F hl hH hS k => lv_i2l F.1 F.2.1 hdg rfl k) K
theorem zS_l2i (pc' : Nat) (hn : pc + 1 = pc') {x : Int64} (hdg : decode g.2.1 pc = .ok (.l2i, 1)) (K : zS g emb pc' ls (.int (x.toInt32) :: st) w X) : zS g emb pc ls (.long x :: st) w X := by
  subst hn
  exact zS_step (fun p l e R s m args below meth c H locs cells slots Q D cI cZ cO ad A lsA F hl hH hS k => lv_l2i F.1 F.2.1 hdg rfl k) K
theorem zS_ineg (pc' : Nat) (hn : pc + 1 = pc') {x : Int32} (hdg : decode g.2.1 pc = .ok (.ineg, 1)) (K : zS g emb pc' ls (.int (-x) :: st) w X) : zS g emb pc ls (.int x :: st) w X := by
  subst hn
  exact zS_step (fun p l e R s m args below meth c H locs cells slots Q D cI cZ cO ad A lsA F hl hH hS k => lv_ineg F.1 F.2.1 hdg k) K
theorem zS_dup (pc' : Nat) (hn : pc + 1 = pc') {v : Value} (hv : v.category = 1) (hdg : decode g.2.1 pc = .ok (.dup, 1)) (K : zS g emb pc' ls (v :: v :: st) w X) : zS g emb pc ls (v :: st) w X := by
  subst hn
  exact zS_step (fun p l e R s m args below meth c H locs cells slots Q D cI cZ cO ad A lsA F hl hH hS k => lv_dup F.1 F.2.1 hdg ((zv_cat ad v).trans hv) k) K
theorem zS_pop (pc' : Nat) (hn : pc + 1 = pc') {v : Value} (hv : v.category = 1) (hdg : decode g.2.1 pc = .ok (.pop, 1)) (K : zS g emb pc' ls (st) w X) : zS g emb pc ls (v :: st) w X := by
  subst hn
  exact zS_step (fun p l e R s m args below meth c H locs cells slots Q D cI cZ cO ad A lsA F hl hH hS k => lv_pop F.1 F.2.1 hdg ((zv_cat ad v).trans hv) k) K
theorem zS_dup_x1 (pc' : Nat) (hn : pc + 1 = pc') {v u : Value} (hv : v.category = 1) (hu : u.category = 1) (hdg : decode g.2.1 pc = .ok (.dup_x1, 1)) (K : zS g emb pc' ls (v :: u :: v :: st) w X) : zS g emb pc ls (v :: u :: st) w X := by
  subst hn
  exact zS_step (fun p l e R s m args below meth c H locs cells slots Q D cI cZ cO ad A lsA F hl hH hS k => lv_dup_x1 F.1 F.2.1 hdg ((zv_cat ad v).trans hv) ((zv_cat ad u).trans hu) k) K
theorem zS_dup2 (pc' : Nat) (hn : pc + 1 = pc') {v u : Value} (hv : v.category = 1) (hu : u.category = 1) (hdg : decode g.2.1 pc = .ok (.dup2, 1)) (K : zS g emb pc' ls (v :: u :: v :: u :: st) w X) : zS g emb pc ls (v :: u :: st) w X := by
  subst hn
  exact zS_step (fun p l e R s m args below meth c H locs cells slots Q D cI cZ cO ad A lsA F hl hH hS k => lv_dup2_11 F.1 F.2.1 hdg ((zv_cat ad v).trans hv) ((zv_cat ad u).trans hu) k) K
theorem zS_idiv (pc' : Nat) (hn : pc + 1 = pc') {x y : Int32} (hdg : decode g.2.1 pc = .ok (.idiv, 1)) (K : zS g emb pc' ls (.int (x / y) :: st) w X) : zS g emb pc ls (.int y :: .int x :: st) w (zgd (¬ y = 0) X) := by
  subst hn
  exact zS_gd (fun hy => zS_step (fun p l e R s m args below meth c H locs cells slots Q D cI cZ cO ad A lsA F hl hH hS k => lv_idiv F.1 F.2.1 hdg hy k) K)
theorem zS_idivC (pc' : Nat) (hn : pc + 1 = pc') {x y : Int32} (hdg : decode g.2.1 pc = .ok (.idiv, 1)) (hy : ¬ y = 0) (K : zS g emb pc' ls (.int (x / y) :: st) w X) : zS g emb pc ls (.int y :: .int x :: st) w X := by
  subst hn
  exact zS_step (fun p l e R s m args below meth c H locs cells slots Q D cI cZ cO ad A lsA F hl hH hS k => lv_idiv F.1 F.2.1 hdg hy k) K
theorem zS_irem (pc' : Nat) (hn : pc + 1 = pc') {x y : Int32} (hdg : decode g.2.1 pc = .ok (.irem, 1)) (K : zS g emb pc' ls (.int (x - x / y * y) :: st) w X) : zS g emb pc ls (.int y :: .int x :: st) w (zgd (¬ y = 0) X) := by
  subst hn
  exact zS_gd (fun hy => zS_step (fun p l e R s m args below meth c H locs cells slots Q D cI cZ cO ad A lsA F hl hH hS k => lv_irem F.1 F.2.1 hdg hy k) K)
theorem zS_iremC (pc' : Nat) (hn : pc + 1 = pc') {x y : Int32} (hdg : decode g.2.1 pc = .ok (.irem, 1)) (hy : ¬ y = 0) (K : zS g emb pc' ls (.int (x - x / y * y) :: st) w X) : zS g emb pc ls (.int y :: .int x :: st) w X := by
  subst hn
  exact zS_step (fun p l e R s m args below meth c H locs cells slots Q D cI cZ cO ad A lsA F hl hH hS k => lv_irem F.1 F.2.1 hdg hy k) K
theorem zS_goto (pc' : Nat) {off : Int} (hdg : decode g.2.1 pc = .ok (.goto off, 3)) (ht : (pc : Int) + off = (pc' : Int)) (K : zS g emb pc' ls st w X) : zS g emb pc ls st w X :=
  zS_step (fun p l e R s m args below meth c H locs cells slots Q D cI cZ cO ad A lsA F hl hH hS k => lv_goto F.1 F.2.1 hdg ht k) K
theorem zS_if_eq (pct pcf : Nat) (hn : pc + 3 = pcf) {x : Int32} {off : Int} {A B : Option (ρ × zWd)} (hdg : decode g.2.1 pc = .ok (.ifCond .eq off, 3)) (ht : (pc : Int) + off = (pct : Int)) (KA : zS g emb pct ls st w A) (KB : zS g emb pcf ls st w B) : zS g emb pc ls (.int x :: st) w (if x = 0 then A else B) := by
  subst hn
  exact zS_cases (fun hc => zS_step (fun p l e R s m args below meth c H locs cells slots Q D cI cZ cO ad A lsA F hl hH hS k => lv_if_eq F.1 F.2.1 hdg ht (fun h => k) (fun h => absurd hc h)) KA) (fun hc => zS_step (fun p l e R s m args below meth c H locs cells slots Q D cI cZ cO ad A lsA F hl hH hS k => lv_if_eq F.1 F.2.1 hdg ht (fun h => absurd h hc) (fun h => k)) KB)
theorem zS_icmp_eq (pct pcf : Nat) (hn : pc + 3 = pcf) {x y : Int32} {off : Int} {A B : Option (ρ × zWd)} (hdg : decode g.2.1 pc = .ok (.if_icmp .eq off, 3)) (ht : (pc : Int) + off = (pct : Int)) (KA : zS g emb pct ls st w A) (KB : zS g emb pcf ls st w B) : zS g emb pc ls (.int y :: .int x :: st) w (if x = y then A else B) := by
  subst hn
  exact zS_cases (fun hc => zS_step (fun p l e R s m args below meth c H locs cells slots Q D cI cZ cO ad A lsA F hl hH hS k => lv_icmp_eq F.1 F.2.1 hdg ht (fun h => k) (fun h => absurd hc h)) KA) (fun hc => zS_step (fun p l e R s m args below meth c H locs cells slots Q D cI cZ cO ad A lsA F hl hH hS k => lv_icmp_eq F.1 F.2.1 hdg ht (fun h => absurd h hc) (fun h => k)) KB)
theorem zS_if_ne (pct pcf : Nat) (hn : pc + 3 = pcf) {x : Int32} {off : Int} {A B : Option (ρ × zWd)} (hdg : decode g.2.1 pc = .ok (.ifCond .ne off, 3)) (ht : (pc : Int) + off = (pct : Int)) (KA : zS g emb pcf ls st w A) (KB : zS g emb pct ls st w B) : zS g emb pc ls (.int x :: st) w (if x = 0 then A else B) := by
  subst hn
  exact zS_cases (fun hc => zS_step (fun p l e R s m args below meth c H locs cells slots Q D cI cZ cO ad A lsA F hl hH hS k => lv_if_ne F.1 F.2.1 hdg ht (fun h => absurd hc h) (fun h => k)) KA) (fun hc => zS_step (fun p l e R s m args below meth c H locs cells slots Q D cI cZ cO ad A lsA F hl hH hS k => lv_if_ne F.1 F.2.1 hdg ht (fun h => k) (fun h => absurd h hc)) KB)
theorem zS_icmp_ne (pct pcf : Nat) (hn : pc + 3 = pcf) {x y : Int32} {off : Int} {A B : Option (ρ × zWd)} (hdg : decode g.2.1 pc = .ok (.if_icmp .ne off, 3)) (ht : (pc : Int) + off = (pct : Int)) (KA : zS g emb pcf ls st w A) (KB : zS g emb pct ls st w B) : zS g emb pc ls (.int y :: .int x :: st) w (if x = y then A else B) := by
  subst hn
  exact zS_cases (fun hc => zS_step (fun p l e R s m args below meth c H locs cells slots Q D cI cZ cO ad A lsA F hl hH hS k => lv_icmp_ne F.1 F.2.1 hdg ht (fun h => absurd hc h) (fun h => k)) KA) (fun hc => zS_step (fun p l e R s m args below meth c H locs cells slots Q D cI cZ cO ad A lsA F hl hH hS k => lv_icmp_ne F.1 F.2.1 hdg ht (fun h => k) (fun h => absurd h hc)) KB)
theorem zS_if_lt (pct pcf : Nat) (hn : pc + 3 = pcf) {x : Int32} {off : Int} {A B : Option (ρ × zWd)} (hdg : decode g.2.1 pc = .ok (.ifCond .lt off, 3)) (ht : (pc : Int) + off = (pct : Int)) (KA : zS g emb pct ls st w A) (KB : zS g emb pcf ls st w B) : zS g emb pc ls (.int x :: st) w (if x < 0 then A else B) := by
  subst hn
  exact zS_cases (fun hc => zS_step (fun p l e R s m args below meth c H locs cells slots Q D cI cZ cO ad A lsA F hl hH hS k => lv_if_lt F.1 F.2.1 hdg ht (fun h => k) (fun h => absurd hc h)) KA) (fun hc => zS_step (fun p l e R s m args below meth c H locs cells slots Q D cI cZ cO ad A lsA F hl hH hS k => lv_if_lt F.1 F.2.1 hdg ht (fun h => absurd h hc) (fun h => k)) KB)
theorem zS_icmp_lt (pct pcf : Nat) (hn : pc + 3 = pcf) {x y : Int32} {off : Int} {A B : Option (ρ × zWd)} (hdg : decode g.2.1 pc = .ok (.if_icmp .lt off, 3)) (ht : (pc : Int) + off = (pct : Int)) (KA : zS g emb pct ls st w A) (KB : zS g emb pcf ls st w B) : zS g emb pc ls (.int y :: .int x :: st) w (if x < y then A else B) := by
  subst hn
  exact zS_cases (fun hc => zS_step (fun p l e R s m args below meth c H locs cells slots Q D cI cZ cO ad A lsA F hl hH hS k => lv_icmp_lt F.1 F.2.1 hdg ht (fun h => k) (fun h => absurd hc h)) KA) (fun hc => zS_step (fun p l e R s m args below meth c H locs cells slots Q D cI cZ cO ad A lsA F hl hH hS k => lv_icmp_lt F.1 F.2.1 hdg ht (fun h => absurd h hc) (fun h => k)) KB)
theorem zS_if_ge (pct pcf : Nat) (hn : pc + 3 = pcf) {x : Int32} {off : Int} {A B : Option (ρ × zWd)} (hdg : decode g.2.1 pc = .ok (.ifCond .ge off, 3)) (ht : (pc : Int) + off = (pct : Int)) (KA : zS g emb pct ls st w A) (KB : zS g emb pcf ls st w B) : zS g emb pc ls (.int x :: st) w (if 0 ≤ x then A else B) := by
  subst hn
  exact zS_cases (fun hc => zS_step (fun p l e R s m args below meth c H locs cells slots Q D cI cZ cO ad A lsA F hl hH hS k => lv_if_ge F.1 F.2.1 hdg ht (fun h => k) (fun h => absurd hc h)) KA) (fun hc => zS_step (fun p l e R s m args below meth c H locs cells slots Q D cI cZ cO ad A lsA F hl hH hS k => lv_if_ge F.1 F.2.1 hdg ht (fun h => absurd h hc) (fun h => k)) KB)
theorem zS_icmp_ge (pct pcf : Nat) (hn : pc + 3 = pcf) {x y : Int32} {off : Int} {A B : Option (ρ × zWd)} (hdg : decode g.2.1 pc = .ok (.if_icmp .ge off, 3)) (ht : (pc : Int) + off = (pct : Int)) (KA : zS g emb pct ls st w A) (KB : zS g emb pcf ls st w B) : zS g emb pc ls (.int y :: .int x :: st) w (if y ≤ x then A else B) := by
  subst hn
  exact zS_cases (fun hc => zS_step (fun p l e R s m args below meth c H locs cells slots Q D cI cZ cO ad A lsA F hl hH hS k => lv_icmp_ge F.1 F.2.1 hdg ht (fun h => k) (fun h => absurd hc h)) KA) (fun hc => zS_step (fun p l e R s m args below meth c H locs cells slots Q D cI cZ cO ad A lsA F hl hH hS k => lv_icmp_ge F.1 F.2.1 hdg ht (fun h => absurd h hc) (fun h => k)) KB)
theorem zS_if_gt (pct pcf : Nat) (hn : pc + 3 = pcf) {x : Int32} {off : Int} {A B : Option (ρ × zWd)} (hdg : decode g.2.1 pc = .ok (.ifCond .gt off, 3)) (ht : (pc : Int) + off = (pct : Int)) (KA : zS g emb pct ls st w A) (KB : zS g emb pcf ls st w B) : zS g emb pc ls (.int x :: st) w (if 0 < x then A else B) := by
  subst hn
  exact zS_cases (fun hc => zS_step (fun p l e R s m args below meth c H locs cells slots Q D cI cZ cO ad A lsA F hl hH hS k => lv_if_gt F.1 F.2.1 hdg ht (fun h => k) (fun h => absurd hc h)) KA) (fun hc => zS_step (fun p l e R s m args below meth c H locs cells slots Q D cI cZ cO ad A lsA F hl hH hS k => lv_if_gt F.1 F.2.1 hdg ht (fun h => absurd h hc) (fun h => k)) KB)
theorem zS_icmp_gt (pct pcf : Nat) (hn : pc + 3 = pcf) {x y : Int32} {off : Int} {A B : Option (ρ × zWd)} (hdg : decode g.2.1 pc = .ok (.if_icmp .gt off, 3)) (ht : (pc : Int) + off = (pct : Int)) (KA : zS g emb pct ls st w A) (KB : zS g emb pcf ls st w B) : zS g emb pc ls (.int y :: .int x :: st) w (if y < x then A else B) := by
  subst hn
  exact zS_cases (fun hc => zS_step (fun p l e R s m args below meth c H locs cells slots Q D cI cZ cO ad A lsA F hl hH hS k => lv_icmp_gt F.1 F.2.1 hdg ht (fun h => k) (fun h => absurd hc h)) KA) (fun hc => zS_step (fun p l e R s m args below meth c H locs cells slots Q D cI cZ cO ad A lsA F hl hH hS k => lv_icmp_gt F.1 F.2.1 hdg ht (fun h => absurd h hc) (fun h => k)) KB)
theorem zS_if_le (pct pcf : Nat) (hn : pc + 3 = pcf) {x : Int32} {off : Int} {A B : Option (ρ × zWd)} (hdg : decode g.2.1 pc = .ok (.ifCond .le off, 3)) (ht : (pc : Int) + off = (pct : Int)) (KA : zS g emb pct ls st w A) (KB : zS g emb pcf ls st w B) : zS g emb pc ls (.int x :: st) w (if x ≤ 0 then A else B) := by
  subst hn
  exact zS_cases (fun hc => zS_step (fun p l e R s m args below meth c H locs cells slots Q D cI cZ cO ad A lsA F hl hH hS k => lv_if_le F.1 F.2.1 hdg ht (fun h => k) (fun h => absurd hc h)) KA) (fun hc => zS_step (fun p l e R s m args below meth c H locs cells slots Q D cI cZ cO ad A lsA F hl hH hS k => lv_if_le F.1 F.2.1 hdg ht (fun h => absurd h hc) (fun h => k)) KB)
theorem zS_icmp_le (pct pcf : Nat) (hn : pc + 3 = pcf) {x y : Int32} {off : Int} {A B : Option (ρ × zWd)} (hdg : decode g.2.1 pc = .ok (.if_icmp .le off, 3)) (ht : (pc : Int) + off = (pct : Int)) (KA : zS g emb pct ls st w A) (KB : zS g emb pcf ls st w B) : zS g emb pc ls (.int y :: .int x :: st) w (if x ≤ y then A else B) := by
  subst hn
  exact zS_cases (fun hc => zS_step (fun p l e R s m args below meth c H locs cells slots Q D cI cZ cO ad A lsA F hl hH hS k => lv_icmp_le F.1 F.2.1 hdg ht (fun h => k) (fun h => absurd hc h)) KA) (fun hc => zS_step (fun p l e R s m args below meth c H locs cells slots Q D cI cZ cO ad A lsA F hl hH hS k => lv_icmp_le F.1 F.2.1 hdg ht (fun h => absurd h hc) (fun h => k)) KB)
theorem zS_istore_n (pc' : Nat) (hn : pc + 1 = pc') {k : Fin 4} {x : Int32} {ls' : List (Nat × Value)} (hdg : decode g.2.1 pc = .ok (.istore_n k, 1)) (hi : (k : Nat) < g.2.2.1) (hls : ((k : Nat), Value.int x) :: ls.filter (fun q => !(q.1 == (k : Nat)) && !(q.1 + 1 == (k : Nat) && q.2.category == 2)) = ls') (K : zS g emb pc' ls' st w X) : zS g emb pc ls (.int x :: st) w X := by
  subst hn
  subst hls
  exact zS_stepL (fun p l e R s m args below meth c H locs cells slots Q D cI cZ cO ad A lsA F hl k0 => lv_istore_n F.1 F.2.1 hdg rfl hl hi (by rw [zl_filter]; rfl) k0) K
theorem zS_istore (pc' : Nat) (hn : pc + 2 = pc') {i : Nat} {x : Int32} {ls' : List (Nat × Value)} (hdg : decode g.2.1 pc = .ok (.istore i, 2)) (hi : i < g.2.2.1) (hls : (i, Value.int x) :: ls.filter (fun q => !(q.1 == i) && !(q.1 + 1 == i && q.2.category == 2)) = ls') (K : zS g emb pc' ls' st w X) : zS g emb pc ls (.int x :: st) w X := by
  subst hn
  subst hls
  exact zS_stepL (fun p l e R s m args below meth c H locs cells slots Q D cI cZ cO ad A lsA F hl k0 => lv_istore F.1 F.2.1 hdg hl hi (by rw [zl_filter]; rfl) k0) K
theorem zS_astore_n (pc' : Nat) (hn : pc + 1 = pc') {k : Fin 4} {x : Nat} {ls' : List (Nat × Value)} (hdg : decode g.2.1 pc = .ok (.astore_n k, 1)) (hi : (k : Nat) < g.2.2.1) (hls : ((k : Nat), Value.ref x) :: ls.filter (fun q => !(q.1 == (k : Nat)) && !(q.1 + 1 == (k : Nat) && q.2.category == 2)) = ls') (K : zS g emb pc' ls' st w X) : zS g emb pc ls (.ref x :: st) w X := by
  subst hn
  subst hls
  exact zS_stepL (fun p l e R s m args below meth c H locs cells slots Q D cI cZ cO ad A lsA F hl k0 => lv_astore_n F.1 F.2.1 hdg rfl hl hi (by rw [zl_filter]; rfl) k0) K
theorem zS_iinc (pc' : Nat) (hn : pc + 3 = pc') (q : Nat) {i : Nat} {n : Int} {x : Int32} (v : Int32) {ls' : List (Nat × Value)} (hdg : decode g.2.1 pc = .ok (.iinc i n, 3)) (hl0 : ls[q]? = some (i, .int x)) (hi : i < g.2.2.1) (hv : x + Int32.ofInt n = v) (hls : (i, Value.int v) :: ls.filter (fun q => !(q.1 == i) && !(q.1 + 1 == i && q.2.category == 2)) = ls') (K : zS g emb pc' ls' st w X) : zS g emb pc ls st w X := by
  subst hn
  subst hls
  exact zS_stepL (fun p l e R s m args below meth c H locs cells slots Q D cI cZ cO ad A lsA F hl k0 => lv_iinc F.1 F.2.1 hdg hl (k := q) (by rw [List.getElem?_map, hl0]; rfl) hv hi (by rw [zl_filter]; rfl) k0) K
theorem zS_reti {x : Int32} (hdg : decode g.2.1 pc = .ok (.ireturn, 1)) (hr : g.2.2.2.1 = some .int) : zS g zEi pc ls [.int x] w (some (x, w)) := by
  intro r w' hX p l e R s m args below meth c H locs cells slots Q D cI cZ cO ad A lsA F hl hH hS hQ
  cases hX
  exact hQ H locs pc lsA hH hS ⟨hdg, .int, hr, rfl⟩
abbrev zB (x : Int32) : Prop := x = 0 ∨ x = 1
theorem zB_nar {x : Int32} (h : zB x) : narrow .boolean (.int x) = .int x := by rcases h with rfl | rfl <;> rfl
theorem zS_retb {x : Int32} (hdg : decode g.2.1 pc = .ok (.ireturn, 1)) (hr : g.2.2.2.1 = some .boolean) : zS g zEi pc ls [.int x] w (zgd (zB x) (some (x, w))) := by
  refine zS_gd (fun hb => ?_)
  intro r w' hX p l e R s m args below meth c H locs cells slots Q D cI cZ cO ad A lsA F hl hH hS hQ
  cases hX
  exact hQ H locs pc lsA hH hS ⟨hdg, .boolean, hr, zB_nar hb⟩
theorem zS_retv (hdg : decode g.2.1 pc = .ok (.return_, 1)) (hr : g.2.2.2.1 = none) : zS g zEv pc ls [] w (some ((), w)) := by
  intro r w' hX p l e R s m args below meth c H locs cells slots Q D cI cZ cO ad A lsA F hl hH hS hQ
  cases hX
  exact hQ H locs pc lsA hH hS ⟨hdg, hr⟩
theorem zS_reta {k : Nat} (hdg : decode g.2.1 pc = .ok (.areturn, 1)) {n : String} (hr : g.2.2.2.1 = some (.object n)) : zS g zEr pc ls [.ref k] w (some (k, w)) := by
  intro r w' hX p l e R s m args below meth c H locs cells slots Q D cI cZ cO ad A lsA F hl hH hS hQ
  cases hX
  exact hQ H locs pc lsA hH hS ⟨hdg, _, hr, Or.inl ⟨n, rfl⟩⟩
end ZR2
