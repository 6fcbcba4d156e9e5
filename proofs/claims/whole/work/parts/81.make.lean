/-! THE CONSTRUCTORS: the world grows cell by cell, at the heap's end -/
def zW0 : zWd := fun a i => if a = 220 then (if i = 2 then 223 else if i = 3 then 224 else 0) else if a = 232 then (if 2570 ≤ i ∧ i < 2582 then -1 else 0) else 0
abbrev kE : Type := ClassId → ClassId → ClassId → (Nat → Nat) → Nat → va_E
abbrev kSt : Type := Nat × kE × Nat × Nat × Nat × List (Nat × Value) × List Value
abbrev kMth : Type := MethodName × ByteArray × Nat × Nat × Nat × Nat
def kWs (ad : Nat → Nat) (n : Nat) (E : Nat → va_E) : va_W := (List.range n).map (fun k => (ad k, E k))
def kH (D : va_G) (A : Nat → Prop) (ad : Nat → Nat) (bs n : Nat) (E : Nat → va_E) (H : Heap) : Prop := va_P D vwCl (kWs ad n E) H ∧ va_D A (kWs ad n E) ∧ H.size = bs + n
def kup (E : kE) (k : Nat) (e : ClassId → ClassId → ClassId → (Nat → Nat) → va_E) : kE := fun cI cZ cO ad j => if j = k then e cI cZ cO ad else E cI cZ cO ad j
def kA (bs : Nat) : Nat → Prop := fun q => bs ≤ q
def kFx (g : kMth) (p : Program) (R : Room) (s : State) (m : MethodId) (args : Array Value) (meth : Method) (c : Code) (D : va_G) (cI cZ cO : ClassId) (ad : Nat → Nat) (bs : Nat) (A : Nat → Prop) : Prop :=
  p.tables.exec = Jvm.exec ∧ c.code = g.2.1 ∧ c.maxLocals = g.2.2.1 ∧ s.vm.findClass g.1.cls = some m.cls ∧ (∀ w ∈ lw_gd, w.before args s = true)
  ∧ (g.2.2.2.1 ≤ R.frames ∧ 60 * g.2.2.2.1 ≤ R.locals ∧ g.2.2.2.2.1 ≤ R.cells ∧ g.2.2.2.2.2 ≤ R.slots) ∧ zSt D cI cZ cO ad A s s.heap ∧ (∀ q, s.heap.size ≤ q → A q) ∧ (g.1.name = "<init>" → meth.name = "<init>")
  ∧ (∀ k, k < 250 → ad k = bs + k) ∧ va_AO "HotSprings$Order" s ∧ A = kA bs
def zR (g : kMth) (a b : kSt) : Prop :=
  ∀ (p : Program) (l : Launch) (e : Env) (R : Room) (s : State) (m : MethodId) (args : Array Value) (below : List Frame) (meth : Method) (c : Code) (H : Heap) (locs : List Loc) (Q : State → Prop) (D : va_G) (cI cZ cO : ClassId) (ad : Nat → Nat) (bs : Nat) (A : Nat → Prop) (lsA : Array Slot),
    kFx g p R s m args meth c D cI cZ cO ad bs A → lv_has lsA g.2.2.1 (a.2.2.2.2.2.1.map (zl ad)) → kH D A ad bs a.1 (a.2.1 cI cZ cO ad) H → va_S A s.heap H locs →
    (∀ (H1 : Heap) (locs1 : List Loc) (ls1 : Array Slot), kH D A ad bs b.1 (b.2.1 cI cZ cO ad) H1 → lv_has ls1 g.2.2.1 (b.2.2.2.2.2.1.map (zl ad)) → va_S A s.heap H1 locs1 → W p l e R s m args below meth c H1 locs1 b.2.2.1 b.2.2.2.1 Q (F0 m b.2.2.2.2.1 ls1 (b.2.2.2.2.2.2.map (zv ad)))) →
    W p l e R s m args below meth c H locs a.2.2.1 a.2.2.2.1 Q (F0 m a.2.2.2.2.1 lsA (a.2.2.2.2.2.2.map (zv ad)))
theorem zR_rf {g : kMth} {a : kSt} : zR g a a := fun p l e R s m args below meth c H locs Q D cI cZ cO ad bs A lsA F hl hH hS hQ => hQ H locs lsA hH hl hS
theorem kWs_at (ad : Nat → Nat) {n k : Nat} (E : Nat → va_E) (hk : k < n) : (kWs ad n E)[k]? = some (ad k, E k) := by simp [kWs, List.getElem?_map, List.getElem?_range hk]
theorem kWs_len (ad : Nat → Nat) (n : Nat) (E : Nat → va_E) : (kWs ad n E).length = n := by simp [kWs]
theorem kWs_push (ad : Nat → Nat) (n : Nat) (E E' : Nat → va_E) (h : ∀ j, j < n → E' j = E j) : kWs ad n E ++ [(ad n, E' n)] = kWs ad (n + 1) E' := by
  unfold kWs
  rw [List.range_succ, List.map_append]
  congr 1
  apply List.map_congr_left
  intro j hj
  rw [h j (List.mem_range.mp hj)]
theorem kWs_set (ad : Nat → Nat) {n k : Nat} (E E' : Nat → va_E) (hk : k < n) (h : ∀ j, j ≠ k → E' j = E j) : (kWs ad n E).set k (ad k, E' k) = kWs ad n E' := by
  apply List.ext_getElem?
  intro i
  by_cases hi : i = k
  · subst hi
    rw [List.getElem?_set_self (by rw [kWs_len]; exact hk), kWs_at _ _ hk]
  · rw [List.getElem?_set_ne (Ne.symm hi)]
    by_cases hl : i < n
    · rw [kWs_at _ _ hl, kWs_at _ _ hl, h i hi]
    · rw [List.getElem?_eq_none (by rw [kWs_len]; omega), List.getElem?_eq_none (by rw [kWs_len]; omega)]
theorem kWs_eq (ad : Nat → Nat) {n : Nat} {E E' : Nat → va_E} (h : ∀ j, j < n → E' j = E j) : kWs ad n E' = kWs ad n E := by
  unfold kWs
  apply List.map_congr_left
  intro j hj
  rw [h j (List.mem_range.mp hj)]
/-- a new cell -/
theorem kH.push {D : va_G} {A : Nat → Prop} {ad : Nat → Nat} {bs n : Nat} {E E' : Nat → va_E} {H H1 : Heap} (h : kH D A ad bs n E H) (ha : ad n = bs + n) (hA : A (bs + n)) (hE : ∀ j, j < n → E' j = E j) (hz : H1.size = H.size + 1) (ho : ∀ q : Nat, q < H.size → H1[q]? = H[q]?) (he : va_at D vwCl (ad n, E' n) H1) : kH D A ad bs (n + 1) E' H1 := by
  obtain ⟨h1, h2, h3⟩ := h
  have hk : ∀ (k : Nat) (x : Nat × va_E), (kWs ad n E)[k]? = some x → H1[x.1]? = H[x.1]? := fun k x hx => ho x.1 ((h1 k x hx).lt)
  refine ⟨?_, ?_, by omega⟩
  · rw [← kWs_push ad n E E' hE]
    refine (h1.kept hk).app (fun k x hx => ?_)
    have hz : k < 1 := (List.getElem?_eq_some_iff.mp hx).1
    rw [show k = 0 by omega] at hx
    cases hx
    exact he
  · rw [← kWs_push ad n E E' hE]
    exact h2.push h1 (ha.trans h3.symm) (by rw [ha]; exact hA)
/-- behind a store -/
theorem kH.set {D : va_G} {A : Nat → Prop} {ad : Nat → Nat} {bs n k : Nat} {E E' : Nat → va_E} {H H1 : Heap} {e : va_E} (h : kH D A ad bs n E H) (hk : k < n) (hE : ∀ j, j ≠ k → E' j = E j) (he : e = E' k) (h1 : va_P D vwCl ((kWs ad n E).set k (ad k, e)) H1) (h2 : va_D A ((kWs ad n E).set k (ad k, e))) (hz : H1.size = H.size) : kH D A ad bs n E' H1 := by
  subst he
  rw [kWs_set ad E E' hk hE] at h1 h2
  exact ⟨h1, h2, by rw [hz]; exact h.2.2⟩
theorem kH.eq {D : va_G} {A : Nat → Prop} {ad : Nat → Nat} {bs n : Nat} {E E' : Nat → va_E} {H : Heap} (h : kH D A ad bs n E H) (hE : ∀ j, j < n → E' j = E j) : kH D A ad bs n E' H := by
  unfold kH
  rw [kWs_eq ad hE]
  exact h
/-- a field's store, with what it does to the heap's size -/
theorem kS_size {D : va_G} {A : Nat → Prop} {H0 H1 : Heap} {locs : List Loc} (h : va_S A H0 H1 locs) : H0.size ≤ H1.size := h.1
section KR
variable {g : kMth} {n cs sl pc : Nat} {E : kE} {ls : List (Nat × Value)} {st : List Value} {B : kSt}
theorem zR_step {n' cs' sl' pc' : Nat} {E' : kE} {ls' : List (Nat × Value)} {st' : List Value} (h : ∀ (p : Program) (l : Launch) (e : Env) (R : Room) (s : State) (m : MethodId) (args : Array Value) (below : List Frame) (meth : Method) (c : Code) (H : Heap) (locs : List Loc) (Q : State → Prop) (D : va_G) (cI cZ cO : ClassId) (ad : Nat → Nat) (bs : Nat) (A : Nat → Prop) (lsA : Array Slot),
    kFx g p R s m args meth c D cI cZ cO ad bs A → lv_has lsA g.2.2.1 (ls.map (zl ad)) → kH D A ad bs n (E cI cZ cO ad) H → va_S A s.heap H locs →
    (∀ (H1 : Heap) (locs1 : List Loc) (ls1 : Array Slot), kH D A ad bs n' (E' cI cZ cO ad) H1 → lv_has ls1 g.2.2.1 (ls'.map (zl ad)) → va_S A s.heap H1 locs1 → W p l e R s m args below meth c H1 locs1 cs' sl' Q (F0 m pc' ls1 (st'.map (zv ad)))) →
    W p l e R s m args below meth c H locs cs sl Q (F0 m pc lsA (st.map (zv ad)))) (K : zR g (n', E', cs', sl', pc', ls', st') B) : zR g (n, E, cs, sl, pc, ls, st) B :=
  fun p l e R s m args below meth c H locs Q D cI cZ cO ad bs A lsA F hl hH hS hQ => h p l e R s m args below meth c H locs Q D cI cZ cO ad bs A lsA F hl hH hS (fun H1 locs1 ls1 h1 h2 h3 => K p l e R s m args below meth c H1 locs1 Q D cI cZ cO ad bs A ls1 F h2 h1 h3 hQ)
theorem zR_iconst (pc' : Nat) (hn : pc + 1 = pc') {i : Int} (v : Int32) (hv : Int32.ofInt i = v) (hdg : decode g.2.1 pc = .ok (.iconst i, 1)) (K : zR g (n, E, cs, sl, pc', ls, .int v :: st) B) : zR g (n, E, cs, sl, pc, ls, st) B := by
  subst hn
  exact zR_step (fun p l e R s m args below meth c H locs Q D cI cZ cO ad bs A lsA F hl hH hS k => lv_iconst F.1 F.2.1 hdg hv (k H locs lsA hH hl hS)) K
theorem zR_bipush (pc' : Nat) (hn : pc + 2 = pc') {i : Int} (v : Int32) (hv : (Int8.ofInt i).toInt32 = v) (hdg : decode g.2.1 pc = .ok (.bipush i, 2)) (K : zR g (n, E, cs, sl, pc', ls, .int v :: st) B) : zR g (n, E, cs, sl, pc, ls, st) B := by
  subst hn
  exact zR_step (fun p l e R s m args below meth c H locs Q D cI cZ cO ad bs A lsA F hl hH hS k => lv_bipush F.1 F.2.1 hdg hv (k H locs lsA hH hl hS)) K
theorem zR_sipush (pc' : Nat) (hn : pc + 3 = pc') {i : Int} (v : Int32) (hv : (Int16.ofInt i).toInt32 = v) (hdg : decode g.2.1 pc = .ok (.sipush i, 3)) (K : zR g (n, E, cs, sl, pc', ls, .int v :: st) B) : zR g (n, E, cs, sl, pc, ls, st) B := by
  subst hn
  exact zR_step (fun p l e R s m args below meth c H locs Q D cI cZ cO ad bs A lsA F hl hH hS k => lv_sipush F.1 F.2.1 hdg hv (k H locs lsA hH hl hS)) K
theorem zR_aload_n (pc' : Nat) (hn : pc + 1 = pc') (q : Nat) {i : Fin 4} {x : Nat} (hl0 : ls[q]? = some ((i : Nat), .ref x)) (hdg : decode g.2.1 pc = .ok (.aload_n i, 1)) (K : zR g (n, E, cs, sl, pc', ls, .ref x :: st) B) : zR g (n, E, cs, sl, pc, ls, st) B := by
  subst hn
  exact zR_step (fun p l e R s m args below meth c H locs Q D cI cZ cO ad bs A lsA F hl hH hS k => lv_aload_n F.1 F.2.1 hdg rfl (lv_at hl q (by rw [List.getElem?_map, hl0]; rfl)) (k H locs lsA hH hl hS)) K
theorem zR_iload_n (pc' : Nat) (hn : pc + 1 = pc') (q : Nat) {i : Fin 4} {x : Int32} (hl0 : ls[q]? = some ((i : Nat), .int x)) (hdg : decode g.2.1 pc = .ok (.iload_n i, 1)) (K : zR g (n, E, cs, sl, pc', ls, .int x :: st) B) : zR g (n, E, cs, sl, pc, ls, st) B := by
  subst hn
  exact zR_step (fun p l e R s m args below meth c H locs Q D cI cZ cO ad bs A lsA F hl hH hS k => lv_iload_n F.1 F.2.1 hdg rfl (lv_at hl q (by rw [List.getElem?_map, hl0]; rfl)) (k H locs lsA hH hl hS)) K
theorem zR_istore_n (pc' : Nat) (hn : pc + 1 = pc') {k : Fin 4} {x : Int32} {ls' : List (Nat × Value)} (hdg : decode g.2.1 pc = .ok (.istore_n k, 1)) (hi : (k : Nat) < g.2.2.1) (hls : ((k : Nat), Value.int x) :: ls.filter (fun q => !(q.1 == (k : Nat)) && !(q.1 + 1 == (k : Nat) && q.2.category == 2)) = ls') (K : zR g (n, E, cs, sl, pc', ls', st) B) : zR g (n, E, cs, sl, pc, ls, .int x :: st) B := by
  subst hn
  subst hls
  exact zR_step (fun p l e R s m args below meth c H locs Q D cI cZ cO ad bs A lsA F hl hH hS kk => lv_istore_n F.1 F.2.1 hdg rfl hl hi (by rw [zl_filter]; rfl) (fun ls1 h1 => kk H locs ls1 hH h1 hS)) K
theorem zR_astore_n (pc' : Nat) (hn : pc + 1 = pc') {k : Fin 4} {x : Nat} {ls' : List (Nat × Value)} (hdg : decode g.2.1 pc = .ok (.astore_n k, 1)) (hi : (k : Nat) < g.2.2.1) (hls : ((k : Nat), Value.ref x) :: ls.filter (fun q => !(q.1 == (k : Nat)) && !(q.1 + 1 == (k : Nat) && q.2.category == 2)) = ls') (K : zR g (n, E, cs, sl, pc', ls', st) B) : zR g (n, E, cs, sl, pc, ls, .ref x :: st) B := by
  subst hn
  subst hls
  exact zR_step (fun p l e R s m args below meth c H locs Q D cI cZ cO ad bs A lsA F hl hH hS kk => lv_astore_n F.1 F.2.1 hdg rfl hl hi (by rw [zl_filter]; rfl) (fun ls1 h1 => kk H locs ls1 hH h1 hS)) K
theorem zR_iinc (pc' : Nat) (hn : pc + 3 = pc') (q : Nat) {i : Nat} {d : Int} {x : Int32} (v : Int32) {ls' : List (Nat × Value)} (hdg : decode g.2.1 pc = .ok (.iinc i d, 3)) (hl0 : ls[q]? = some (i, .int x)) (hi : i < g.2.2.1) (hv : x + Int32.ofInt d = v) (hls : (i, Value.int v) :: ls.filter (fun q => !(q.1 == i) && !(q.1 + 1 == i && q.2.category == 2)) = ls') (K : zR g (n, E, cs, sl, pc', ls', st) B) : zR g (n, E, cs, sl, pc, ls, st) B := by
  subst hn
  subst hls
  exact zR_step (fun p l e R s m args below meth c H locs Q D cI cZ cO ad bs A lsA F hl hH hS kk => lv_iinc F.1 F.2.1 hdg hl (k := q) (by rw [List.getElem?_map, hl0]; rfl) hv hi (by rw [zl_filter]; rfl) (fun ls1 h1 => kk H locs ls1 hH h1 hS)) K
theorem zR_iadd (pc' : Nat) (hn : pc + 1 = pc') {x y : Int32} (z : Int32) (hz : x + y = z) (hdg : decode g.2.1 pc = .ok (.iadd, 1)) (K : zR g (n, E, cs, sl, pc', ls, .int z :: st) B) : zR g (n, E, cs, sl, pc, ls, .int y :: .int x :: st) B := by
  subst hn
  subst hz
  exact zR_step (fun p l e R s m args below meth c H locs Q D cI cZ cO ad bs A lsA F hl hH hS k => lv_iadd F.1 F.2.1 hdg (k H locs lsA hH hl hS)) K
theorem zR_imul (pc' : Nat) (hn : pc + 1 = pc') {x y : Int32} (z : Int32) (hz : x * y = z) (hdg : decode g.2.1 pc = .ok (.imul, 1)) (K : zR g (n, E, cs, sl, pc', ls, .int z :: st) B) : zR g (n, E, cs, sl, pc, ls, .int y :: .int x :: st) B := by
  subst hn
  subst hz
  exact zR_step (fun p l e R s m args below meth c H locs Q D cI cZ cO ad bs A lsA F hl hH hS k => lv_imul F.1 F.2.1 hdg (k H locs lsA hH hl hS)) K
theorem zR_goto (pc' : Nat) {off : Int} (hdg : decode g.2.1 pc = .ok (.goto off, 3)) (ht : (pc : Int) + off = (pc' : Int)) (K : zR g (n, E, cs, sl, pc', ls, st) B) : zR g (n, E, cs, sl, pc, ls, st) B :=
  zR_step (fun p l e R s m args below meth c H locs Q D cI cZ cO ad bs A lsA F hl hH hS k => lv_goto F.1 F.2.1 hdg ht (k H locs lsA hH hl hS)) K
theorem zR_ge_t (pc' : Nat) {off : Int} {x y : Int32} (hdg : decode g.2.1 pc = .ok (.if_icmp .ge off, 3)) (ht : (pc : Int) + off = (pc' : Int)) (hc : y ≤ x) (K : zR g (n, E, cs, sl, pc', ls, st) B) : zR g (n, E, cs, sl, pc, ls, .int y :: .int x :: st) B :=
  zR_step (fun p l e R s m args below meth c H locs Q D cI cZ cO ad bs A lsA F hl hH hS k => lv_icmp_ge F.1 F.2.1 hdg ht (fun _ => k H locs lsA hH hl hS) (fun h => absurd hc h)) K
theorem zR_ge_f (pc' : Nat) (hn : pc + 3 = pc') (tgt : Nat) {off : Int} {x y : Int32} (hdg : decode g.2.1 pc = .ok (.if_icmp .ge off, 3)) (ht : (pc : Int) + off = (tgt : Int)) (hc : ¬ y ≤ x) (K : zR g (n, E, cs, sl, pc', ls, st) B) : zR g (n, E, cs, sl, pc, ls, .int y :: .int x :: st) B := by
  subst hn
  exact zR_step (fun p l e R s m args below meth c H locs Q D cI cZ cO ad bs A lsA F hl hH hS k => lv_icmp_ge F.1 F.2.1 hdg ht (fun h => absurd h hc) (fun _ => k H locs lsA hH hl hS)) K
theorem zR_objInit (pc' : Nat) (hn : pc + 3 = pc') {idx k : Nat} (hdg : decode g.2.1 pc = .ok (.invokespecial idx, 3)) (h1 : Cond.methodLink g.1.cls idx objectInit ∈ lw_gd) (h2 : Cond.instanceMethod objectInit ∈ lw_gd) (h3 : Cond.code objectInit ⟨#[0xb1]⟩ 1 none ∈ lw_gd) (hd : 1 ≤ g.2.2.2.1) (hr : (st.map fun v => v.category).sum ≤ 8) (K : zR g (n, E, cs, sl, pc', ls, st) B) : zR g (n, E, cs, sl, pc, ls, .ref k :: st) B := by
  subst hn
  exact zR_step (fun p l e R s m args below meth c H locs Q D cI cZ cO ad bs A lsA F hl hH hS kk => W.objInit F.1 F.2.1 F.2.2.2.1 (F.2.2.2.2.1 _ h1) (F.2.2.2.2.1 _ h2) (F.2.2.2.2.1 _ h3) rfl (hl.1.trans F.2.2.1.symm) rfl hdg (Nat.le_trans hd F.2.2.2.2.2.1.1) (by have := F.2.2.2.2.2.1.2.1; show 2 * 0 + ((st.map (zv ad)).map fun v => v.category).sum + 12 ≤ R.locals; rw [zl_cat]; omega) (W.eq (g2 := F0 m (pc + 3) lsA (st.map (zv ad))) rfl (kk H locs lsA hH hl hS))) K
theorem kRA {D : va_G} {cl : List vw_C} {cI cZ cO : ClassId} {s : State} (h : va_K D cl (zTys cI cZ cO) s) : s.vm.findClass ("[" ++ FieldType.int.toString) = some cI ∧ s.vm.findClass ("[" ++ FieldType.boolean.toString) = some cZ ∧ s.vm.findClass ("[" ++ (FieldType.object "HotSprings$Order").toString) = some cO := by
  obtain ⟨_, _, _, _, _, h3⟩ := (h.2 2 _ rfl).2
  exact ⟨(h.2 0 _ rfl).2, (h.2 1 _ rfl).2, h3⟩
theorem zR_newi (pc' : Nat) (hn : pc + 2 = pc') {x : Int32} (N : Nat) {E' : kE} (hx : ¬ x < 0) (hN : x.toNatClampNeg = N) (hN9 : N ≤ 100000) (hn9 : n < 250) (hE : ∀ cI cZ cO ad j, j < n → E' cI cZ cO ad j = E cI cZ cO ad j) (hE2 : ∀ cI cZ cO ad, E' cI cZ cO ad n = .inl (cI, N, .inl (fun _ => 0))) (hcs : cs + 1 ≤ g.2.2.2.2.1) (hsl : sl + N ≤ g.2.2.2.2.2) (hdg : decode g.2.1 pc = .ok (.newarray .int, 2)) (ha : Cond.arrayClass .int ∈ lw_gd) (K : zR g (n + 1, E', cs + 1, sl + N, pc', ls, .ref n :: st) B) : zR g (n, E, cs, sl, pc, ls, .int x :: st) B := by
  subst hn
  refine zR_step (fun p l e R s m args below meth c H locs Q D cI cZ cO ad bs A lsA F hl hH hS kk => ?_) K
  obtain ⟨hx1, hb, hml, hown, hts, ⟨r1, r2, r3, r4⟩, hSt, hA, hini, had, hAO, hAk⟩ := F
  refine va_newaK (atype := .int) (rest := st.map (zv ad)) hx1 hb (hts _ ha) rfl hdg rfl hx hN (by show N * 4 ≤ 536870912; omega) (by omega) (by omega) hH.2.2 (fun H' cA e1 e2 e3 e4 e5 => ?_)
  have hcA : cA = cI := by
    have h1 := (kRA hSt.1).1
    exact Option.some.inj (e5.symm.trans h1)
  subst hcA
  have hb0 : s.heap.size ≤ bs + n := by rw [← hH.2.2]; exact hS.1
  have e0 : (ad n : Nat) = bs + n := had n hn9
  refine W.eq (g2 := F0 m (pc + 2) lsA ((Value.ref n :: st).map (zv ad))) (by show _ = F0 m (pc + 2) lsA (Value.ref (ad n) :: st.map (zv ad)); rw [e0]) (kk H' locs lsA (hH.push e0 (hA _ hb0) (hE cA cZ cO ad) (by rw [e2, hH.2.2]) (fun q hq => e3 q (by rw [← hH.2.2]; exact hq)) ?_) hl ⟨Nat.le_trans hS.1 (by rw [e2, hH.2.2]; omega), fun q h1 h2 => (e3 q (by rw [← hH.2.2]; exact Nat.lt_of_lt_of_le h1 hS.1)).trans (hS.2.1 q h1 h2), hS.2.2⟩)
  rw [hE2, e0]
  exact e1
theorem zR_newz (pc' : Nat) (hn : pc + 2 = pc') {x : Int32} (N : Nat) {E' : kE} (hx : ¬ x < 0) (hN : x.toNatClampNeg = N) (hN9 : N ≤ 100000) (hn9 : n < 250) (hE : ∀ cI cZ cO ad j, j < n → E' cI cZ cO ad j = E cI cZ cO ad j) (hE2 : ∀ cI cZ cO ad, E' cI cZ cO ad n = .inl (cZ, N, .inl (fun _ => 0))) (hcs : cs + 1 ≤ g.2.2.2.2.1) (hsl : sl + N ≤ g.2.2.2.2.2) (hdg : decode g.2.1 pc = .ok (.newarray .boolean, 2)) (ha : Cond.arrayClass .boolean ∈ lw_gd) (K : zR g (n + 1, E', cs + 1, sl + N, pc', ls, .ref n :: st) B) : zR g (n, E, cs, sl, pc, ls, .int x :: st) B := by
  subst hn
  refine zR_step (fun p l e R s m args below meth c H locs Q D cI cZ cO ad bs A lsA F hl hH hS kk => ?_) K
  obtain ⟨hx1, hb, hml, hown, hts, ⟨r1, r2, r3, r4⟩, hSt, hA, hini, had, hAO, hAk⟩ := F
  refine va_newaK (atype := .boolean) (rest := st.map (zv ad)) hx1 hb (hts _ ha) rfl hdg rfl hx hN (by show N * 1 ≤ 536870912; omega) (by omega) (by omega) hH.2.2 (fun H' cA e1 e2 e3 e4 e5 => ?_)
  have hcA : cA = cZ := by
    have h1 := (kRA hSt.1).2.1
    exact Option.some.inj (e5.symm.trans h1)
  subst hcA
  have hb0 : s.heap.size ≤ bs + n := by rw [← hH.2.2]; exact hS.1
  have e0 : (ad n : Nat) = bs + n := had n hn9
  refine W.eq (g2 := F0 m (pc + 2) lsA ((Value.ref n :: st).map (zv ad))) (by show _ = F0 m (pc + 2) lsA (Value.ref (ad n) :: st.map (zv ad)); rw [e0]) (kk H' locs lsA (hH.push e0 (hA _ hb0) (hE cI cA cO ad) (by rw [e2, hH.2.2]) (fun q hq => e3 q (by rw [← hH.2.2]; exact hq)) ?_) hl ⟨Nat.le_trans hS.1 (by rw [e2, hH.2.2]; omega), fun q h1 h2 => (e3 q (by rw [← hH.2.2]; exact Nat.lt_of_lt_of_le h1 hS.1)).trans (hS.2.1 q h1 h2), hS.2.2⟩)
  rw [hE2, e0]
  exact e1
theorem zR_newq (pc' : Nat) (hn : pc + 3 = pc') {x : Int32} {index : Nat} (N : Nat) {E' : kE} (hx : ¬ x < 0) (hN : x.toNatClampNeg = N) (hN9 : N ≤ 100000) (hn9 : n < 250) (hE : ∀ cI cZ cO ad j, j < n → E' cI cZ cO ad j = E cI cZ cO ad j) (hE2 : ∀ cI cZ cO ad, E' cI cZ cO ad n = .inl (cO, N, .inr (.inr (.inr (.inr (fun _ => none)))))) (hcs : cs + 1 ≤ g.2.2.2.2.1) (hsl : sl + N ≤ g.2.2.2.2.2) (hdg : decode g.2.1 pc = .ok (.anewarray index, 3)) (ha : Cond.classLink g.1.cls index "HotSprings$Order" ∈ lw_gd) (K : zR g (n + 1, E', cs + 1, sl + N, pc', ls, .ref n :: st) B) : zR g (n, E, cs, sl, pc, ls, .int x :: st) B := by
  subst hn
  refine zR_step (fun p l e R s m args below meth c H locs Q D cI cZ cO ad bs A lsA F hl hH hS kk => ?_) K
  obtain ⟨hx1, hb, hml, hown, hts, ⟨r1, r2, r3, r4⟩, hSt, hA, hini, had, hAO, hAk⟩ := F
  subst hN
  refine W.anew (rest := st.map (zv ad)) hx1 hb hown (hts _ ha) (va_AO.use hAO) rfl hdg rfl hx (by omega) (by omega) (by omega) (fun cA kA comp f1 f2 f3 f4 => ?_)
  generalize hH1 : H.push ({ cls := cA, slots := Array.replicate x.toNatClampNeg .null, vm := .none } : Cell) = H1
  have z1 : H1.size = H.size + 1 := by rw [← hH1, Array.size_push]
  have e1 : H1[H.size]? = some (arrV cA x.toNatClampNeg (fun _ => .null)) := by rw [← hH1, Array.getElem?_push_size, ← arrV_new]
  have o1 : ∀ q : Nat, q < H.size → H1[q]? = H[q]? := fun q hq => by rw [← hH1, Array.getElem?_push, if_neg (Nat.ne_of_lt hq)]
  have hcA : cA = cO := Option.some.inj (f1.symm.trans (kRA hSt.1).2.2)
  subst hcA
  have hb0 : s.heap.size ≤ bs + n := by rw [← hH.2.2]; exact hS.1
  have e0 : (ad n : Nat) = bs + n := had n hn9
  have e9 : H.size = bs + n := hH.2.2
  refine W.eq (g2 := F0 m (pc + 3) lsA ((Value.ref n :: st).map (zv ad))) (by show _ = F0 m (pc + 3) lsA (Value.ref (ad n) :: st.map (zv ad)); rw [e0, ← e9]) (kk H1 locs lsA (hH.push e0 (hA _ hb0) (hE cI cZ cA ad) z1 o1 ?_) hl ⟨Nat.le_trans hS.1 (by omega), fun q h1 h2 => (o1 q (Nat.lt_of_lt_of_le h1 hS.1)).trans (hS.2.1 q h1 h2), hS.2.2⟩)
  rw [hE2, e0, ← e9]
  exact e1
end KR
