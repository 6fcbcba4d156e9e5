/-! THE WORLD: cells by number; what stands in each is an int by cell and place (a reference that never changes is read off the shape) -/
def zFv (ad : Nat → Nat) (k ci j : Nat) (x : Int32) : Value := match zFk ci j with
  | 0 => .int x
  | 1 => if x = 0 then .null else .ref (ad x.toNatClampNeg)
  | n + 2 => .ref (ad (k + n))
def zFs (ad : Nat → Nat) (k ci n : Nat) (f : Nat → Int32) : List Value := (List.range n).map (fun j => zFv ad k ci j (f j))
def zEnt (cI cZ cO : ClassId) (ad : Nat → Nat) (w : zWd) (k : Nat) : va_E :=
  if (zShp k).1 < 13 then .inr ((zShp k).1, zFs ad k (zShp k).1 (zShp k).2 (w k))
  else if (zShp k).1 = 20 then .inl (cI, (zShp k).2, .inl (w k))
  else if (zShp k).1 = 21 then .inl (cZ, (zShp k).2, .inl (w k))
  else .inl (cO, (zShp k).2, .inr (.inr (.inr (.inr (fun i => some (ad (k + 1 + 6 * i)))))))
def zWs (cI cZ cO : ClassId) (ad : Nat → Nat) (w : zWd) : va_W := (List.range 250).map (fun k => (ad k, zEnt cI cZ cO ad w k))
def zup (w : zWd) (k j : Nat) (v : Int32) : zWd := fun a => if a = k then upd (w a) j v else w a
def zcp (w : zWd) (k1 p1 k2 p2 n : Nat) : zWd := fun a => if a = k2 then va_cpy (w k1) (w a) p1 p2 n else w a
theorem zWs_at (cI cZ cO : ClassId) (ad : Nat → Nat) (w : zWd) {k : Nat} (hk : k < 250) : (zWs cI cZ cO ad w)[k]? = some (ad k, zEnt cI cZ cO ad w k) := by
  simp [zWs, List.getElem?_map, List.getElem?_range hk]
theorem zEnt_eq (cI cZ cO : ClassId) (ad : Nat → Nat) {w w' : zWd} {k : Nat} (h : w k = w' k) : zEnt cI cZ cO ad w k = zEnt cI cZ cO ad w' k := by
  unfold zEnt; rw [h]
theorem zWs_set (cI cZ cO : ClassId) (ad : Nat → Nat) {w w' : zWd} {k : Nat} (hk : k < 250) (h : ∀ a, a ≠ k → w' a = w a) : (zWs cI cZ cO ad w).set k (ad k, zEnt cI cZ cO ad w' k) = zWs cI cZ cO ad w' := by
  apply List.ext_getElem?
  intro i
  by_cases hi : i = k
  · subst hi
    rw [List.getElem?_set_self (by simp [zWs]; exact hk), zWs_at _ _ _ _ _ hk]
  · rw [List.getElem?_set_ne (Ne.symm hi)]
    by_cases hl : i < 250
    · rw [zWs_at _ _ _ _ _ hl, zWs_at _ _ _ _ _ hl, zEnt_eq cI cZ cO ad (h i hi)]
    · rw [List.getElem?_eq_none (by simp [zWs]; omega), List.getElem?_eq_none (by simp [zWs]; omega)]
theorem zEnt_obj (cI cZ cO : ClassId) (ad : Nat → Nat) (w : zWd) {k ci n : Nat} (h : zShp k = (ci, n)) (hc : ci < 13) : zEnt cI cZ cO ad w k = .inr (ci, zFs ad k ci n (w k)) := by
  unfold zEnt; rw [h]; simp [hc]
theorem zEnt_int (cI cZ cO : ClassId) (ad : Nat → Nat) (w : zWd) {k n : Nat} (h : zShp k = (20, n)) : zEnt cI cZ cO ad w k = .inl (cI, n, .inl (w k)) := by
  unfold zEnt; rw [h]; simp
theorem zEnt_boo (cI cZ cO : ClassId) (ad : Nat → Nat) (w : zWd) {k n : Nat} (h : zShp k = (21, n)) : zEnt cI cZ cO ad w k = .inl (cZ, n, .inl (w k)) := by
  unfold zEnt; rw [h]; simp
theorem zEnt_ord (cI cZ cO : ClassId) (ad : Nat → Nat) (w : zWd) {k n : Nat} (h : zShp k = (22, n)) : zEnt cI cZ cO ad w k = .inl (cO, n, .inr (.inr (.inr (.inr (fun i => some (ad (k + 1 + 6 * i))))))) := by
  unfold zEnt; rw [h]; simp
theorem zFs_at (ad : Nat → Nat) (k ci : Nat) (f : Nat → Int32) {n j : Nat} (hj : j < n) : (zFs ad k ci n f)[j]? = some (zFv ad k ci j (f j)) := by
  simp [zFs, List.getElem?_map, List.getElem?_range hj]
theorem zFs_len (ad : Nat → Nat) (k ci : Nat) (f : Nat → Int32) (n : Nat) : (zFs ad k ci n f).length = n := by simp [zFs]
theorem zFs_set (ad : Nat → Nat) (k ci : Nat) (f : Nat → Int32) {n j : Nat} (x : Int32) (hj : j < n) : (zFs ad k ci n f).set j (zFv ad k ci j x) = zFs ad k ci n (upd f j x) := by
  apply List.ext_getElem?
  intro i
  by_cases hi : i = j
  · subst hi
    rw [List.getElem?_set_self (by rw [zFs_len]; exact hj), zFs_at _ _ _ _ hj]
    simp [upd]
  · rw [List.getElem?_set_ne (Ne.symm hi)]
    by_cases hl : i < n
    · rw [zFs_at _ _ _ _ hl, zFs_at _ _ _ _ hl]; simp [upd, hi]
    · rw [List.getElem?_eq_none (by rw [zFs_len]; omega), List.getElem?_eq_none (by rw [zFs_len]; omega)]
theorem zup_self (w : zWd) (k j : Nat) (v : Int32) : zup w k j v k = upd (w k) j v := by simp [zup]
theorem zup_ne (w : zWd) (k j : Nat) (v : Int32) : ∀ a, a ≠ k → zup w k j v a = w a := fun a h => by simp [zup, h]
def zHold (D : va_G) (cI cZ cO : ClassId) (ad : Nat → Nat) (A : Nat → Prop) (w : zWd) (H : Heap) : Prop := va_P D vwCl (zWs cI cZ cO ad w) H ∧ va_D A (zWs cI cZ cO ad w)
/-- behind a store -/
theorem zHold.set {D : va_G} {cI cZ cO : ClassId} {ad : Nat → Nat} {A : Nat → Prop} {w w' : zWd} {H1 : Heap} {k : Nat} {e : va_E} (hk : k < 250) (hn : ∀ a, a ≠ k → w' a = w a) (he : e = zEnt cI cZ cO ad w' k)
    (h1 : va_P D vwCl ((zWs cI cZ cO ad w).set k (ad k, e)) H1) (h2 : va_D A ((zWs cI cZ cO ad w).set k (ad k, e))) : zHold D cI cZ cO ad A w' H1 := by
  subst he
  rw [zWs_set cI cZ cO ad hk hn] at h1 h2
  exact ⟨h1, h2⟩
/-- what stands for a formatter that is only carried: null, or some object -/
def zFm (ad : Nat → Nat) : Value := if ad 288 = 0 then .null else .ref (ad 289)
def zv (ad : Nat → Nat) (v : Value) : Value := match v with
  | .ref k => .ref (ad k)
  | .float _ => zFm ad
  | x => x
theorem zFm_cat (ad : Nat → Nat) : (zFm ad).category = 1 := by unfold zFm; split <;> rfl
theorem zv_cat (ad : Nat → Nat) (v : Value) : (zv ad v).category = v.category := by cases v <;> first | rfl | exact zFm_cat ad
def zl (ad : Nat → Nat) (q : Nat × Value) : Nat × Value := (q.1, zv ad q.2)
theorem zl_filter (ad : Nat → Nat) (i : Nat) (ls : List (Nat × Value)) : (ls.map (zl ad)).filter (fun q => !(q.1 == i) && !(q.1 + 1 == i && q.2.category == 2)) = (ls.filter (fun q => !(q.1 == i) && !(q.1 + 1 == i && q.2.category == 2))).map (zl ad) := by
  rw [List.filter_map]
  congr 1
  apply List.filter_congr
  intro x _
  simp [zl, zv_cat]
theorem zl_filter2 (ad : Nat → Nat) (i : Nat) (ls : List (Nat × Value)) : (ls.map (zl ad)).filter (fun q => !(q.1 == i) && !(q.1 == i + 1) && !(q.1 + 1 == i && q.2.category == 2)) = (ls.filter (fun q => !(q.1 == i) && !(q.1 == i + 1) && !(q.1 + 1 == i && q.2.category == 2))).map (zl ad) := by
  rw [List.filter_map]
  congr 1
  apply List.filter_congr
  intro x _
  simp [zl, zv_cat]
theorem zl_cat (ad : Nat → Nat) (st : List Value) : (((st.map (zv ad)).map fun v => v.category)).sum = (st.map fun v => v.category).sum := by
  congr 1
  rw [List.map_map]
  apply List.map_congr_left
  intro x _
  exact zv_cat ad x
/-! what stands around a method: the classes, the arrays' classes, the nest's words, the tables that nobody writes -/
def zNM : List (String × Nat × MethodName × String) := [("HotSprings", 9, yX10_init, "HotSprings"), ("HotSprings$World", 11, yX0_init, "HotSprings"), ("HotSprings$World", 20, yX9_init, "HotSprings"), ("HotSprings$OrderBook", 17, yX2_init, "HotSprings"), ("HotSprings$World", 34, yX8_init, "HotSprings"), ("HotSprings$World", 41, yX6_init, "HotSprings"), ("HotSprings", 25, yX0_init, "HotSprings"), ("HotSprings", 32, yX4_init, "HotSprings"), ("HotSprings", 39, yX5_init, "HotSprings"), ("HotSprings", 46, yX1_init, "HotSprings"), ("HotSprings", 53, yX7_init, "HotSprings"), ("HotSprings$World", 84, yX11_distance, "HotSprings"), ("HotSprings$Mix", 72, yX11_within, "HotSprings"), ("HotSprings$Sets", 34, yX11_within, "HotSprings")]
def zSV : List (String × List Int32) := [("MOST_UNDER", [1500, 9999, 99, 999]), ("WITHOUT_ORDER", [100, 99, 1, 99, 0, 0]), ("KIND_ABOVE", [-1, 0, 0, 0, 2, 4])]
def zNF : List (String × Nat × String) := [("HotSprings$Ground", 9, "MOST_UNDER"), ("HotSprings$OrderBook", 35, "WITHOUT_ORDER")]
def zTx : List (String × Nat × String × List Int32) := [("HotSprings$Reader", 82, "rank", [114, 97, 110, 107]), ("HotSprings$Reader", 84, "deep", [100, 101, 101, 112]), ("HotSprings$Reader", 86, "apart", [97, 112, 97, 114, 116]), ("HotSprings$Reader", 88, "lapse", [108, 97, 112, 115, 101]), ("HotSprings$Reader", 90, "least", [108, 101, 97, 115, 116]), ("HotSprings$Reader", 92, "share", [115, 104, 97, 114, 101]), ("HotSpringsModel", 164, "rank ", [114, 97, 110, 107, 32]), ("HotSpringsModel", 170, "deep ", [100, 101, 101, 112, 32]), ("HotSpringsModel", 172, "apart ", [97, 112, 97, 114, 116, 32]), ("HotSpringsModel", 174, "share ", [115, 104, 97, 114, 101, 32]), ("HotSpringsModel", 176, "apse ", [97, 112, 115, 101, 32]), ("HotSpringsModel", 178, "east ", [101, 97, 115, 116, 32])]
def zTl : List Nat := zTx.map (fun q => q.2.2.2.length)
def zTb : List (List Int32) := zTx.map (fun q => q.2.2.2)
abbrev zTys (cI cZ cO : ClassId) : List (ClassId × FieldType) := [(cI, .int), (cZ, .boolean), (cO, .object "HotSprings$Order")]
def zSt (D : va_G) (cI cZ cO : ClassId) (ad : Nat → Nat) (A : Nat → Prop) (U : State) (H : Heap) : Prop :=
  va_K D vwCl (zTys cI cZ cO) U ∧ (∀ q ∈ zNM, va_Nw (.methodLinkNest q.1 q.2.1 q.2.2.1 q.2.2.2) U) ∧ (∀ q ∈ zNF, va_Nw (.fieldLinkNest q.1 q.2.1 "HotSprings" q.2.2 "[I" "HotSprings") U)
  ∧ (∀ (i : Nat) (q : String × List Int32), zSV[i]? = some q → va_Z "HotSprings" q.1 "[I" (.ref (ad (250 + i))) A U H ∧ va_T .int (ad (250 + i)) q.2.length (fun j => .int (q.2.getD j 0)) A U H)
  ∧ vk_S 12 zTl zTb (fun i => ad (253 + i)) (fun i => ad (270 + i)) A U H
  ∧ (∀ (i : Nat) (q : String × Nat × String × List Int32), zTx[i]? = some q → vk_R q.1 q.2.1 q.2.2.1 (ad (253 + i)) U)
  ∧ va_Z "java/lang/String" "COMPACT_STRINGS" "Z" (.int 1) A U H
  ∧ va_Z "jdk/internal/util/Preconditions" "SIOOBE_FORMATTER" "Ljava/util/function/BiFunction;" (zFm ad) A U H
theorem zSt.to {D : va_G} {cI cZ cO : ClassId} {ad : Nat → Nat} {A B : Nat → Prop} {s U : State} {H1 : Heap} (h : zSt D cI cZ cO ad A s s.heap) (hH : ∀ q : Nat, q < s.heap.size → ¬ A q → H1[q]? = s.heap[q]?) (hW : s.WarmedH U.vm) (hAB : ∀ q, B q → A q) : zSt D cI cZ cO ad B U H1 := by
  obtain ⟨h1, h2, h3, h4, h5, h6, h7, h8⟩ := h
  refine ⟨va_K.moved hW.alike h1, fun q hq => va_Nw.warmM hW (h2 q hq), fun q hq => va_Nw.warmF hW (h3 q hq), fun i q hq => ⟨?_, ?_⟩, ?_, fun i q hq => vk_R.warm hW (h6 i q hq), ?_, ?_⟩
  · exact (va_Z.moved hW.alike ((h4 i q hq).1.kept hH)).narrow hAB
  · exact (va_T.moved hW.alike ((h4 i q hq).2.kept hH)).narrow hAB
  · exact (vk_S.moved hW.alike (h5.kept hH)).narrow hAB
  · exact (va_Z.moved hW.alike (h7.kept hH)).narrow hAB
  · exact (va_Z.moved hW.alike (h8.kept hH)).narrow hAB
theorem zSt.blind {D : va_G} {cI cZ cO : ClassId} {ad : Nat → Nat} {A : Nat → Prop} {U : State} {H : Heap} {g : JFrame} {mk : MethodId} {a : Array Value} (h : zSt D cI cZ cO ad A U H) : zSt D cI cZ cO ad A (U.calling g mk a) H := by
  obtain ⟨h1, h2, h3, h4, h5, h6, h7, h8⟩ := h
  have e : U.vm.Alike (U.calling g mk a).vm := Vm.Alike.refl U.vm
  exact ⟨va_K.moved e h1, fun q hq => va_Nw.same rfl rfl (h2 q hq), fun q hq => va_Nw.same rfl rfl (h3 q hq), fun i q hq => ⟨va_Z.moved e (h4 i q hq).1, va_T.moved e (h4 i q hq).2⟩, vk_S.moved e h5, fun i q hq => vk_R.same rfl (h6 i q hq), va_Z.moved e h7, va_Z.moved e h8⟩
/-! a method: its name, code, locals, answer, how deep its calls go, what else stands (the law's script) -/
abbrev zMth : Type := MethodName × ByteArray × Nat × Option FieldType × Nat × (State → (Nat → Nat) → (Nat → Prop) → Prop)
def zE0 : State → (Nat → Nat) → (Nat → Prop) → Prop := fun _ _ _ => True
def zFx (g : zMth) (p : Program) (R : Room) (s : State) (m : MethodId) (args : Array Value) (meth : Method) (c : Code) (cells slots : Nat) (D : va_G) (cI cZ cO : ClassId) (ad : Nat → Nat) (A : Nat → Prop) : Prop :=
  p.tables.exec = Jvm.exec ∧ c.code = g.2.1 ∧ meth.sig.returnType = g.2.2.2.1 ∧ c.maxLocals = g.2.2.1 ∧ s.vm.findClass g.1.cls = some m.cls ∧ (∀ w ∈ lw_gd, w.before args s = true)
  ∧ (g.2.2.2.2.1 ≤ R.frames ∧ 60 * g.2.2.2.2.1 ≤ R.locals ∧ cells ≤ R.cells ∧ slots ≤ R.slots) ∧ zSt D cI cZ cO ad A s s.heap ∧ (∀ q, s.heap.size ≤ q → A q) ∧ g.2.2.2.2.2 s ad A
def zRet (g : zMth) (pc : Nat) (r : Option Value) : Prop := match r with
  | none => decode g.2.1 pc = .ok (.return_, 1) ∧ g.2.2.2.1 = none
  | some (.int v) => decode g.2.1 pc = .ok (.ireturn, 1) ∧ ∃ ty, g.2.2.2.1 = some ty ∧ narrow ty (.int v) = .int v
  | some (.ref _) => decode g.2.1 pc = .ok (.areturn, 1) ∧ ∃ rt, g.2.2.2.1 = some rt ∧ ((∃ n, rt = .object n) ∨ ∃ t, rt = .array t)
  | _ => False
/-- from this point the method comes to its end: its answer is r, its world is w' then -/
def zG (g : zMth) (pc : Nat) (ls : List (Nat × Value)) (st : List Value) (w : zWd) (r : Option Value) (w' : zWd) : Prop :=
  ∀ (p : Program) (l : Launch) (e : Env) (R : Room) (s : State) (m : MethodId) (args : Array Value) (below : List Frame) (meth : Method) (c : Code) (H : Heap) (locs : List Loc) (cells slots : Nat) (Q : State → Prop) (D : va_G) (cI cZ cO : ClassId) (ad : Nat → Nat) (A : Nat → Prop) (lsA : Array Slot),
    zFx g p R s m args meth c cells slots D cI cZ cO ad A → lv_has lsA g.2.2.1 (ls.map (zl ad)) → zHold D cI cZ cO ad A w H → va_S A s.heap H locs →
    (∀ (H1 : Heap) (locs1 : List Loc) (pc1 : Nat) (ls1 : Array Slot), zHold D cI cZ cO ad A w' H1 → va_S A s.heap H1 locs1 → zRet g pc1 r → W p l e R s m args below meth c H1 locs1 cells slots Q (F0 m pc1 ls1 ((r.map (zv ad)).toList))) →
    W p l e R s m args below meth c H locs cells slots Q (F0 m pc lsA (st.map (zv ad)))
def zS {ρ : Type} (g : zMth) (emb : ρ → Option Value) (pc : Nat) (ls : List (Nat × Value)) (st : List Value) (w : zWd) (X : Option (ρ × zWd)) : Prop :=
  ∀ (r : ρ) (w' : zWd), X = some (r, w') → zG g pc ls st w (emb r) w'
def zEi : Int32 → Option Value := fun x => some (.int x)
def zEv : Unit → Option Value := fun _ => none
def zEr : Nat → Option Value := fun k => some (.ref k)
/-! the words that the methods' meanings are written in -/
def zgd {α : Type} (c : Prop) [Decidable c] (X : Option α) : Option α := if c then X else none
def zbn {α β : Type} (e : α) (f : α → Option β) : Option β := f e
def zcl {ρ α : Type} (X : Option (ρ × zWd)) (f : ρ → zWd → Option α) : Option α := match X with
  | some (r, w) => f r w
  | none => none
def zlp {σ α : Type} (F : (σ → Option α) → σ → Option α) : Nat → σ → Option α
  | 0, _ => none
  | n + 1, s => F (zlp F n) s
section ZR
variable {ρ : Type} {g : zMth} {emb : ρ → Option Value} {pc : Nat} {ls : List (Nat × Value)} {st : List Value} {w : zWd} {X : Option (ρ × zWd)}
/-- an instruction that moves neither locals nor heap -/
theorem zS_step {pc' : Nat} {st' : List Value} (h : ∀ (p : Program) (l : Launch) (e : Env) (R : Room) (s : State) (m : MethodId) (args : Array Value) (below : List Frame) (meth : Method) (c : Code) (H : Heap) (locs : List Loc) (cells slots : Nat) (Q : State → Prop) (D : va_G) (cI cZ cO : ClassId) (ad : Nat → Nat) (A : Nat → Prop) (lsA : Array Slot),
    zFx g p R s m args meth c cells slots D cI cZ cO ad A → lv_has lsA g.2.2.1 (ls.map (zl ad)) → zHold D cI cZ cO ad A w H → va_S A s.heap H locs →
    W p l e R s m args below meth c H locs cells slots Q (F0 m pc' lsA (st'.map (zv ad))) → W p l e R s m args below meth c H locs cells slots Q (F0 m pc lsA (st.map (zv ad))))
    (K : zS g emb pc' ls st' w X) : zS g emb pc ls st w X :=
  fun r w' hX p l e R s m args below meth c H locs cells slots Q D cI cZ cO ad A lsA F hl hH hS hQ => h p l e R s m args below meth c H locs cells slots Q D cI cZ cO ad A lsA F hl hH hS (K r w' hX p l e R s m args below meth c H locs cells slots Q D cI cZ cO ad A lsA F hl hH hS hQ)
/-- .. that moves locals -/
theorem zS_stepL {pc' : Nat} {st' : List Value} {ls' : List (Nat × Value)} (h : ∀ (p : Program) (l : Launch) (e : Env) (R : Room) (s : State) (m : MethodId) (args : Array Value) (below : List Frame) (meth : Method) (c : Code) (H : Heap) (locs : List Loc) (cells slots : Nat) (Q : State → Prop) (D : va_G) (cI cZ cO : ClassId) (ad : Nat → Nat) (A : Nat → Prop) (lsA : Array Slot),
    zFx g p R s m args meth c cells slots D cI cZ cO ad A → lv_has lsA g.2.2.1 (ls.map (zl ad)) →
    (∀ lsB : Array Slot, lv_has lsB g.2.2.1 (ls'.map (zl ad)) → W p l e R s m args below meth c H locs cells slots Q (F0 m pc' lsB (st'.map (zv ad)))) → W p l e R s m args below meth c H locs cells slots Q (F0 m pc lsA (st.map (zv ad))))
    (K : zS g emb pc' ls' st' w X) : zS g emb pc ls st w X :=
  fun r w' hX p l e R s m args below meth c H locs cells slots Q D cI cZ cO ad A lsA F hl hH hS hQ => h p l e R s m args below meth c H locs cells slots Q D cI cZ cO ad A lsA F hl (fun lsB hB => K r w' hX p l e R s m args below meth c H locs cells slots Q D cI cZ cO ad A lsB F hB hH hS hQ)
/-- .. that moves the heap -/
theorem zS_stepH {pc' : Nat} {st' : List Value} {w1 : zWd} (h : ∀ (p : Program) (l : Launch) (e : Env) (R : Room) (s : State) (m : MethodId) (args : Array Value) (below : List Frame) (meth : Method) (c : Code) (H : Heap) (locs : List Loc) (cells slots : Nat) (Q : State → Prop) (D : va_G) (cI cZ cO : ClassId) (ad : Nat → Nat) (A : Nat → Prop) (lsA : Array Slot),
    zFx g p R s m args meth c cells slots D cI cZ cO ad A → lv_has lsA g.2.2.1 (ls.map (zl ad)) → zHold D cI cZ cO ad A w H → va_S A s.heap H locs →
    (∀ (H1 : Heap) (locs1 : List Loc), zHold D cI cZ cO ad A w1 H1 → va_S A s.heap H1 locs1 → W p l e R s m args below meth c H1 locs1 cells slots Q (F0 m pc' lsA (st'.map (zv ad)))) → W p l e R s m args below meth c H locs cells slots Q (F0 m pc lsA (st.map (zv ad))))
    (K : zS g emb pc' ls st' w1 X) : zS g emb pc ls st w X :=
  fun r w' hX p l e R s m args below meth c H locs cells slots Q D cI cZ cO ad A lsA F hl hH hS hQ => h p l e R s m args below meth c H locs cells slots Q D cI cZ cO ad A lsA F hl hH hS (fun H1 locs1 h1 h2 => K r w' hX p l e R s m args below meth c H1 locs1 cells slots Q D cI cZ cO ad A lsA F hl h1 h2 hQ)
/-- by cases -/
theorem zS_cases {c : Prop} [Decidable c] {A B : Option (ρ × zWd)} (a : c → zS g emb pc ls st w A) (b : ¬ c → zS g emb pc ls st w B) : zS g emb pc ls st w (if c then A else B) := by
  by_cases h : c
  · rw [if_pos h]; exact a h
  · rw [if_neg h]; exact b h
theorem zS_gd {c : Prop} [Decidable c] {A : Option (ρ × zWd)} (a : c → zS g emb pc ls st w A) : zS g emb pc ls st w (zgd c A) :=
  zS_cases a (fun _ _ _ h => by cases h)
theorem zS_bnw {f : zWd → Option (ρ × zWd)} (a : ∀ w1, zS g emb pc ls st w1 (f w1)) : zS g emb pc ls st w (zbn w f) := a w
theorem zS_bni {x : Int32} {f : Int32 → Option (ρ × zWd)} (a : ∀ y, zS g emb pc ls (.int y :: st) w (f y)) : zS g emb pc ls (.int x :: st) w (zbn x f) := a x
theorem zS_sub {ls' : List (Nat × Value)} (ks : List Nat) (h : lv_pick ls ks = ls') (K : zS g emb pc ls' st w X) : zS g emb pc ls st w X := by
  intro r w' hX p l e R s m args below meth c H locs cells slots Q D cI cZ cO ad A lsA F hl hH hS hQ
  refine K r w' hX p l e R s m args below meth c H locs cells slots Q D cI cZ cO ad A lsA F ?_ hH hS hQ
  refine ⟨hl.1, hl.2.1, fun q hq => hl.2.2 q ?_⟩
  obtain ⟨q0, h0, rfl⟩ := List.mem_map.mp hq
  rw [← h] at h0
  obtain ⟨k, -, hk⟩ := List.mem_filterMap.mp h0
  exact List.mem_map.mpr ⟨q0, List.mem_of_getElem? hk, rfl⟩
/-- loops -/
theorem zS_loop {σ : Type} {F : (σ → Option (ρ × zWd)) → σ → Option (ρ × zWd)} {L : σ → List (Nat × Value)} {V : σ → zWd} {T : σ → List Value} (h : ∀ k : σ → Option (ρ × zWd), (∀ s, zS g emb pc (L s) (T s) (V s) (k s)) → ∀ s, zS g emb pc (L s) (T s) (V s) (F k s)) : ∀ (n : Nat) (s : σ), zS g emb pc (L s) (T s) (V s) (zlp F n s) := by
  intro n
  induction n with
  | zero => intro s r w' hX; cases hX
  | succ n ih => intro s; exact h _ ih s
end ZR
