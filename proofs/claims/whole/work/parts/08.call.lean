/-! contracts of methods over the world, and calls -/
def zAA (ad : Nat → Nat) (sz : Nat) : Nat → Prop := fun q => (∃ k, k < 250 ∧ q = ad k) ∨ sz ≤ q
def zRm (d : Nat) : Room := { frames := d, cells := 0, slots := 0, locals := 60 * d }
def zQc (D : va_G) (cI cZ cO : ClassId) (ad : Nat → Nat) (A : Nat → Prop) (r : Option Value) (w' : zWd) : Array Value → State → Outcome → State → Prop :=
  fun _ st oc t => oc = .returned (r.map (zv ad)) ∧ zHold D cI cZ cO ad A w' t.heap ∧ va_F A st t
def zPc (D : va_G) (cI cZ cO : ClassId) (ad : Nat → Nat) (sz : Nat) (avs : List Value) (w : zWd) : Array Value → State → Prop :=
  va_Pc (avs.map (zv ad)) (fun U => U.heap.size = sz ∧ zHold D cI cZ cO ad (zAA ad sz) w U.heap ∧ zSt D cI cZ cO ad (zAA ad sz) U U.heap)
abbrev zWsm (g : zMth) : List Cond := Cond.code g.1 g.2.1 g.2.2.1 g.2.2.2.1 :: lw_gd
def zMet (g : zMth) (avs : List Value) (w : zWd) (r : Option Value) (w' : zWd) : Prop :=
  ∀ (l : Launch) (D : va_G) (cI cZ cO : ClassId) (ad : Nat → Nat) (sz : Nat), Met l g.1 (zWsm g) (zRm g.2.2.2.2.1) (zPc D cI cZ cO ad sz avs w) (zQc D cI cZ cO ad (zAA ad sz) r w') 0 0 (zAA ad sz)
theorem zl_args (ad : Nat → Nat) : ∀ (i : Nat) (vs : List Value), lv_args i (vs.map (zv ad)) = (lv_args i vs).map (zl ad)
  | _, [] => rfl
  | i, v :: vs => by
    show (i, zv ad v) :: lv_args (if (zv ad v).category = 2 then i + 2 else i + 1) (vs.map (zv ad)) = _
    rw [zv_cat, zl_args ad _ vs]
    rfl
theorem zl_sl (ad : Nat → Nat) (vs : List Value) : (lg_sl (vs.map (zv ad))).length = (lg_sl vs).length := by
  induction vs with
  | nil => rfl
  | cons v t ih =>
    have e : ∀ (u : Value) (us : List Value), (lg_sl (u :: us)).length = (if u.category = 2 then 2 else 1) + (lg_sl us).length := by
      intro u us
      simp only [lg_sl, List.flatMap_cons, List.length_append]
      split <;> simp
    rw [List.map_cons, e, e, ih, zv_cat]
theorem zMet_of {g : zMth} {avs : List Value} {w w' : zWd} {r : Option Value} (hpl : plainName g.1.cls = true) (hE : g.2.2.2.2.2 = zE0) (hn : (lg_sl avs).length ≤ g.2.2.1) (h : zG g 0 (lv_args 0 avs) [] w r w') : zMet g avs w r w' := by
  intro l D cI cZ cO ad sz
  refine Met.ofW (cc := g.2.1) (maxL := g.2.2.1) (ret := g.2.2.2.1) hpl rfl ?_
  intro p e s m args below meth c s₁ B hml hv
  obtain ⟨rfl, hsz, hH, hSt⟩ := hv
  have hts := atoms_spec (ws := zWsm g) B.pre
  subst hsz
  have hlocks := B.notSynchronized
  have hr := B.returns
  have hx := B.exec
  have hb := B.bytes
  rw [lg_entry_eq]
  have hl := lv_entry (avs.map (zv ad)) (n := g.2.2.1) (by rw [zl_sl]; exact hn)
  rw [zl_args] at hl
  refine h p l e _ s m _ below meth c s.heap [] 0 0 _ D cI cZ cO ad (zAA ad s.heap.size) _ ⟨hx, hb, hr, hml, findClass_of_methodNamed B.named, fun w hw => hts w (List.mem_cons_of_mem _ hw), ⟨Nat.le_refl _, Nat.le_refl _, Nat.zero_le _, Nat.zero_le _⟩, hSt, fun q hq => Or.inr hq, by rw [hE]; trivial⟩ hl hH va_S.rf ?_
  intro H1 locs1 pc1 ls1 h1 h2 h3
  have key : ∀ v, v = r.map (zv ad) → ∀ t : State, t.heap = H1 → s.WarmedH t.vm → zQc D cI cZ cO ad (zAA ad s.heap.size) r w' (avs.map (zv ad)).toArray s (.returned v) t := fun v hv t ht hW => ⟨by rw [hv], by rw [ht]; exact h1, h2.F ht⟩
  match r, h3, key with
  | none, h3, key => exact W.vret hx hb (hr.trans h3.2) (key _ rfl) h2.2.2 h3.1
  | some (.int v), h3, key =>
    obtain ⟨h4, ty, h5, h6⟩ := h3
    exact W.zret hx hb (hr.trans h5) h6 (key _ rfl) h2.2.2 h4
  | some (.ref k), h3, key =>
    obtain ⟨h4, rt, h5, h6⟩ := h3
    exact W.aret hx hb (hr.trans h5) h6 (Or.inr ⟨_, rfl⟩) (key _ rfl) h2.2.2 h4
/-- a method's meaning: what X answers, the method does -/
def zOk {ρ : Type} (g : zMth) (emb : ρ → Option Value) (avs : List Value) (w : zWd) (X : Option (ρ × zWd)) : Prop := ∀ (r : ρ) (w' : zWd), X = some (r, w') → zMet g avs w (emb r) w'
theorem zOk_of {ρ : Type} {g : zMth} {emb : ρ → Option Value} {avs : List Value} {w : zWd} {X : Option (ρ × zWd)} (hpl : plainName g.1.cls = true) (hE : g.2.2.2.2.2 = zE0) (hn : (lg_sl avs).length ≤ g.2.2.1) (h : zS g emb 0 (lv_args 0 avs) [] w X) : zOk g emb avs w X :=
  fun r w' hX => zMet_of hpl hE hn (h r w' hX)
theorem zPc_blind {D : va_G} {cI cZ cO : ClassId} {ad : Nat → Nat} {sz : Nat} {avs : List Value} {w : zWd} : FrameBlind (zPc D cI cZ cO ad sz avs w) :=
  fun a U g mk h => ⟨h.1, h.2.1, h.2.2.1, h.2.2.2.blind⟩
section ZRUN
variable {p : Program} {l : Launch} {e : Env} {R : Room} {s : State} {m : MethodId} {args : Array Value} {below : List Frame} {meth : Method} {c : Code} {H : Heap} {locs : List Loc} {cells slots : Nat} {Q : State → Prop}
variable {pc : Nat} {lsA : Array Slot} {rest st0 : List Value} {aa : Array Value} {A : Nat → Prop} {D : va_G} {cI cZ cO : ClassId} {ad : Nat → Nat} {w w1 : zWd} {r : Option Value}
theorem zHold.up {A B : Nat → Prop} (h : zHold D cI cZ cO ad A w H) (hAB : ∀ q, A q → B q) : zHold D cI cZ cO ad B w H := ⟨h.1, h.2.weaken (fun _ _ _ q => hAB _ q)⟩
theorem zAA_in (hH : zHold D cI cZ cO ad A w H) (hS : va_S A s.heap H locs) (hA : ∀ q, s.heap.size ≤ q → A q) : ∀ q, zAA ad H.size q → A q := by
  intro q hq
  rcases hq with ⟨k, hk, rfl⟩ | hq
  · exact hH.2.2 k _ (zWs_at cI cZ cO ad w hk)
  · exact hA q (Nat.le_trans hS.1 hq)
theorem zHold.self (h : zHold D cI cZ cO ad A w H) : zHold D cI cZ cO ad (zAA ad H.size) w H := by
  refine ⟨h.1, h.2.weaken (fun k q hk _ => Or.inl ?_)⟩
  have hl := (List.getElem?_eq_some_iff.mp hk).1
  have hk0 : k < 250 := by simpa [zWs] using hl
  rw [zWs_at _ _ _ _ _ hk0] at hk
  cases hk
  exact ⟨k, hk0, rfl⟩
theorem zCallK (hr : va_Run p l e R s m args below meth c H locs cells slots 0 0 (F0 m pc lsA st0) rest (zQc D cI cZ cO ad (zAA ad H.size) r w1 aa) (zAA ad H.size)) (hS : va_S A s.heap H locs) (hAA : ∀ q, zAA ad H.size q → A q)
    (kk : ∀ (H1 : Heap) (locs1 : List Loc), zHold D cI cZ cO ad A w1 H1 → va_S A s.heap H1 locs1 → W p l e R s m args below meth c H1 locs1 cells slots Q (F0 m (pc + 3) lsA ((r.map (zv ad)).toList ++ rest))) : W p l e R s m args below meth c H locs cells slots Q (F0 m pc lsA st0) := by
  intro T hT X
  obtain ⟨v, st₀, t, T', L, h0, X', hL, e1, e2, ⟨hv, hh, hz, hk⟩, st⟩ := hr T hT X
  cases hv
  rw [h0] at hz hk
  obtain ⟨t2, a1, b1⟩ := kk T'.heap (locs ++ L) (by rw [e1]; exact hh.up hAA)
    ⟨Nat.le_trans hS.1 (by rw [e1]; exact hz), fun q h1 h2 => by rw [e1, hk q (Nat.lt_of_lt_of_le h1 hS.1) (fun z => h2 (hAA q z))]; exact hS.2.1 q h1 h2, fun q hq => by
      rcases List.mem_append.mp hq with h | h
      · exact hS.2.2 q h
      · exact hAA _ (hL q h)⟩ T' rfl X'
  exact ⟨t2, st t2 a1, b1⟩
theorem zPre (hSt : zSt D cI cZ cO ad A s s.heap) (hH : zHold D cI cZ cO ad A w H) (hS : va_S A s.heap H locs) (hAA : ∀ q, zAA ad H.size q → A q) (avs : List Value) :
    ∀ U : State, U.heap = H → s.WarmedH U.vm → zPc D cI cZ cO ad H.size avs w (avs.map (zv ad)).toArray U := by
  intro U hU hW
  subst hU
  exact ⟨rfl, rfl, hH.self, hSt.to hS.2.1 hW hAA⟩
end ZRUN
section ZR4
variable {ρ τ : Type} {g g' : zMth} {emb : ρ → Option Value} {emb' : τ → Option Value} {pc : Nat} {ls : List (Nat × Value)} {st : List Value} {w : zWd} {X : Option (τ × zWd)} {f : τ → zWd → Option (ρ × zWd)}
theorem zS_cl {st0 : List Value} (h : ∀ r w1, X = some (r, w1) → zS g emb pc ls st0 w (f r w1)) : zS g emb pc ls st0 w (zcl X f) := by
  unfold zcl
  match X, h with
  | some (r, w1), h => exact h r w1 rfl
  | none, _ => intro r w' hX; cases hX
theorem zWs_len (v : Value) (rest : List Value) (ad : Nat → Nat) : List.map (zv ad) (v :: rest) = zv ad v :: rest.map (zv ad) := rfl
/-- what a callee's room asks -/
abbrev zDeep (g g' : zMth) : Prop := g'.2.2.2.2.1 + 1 ≤ g.2.2.2.2.1 ∧ g'.2.2.1 ≤ 40
theorem zS_callV (pc' : Nat) (hn : pc + 3 = pc') {index k ci N n : Nat} {as st0 : List Value} {T : u_T} {ty : Nat → FieldType} (hok : zOk g' emb' (.ref k :: as) w X) (hdg : decode g.2.1 pc = .ok (.invokevirtual index, 3)) (hC : zCls ci g'.1.cls T N ty) (hs : zShp k = (ci, N))
    (h1 : Cond.methodLink g.1.cls index g'.1 ∈ lw_gd) (h2 : Cond.instanceMethod g'.1 ∈ lw_gd) (h3 : Cond.selects g'.1.cls g'.1 g'.1 ∈ lw_gd) (h4 : Cond.initialized g'.1.cls ∈ lw_gd) (h5 : Cond.code g'.1 g'.2.1 g'.2.2.1 g'.2.2.2.1 ∈ lw_gd)
    (hy : g'.1.cls ≠ "java/lang/invoke/MethodHandle" ∧ g'.1.cls ≠ "java/lang/invoke/VarHandle" ∧ (parseMethodDescriptor g'.1.desc).map (fun d => d.parameters.length) = some n) (hlen : as.length = n) (hst : st0 = as.reverse ++ .ref k :: st) (hd : zDeep g g') (hr : (st.map fun v => v.category).sum ≤ 8)
    (K : ∀ r w1, zS g emb pc' ls ((emb' r).toList ++ st) w1 (f r w1)) : zS g emb pc ls st0 w (zcl X f) := by
  subst hn
  subst hst
  refine zS_cl fun r w1 hX => zS_stepH (fun p l e R s m args below meth c H locs cells slots Q D cI cZ cO ad A lsA F hl hH hS kk => ?_) (K r w1)
  have hAA := zAA_in hH hS F.2.2.2.2.2.2.2.2.1
  have hk := zShp_lt hs (by have := hC.1; omega)
  have hg : ∀ u ∈ wsV g.1.cls index g'.1.cls g'.1 (zWsm g'), u ∈ lw_gd := by
    intro u hu
    simp only [wsV, List.mem_append, List.mem_cons, List.not_mem_nil, or_false] at hu
    rcases hu with (rfl | rfl | rfl | rfl) | rfl | hu
    · exact h1
    · exact h2
    · exact h3
    · exact h4
    · exact h5
    · exact hu
  have hM := hok r w1 hX l D cI cZ cO ad H.size
  have e2 : ((emb' r).map (zv ad)).toList ++ st.map (zv ad) = (((emb' r).toList ++ st)).map (zv ad) := by
    cases emb' r <;> rfl
  refine zCallK (va_runV (As := as.map (zv ad)) (rest := st.map (zv ad)) (b := ad k) ⟨F.1, F.2.1, F.2.2.2.1, F.2.2.2.2.1, F.2.2.2.2.2.1⟩ hM (cwV n F.2.2.2.2.2.1 (zGood hg) rfl rfl rfl ⟨rfl, hy⟩ ⟨by have := F.2.2.2.2.2.2.1.1; exact Nat.le_trans hd.1 this, ?_⟩) ⟨zPc_blind, ?_, ?_⟩ rfl (by rw [List.length_map]; exact hlen) hl.1 (by rw [List.map_append, List.map_reverse]; rfl) (by rw [zl_cat]; exact (by show 2 * 0 + _ ≤ 8; omega)) hdg ⟨F.2.2.2.2.2.2.1.2.2.1, F.2.2.2.2.2.2.1.2.2.2⟩) hS hAA (fun H1 locs1 a b => by rw [e2]; exact kk H1 locs1 a b)
  · have := F.2.2.2.2.2.2.1.2.1
    have := hd.1
    have := hd.2
    show 8 + (g'.2.2.1 + 11) + 60 * g'.2.2.2.2.1 ≤ R.locals
    omega
  · exact va_recv F.2.2.2.2.2.2.2.1.1 hH.1 hC.2.1 (q0 := k) (by rw [zWs_at _ _ _ _ _ hk, zEnt_obj _ _ _ _ _ hs hC.1])
  · exact zPre F.2.2.2.2.2.2.2.1 hH hS hAA (.ref k :: as)
theorem zS_callS (pc' : Nat) (hn : pc + 3 = pc') {index n : Nat} {as st0 : List Value} (hok : zOk g' emb' as w X) (hdg : decode g.2.1 pc = .ok (.invokestatic index, 3))
    (h1 : Cond.methodLink g.1.cls index g'.1 ∈ lw_gd) (h2 : Cond.static g'.1 ∈ lw_gd) (h4 : Cond.initialized g'.1.cls ∈ lw_gd) (h5 : Cond.code g'.1 g'.2.1 g'.2.2.1 g'.2.2.2.1 ∈ lw_gd)
    (hy : g'.1.cls ≠ "java/lang/invoke/MethodHandle" ∧ g'.1.cls ≠ "java/lang/invoke/VarHandle" ∧ (parseMethodDescriptor g'.1.desc).map (fun d => d.parameters.length) = some n) (hlen : as.length = n) (hst : st0 = as.reverse ++ st) (hd : zDeep g g') (hr : (st.map fun v => v.category).sum ≤ 8)
    (K : ∀ r w1, zS g emb pc' ls ((emb' r).toList ++ st) w1 (f r w1)) : zS g emb pc ls st0 w (zcl X f) := by
  subst hn
  subst hst
  refine zS_cl fun r w1 hX => zS_stepH (fun p l e R s m args below meth c H locs cells slots Q D cI cZ cO ad A lsA F hl hH hS kk => ?_) (K r w1)
  have hAA := zAA_in hH hS F.2.2.2.2.2.2.2.2.1
  have hg : ∀ u ∈ va_wsS g.1.cls index g'.1 (zWsm g'), u ∈ lw_gd := by
    intro u hu
    simp only [va_wsS, List.mem_append, List.mem_cons, List.not_mem_nil, or_false] at hu
    rcases hu with (rfl | rfl | rfl) | rfl | hu
    · exact h1
    · exact h2
    · exact h4
    · exact h5
    · exact hu
  have hM := hok r w1 hX l D cI cZ cO ad H.size
  have e2 : ((emb' r).map (zv ad)).toList ++ st.map (zv ad) = (((emb' r).toList ++ st)).map (zv ad) := by
    cases emb' r <;> rfl
  refine zCallK (va_runS (As := as.map (zv ad)) (rest := st.map (zv ad)) ⟨F.1, F.2.1, F.2.2.2.1, F.2.2.2.2.1, F.2.2.2.2.2.1⟩ hM (va_cwS n F.2.2.2.2.2.1 (zGood hg) rfl rfl rfl hy ⟨by have := F.2.2.2.2.2.2.1.1; exact Nat.le_trans hd.1 this, ?_⟩) ⟨zPc_blind, ?_⟩ rfl (by rw [List.length_map]; exact hlen) hl.1 (by rw [List.map_append, List.map_reverse]) (by rw [zl_cat]; exact (by show 2 * 0 + _ ≤ 8; omega)) hdg ⟨F.2.2.2.2.2.2.1.2.2.1, F.2.2.2.2.2.2.1.2.2.2⟩) hS hAA (fun H1 locs1 a b => by rw [e2]; exact kk H1 locs1 a b)
  · have := F.2.2.2.2.2.2.1.2.1
    have := hd.1
    have := hd.2
    show 8 + (g'.2.2.1 + 11) + 60 * g'.2.2.2.2.1 ≤ R.locals
    omega
  · exact zPre F.2.2.2.2.2.2.2.1 hH hS hAA as
theorem zS_callN (pc' : Nat) (hn : pc + 3 = pc') {index n : Nat} {host : String} {as st0 : List Value} (hok : zOk g' emb' as w X) (hdg : decode g.2.1 pc = .ok (.invokestatic index, 3))
    (h1 : (g.1.cls, index, g'.1, host) ∈ zNM) (h2 : Cond.static g'.1 ∈ lw_gd) (h4 : Cond.initialized g'.1.cls ∈ lw_gd) (h5 : Cond.code g'.1 g'.2.1 g'.2.2.1 g'.2.2.2.1 ∈ lw_gd)
    (hy : g'.1.cls ≠ "java/lang/invoke/MethodHandle" ∧ g'.1.cls ≠ "java/lang/invoke/VarHandle" ∧ (parseMethodDescriptor g'.1.desc).map (fun d => d.parameters.length) = some n) (hlen : as.length = n) (hst : st0 = as.reverse ++ st) (hd : zDeep g g') (hr : (st.map fun v => v.category).sum ≤ 8)
    (K : ∀ r w1, zS g emb pc' ls ((emb' r).toList ++ st) w1 (f r w1)) : zS g emb pc ls st0 w (zcl X f) := by
  subst hn
  subst hst
  refine zS_cl fun r w1 hX => zS_stepH (fun p l e R s m args below meth c H locs cells slots Q D cI cZ cO ad A lsA F hl hH hS kk => ?_) (K r w1)
  have hAA := zAA_in hH hS F.2.2.2.2.2.2.2.2.1
  have hg : ∀ u ∈ zWsm g', u ∈ lw_gd := by
    intro u hu
    rcases List.mem_cons.mp hu with rfl | hu
    · exact h5
    · exact hu
  have hM := hok r w1 hX l D cI cZ cO ad H.size
  have e2 : ((emb' r).map (zv ad)).toList ++ st.map (zv ad) = (((emb' r).toList ++ st)).map (zv ad) := by
    cases emb' r <;> rfl
  refine zCallK (va_runSN (host := host) (As := as.map (zv ad)) (rest := st.map (zv ad)) ⟨F.1, F.2.1, F.2.2.2.1, F.2.2.2.2.1, F.2.2.2.2.2.1⟩ hM ⟨va_cnB n F.2.2.2.2.2.1 (zGood hg) rfl rfl rfl (F.2.2.2.2.2.2.2.1.2.1 _ h1) (F.2.2.2.2.2.1 _ h4) hy ⟨by have := F.2.2.2.2.2.2.1.1; exact Nat.le_trans hd.1 this, ?_⟩, F.2.2.2.2.2.1 _ h2, trivial⟩ ⟨zPc_blind, ?_⟩ rfl (by rw [List.length_map]; exact hlen) hl.1 (by rw [List.map_append, List.map_reverse]) (by rw [zl_cat]; exact (by show 2 * 0 + _ ≤ 8; omega)) hdg ⟨F.2.2.2.2.2.2.1.2.2.1, F.2.2.2.2.2.2.1.2.2.2⟩) hS hAA (fun H1 locs1 a b => by rw [e2]; exact kk H1 locs1 a b)
  · have := F.2.2.2.2.2.2.1.2.1
    have := hd.1
    have := hd.2
    show 8 + (g'.2.2.1 + 11) + 60 * g'.2.2.2.2.1 ≤ R.locals
    omega
  · exact zPre F.2.2.2.2.2.2.2.1 hH hS hAA as
end ZR4
