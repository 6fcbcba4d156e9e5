section ZR5
variable {ρ τ : Type} {g g' : zMth} {emb : ρ → Option Value} {emb' : τ → Option Value} {pc : Nat} {ls : List (Nat × Value)} {st : List Value} {w : zWd} {X : Option (ρ × zWd)}
theorem zS_no : zS g emb pc ls st w none := fun _ _ hX => by cases hX
theorem zS_ldcw (pc' : Nat) (hn : pc + 3 = pc') {i : Nat} (v : Int32) (hv : Cond.constant g.1.cls i v ∈ lw_gd) (hdg : decode g.2.1 pc = .ok (.ldc_w i, 3)) (K : zS g emb pc' ls (.int v :: st) w X) : zS g emb pc ls (st) w X := by
  subst hn
  exact zS_step (fun p l e R s m args below meth c H locs cells slots Q D cI cZ cO ad A lsA F hl hH hS k => lv_ldcw F.1 F.2.1 F.2.2.2.2.1 (F.2.2.2.2.2.1 _ hv) hdg k) K
theorem zin_lt {i : Int32} {n : Nat} (h : zin i n) : i.toNatClampNeg < n := Nat.not_le.mp fun q => h (Or.inr q)
/-- a call's words on the callee's side -/
abbrev zHy (g' : zMth) (n : Nat) : Prop := g'.1.cls ≠ "java/lang/invoke/MethodHandle" ∧ g'.1.cls ≠ "java/lang/invoke/VarHandle" ∧ (parseMethodDescriptor g'.1.desc).map (fun d => d.parameters.length) = some n
def zCbV (y : MethodName) (c : ByteArray) (nL : Nat) (ret : Option FieldType) (n : Nat) : Prop := Cond.instanceMethod y ∈ lw_gd ∧ Cond.selects y.cls y y ∈ lw_gd ∧ Cond.initialized y.cls ∈ lw_gd ∧ Cond.code y c nL ret ∈ lw_gd ∧ (y.cls ≠ "java/lang/invoke/MethodHandle" ∧ y.cls ≠ "java/lang/invoke/VarHandle" ∧ (parseMethodDescriptor y.desc).map (fun d => d.parameters.length) = some n)
def zCbS (y : MethodName) (c : ByteArray) (nL : Nat) (ret : Option FieldType) (n : Nat) : Prop := Cond.static y ∈ lw_gd ∧ Cond.initialized y.cls ∈ lw_gd ∧ Cond.code y c nL ret ∈ lw_gd ∧ (y.cls ≠ "java/lang/invoke/MethodHandle" ∧ y.cls ≠ "java/lang/invoke/VarHandle" ∧ (parseMethodDescriptor y.desc).map (fun d => d.parameters.length) = some n)
theorem zS_cVi (pc' : Nat) (hn : pc + 3 = pc') {Y : Option (Int32 × zWd)} {f : Int32 → zWd → Option (ρ × zWd)} {index k ci N n : Nat} {as st0 : List Value} {T : u_T} {ty : Nat → FieldType} (hok : zOk g' zEi (.ref k :: as) w Y) (hdg : decode g.2.1 pc = .ok (.invokevirtual index, 3)) (hC : zCls ci g'.1.cls T N ty) (hs : zShp k = (ci, N)) (h1 : Cond.methodLink g.1.cls index g'.1 ∈ lw_gd) (hb : zCbV g'.1 g'.2.1 g'.2.2.1 g'.2.2.2.1 n) (hlen : as.length = n) (hst : st0 = as.reverse ++ .ref k :: st) (hd : zDeep g g') (hr : (st.map fun v => v.category).sum ≤ 8) (K : ∀ r w1, zS g emb pc' ls (.int r :: st) w1 (f r w1)) : zS g emb pc ls st0 w (zcl Y f) :=
  zS_callV pc' hn hok hdg hC hs h1 hb.1 hb.2.1 hb.2.2.1 hb.2.2.2.1 hb.2.2.2.2 hlen hst hd hr K
theorem zS_cVv (pc' : Nat) (hn : pc + 3 = pc') {Y : Option (Unit × zWd)} {f : Unit → zWd → Option (ρ × zWd)} {index k ci N n : Nat} {as st0 : List Value} {T : u_T} {ty : Nat → FieldType} (hok : zOk g' zEv (.ref k :: as) w Y) (hdg : decode g.2.1 pc = .ok (.invokevirtual index, 3)) (hC : zCls ci g'.1.cls T N ty) (hs : zShp k = (ci, N)) (h1 : Cond.methodLink g.1.cls index g'.1 ∈ lw_gd) (hb : zCbV g'.1 g'.2.1 g'.2.2.1 g'.2.2.2.1 n) (hlen : as.length = n) (hst : st0 = as.reverse ++ .ref k :: st) (hd : zDeep g g') (hr : (st.map fun v => v.category).sum ≤ 8) (K : ∀ r w1, zS g emb pc' ls (st) w1 (f r w1)) : zS g emb pc ls st0 w (zcl Y f) :=
  zS_callV pc' hn hok hdg hC hs h1 hb.1 hb.2.1 hb.2.2.1 hb.2.2.2.1 hb.2.2.2.2 hlen hst hd hr K
theorem zS_cVr (pc' : Nat) (hn : pc + 3 = pc') {Y : Option (Nat × zWd)} {f : Nat → zWd → Option (ρ × zWd)} {index k ci N n : Nat} {as st0 : List Value} {T : u_T} {ty : Nat → FieldType} (hok : zOk g' zEr (.ref k :: as) w Y) (hdg : decode g.2.1 pc = .ok (.invokevirtual index, 3)) (hC : zCls ci g'.1.cls T N ty) (hs : zShp k = (ci, N)) (h1 : Cond.methodLink g.1.cls index g'.1 ∈ lw_gd) (hb : zCbV g'.1 g'.2.1 g'.2.2.1 g'.2.2.2.1 n) (hlen : as.length = n) (hst : st0 = as.reverse ++ .ref k :: st) (hd : zDeep g g') (hr : (st.map fun v => v.category).sum ≤ 8) (K : ∀ r w1, zS g emb pc' ls (.ref r :: st) w1 (f r w1)) : zS g emb pc ls st0 w (zcl Y f) :=
  zS_callV pc' hn hok hdg hC hs h1 hb.1 hb.2.1 hb.2.2.1 hb.2.2.2.1 hb.2.2.2.2 hlen hst hd hr K
theorem zS_cSi (pc' : Nat) (hn : pc + 3 = pc') {Y : Option (Int32 × zWd)} {f : Int32 → zWd → Option (ρ × zWd)} {index n : Nat} {as st0 : List Value} (hok : zOk g' zEi as w Y) (hdg : decode g.2.1 pc = .ok (.invokestatic index, 3)) (h1 : Cond.methodLink g.1.cls index g'.1 ∈ lw_gd) (hb : zCbS g'.1 g'.2.1 g'.2.2.1 g'.2.2.2.1 n) (hlen : as.length = n) (hst : st0 = as.reverse ++ st) (hd : zDeep g g') (hr : (st.map fun v => v.category).sum ≤ 8) (K : ∀ r w1, zS g emb pc' ls (.int r :: st) w1 (f r w1)) : zS g emb pc ls st0 w (zcl Y f) :=
  zS_callS pc' hn hok hdg h1 hb.1 hb.2.1 hb.2.2.1 hb.2.2.2 hlen hst hd hr K
theorem zS_cSv (pc' : Nat) (hn : pc + 3 = pc') {Y : Option (Unit × zWd)} {f : Unit → zWd → Option (ρ × zWd)} {index n : Nat} {as st0 : List Value} (hok : zOk g' zEv as w Y) (hdg : decode g.2.1 pc = .ok (.invokestatic index, 3)) (h1 : Cond.methodLink g.1.cls index g'.1 ∈ lw_gd) (hb : zCbS g'.1 g'.2.1 g'.2.2.1 g'.2.2.2.1 n) (hlen : as.length = n) (hst : st0 = as.reverse ++ st) (hd : zDeep g g') (hr : (st.map fun v => v.category).sum ≤ 8) (K : ∀ r w1, zS g emb pc' ls (st) w1 (f r w1)) : zS g emb pc ls st0 w (zcl Y f) :=
  zS_callS pc' hn hok hdg h1 hb.1 hb.2.1 hb.2.2.1 hb.2.2.2 hlen hst hd hr K
theorem zS_cSr (pc' : Nat) (hn : pc + 3 = pc') {Y : Option (Nat × zWd)} {f : Nat → zWd → Option (ρ × zWd)} {index n : Nat} {as st0 : List Value} (hok : zOk g' zEr as w Y) (hdg : decode g.2.1 pc = .ok (.invokestatic index, 3)) (h1 : Cond.methodLink g.1.cls index g'.1 ∈ lw_gd) (hb : zCbS g'.1 g'.2.1 g'.2.2.1 g'.2.2.2.1 n) (hlen : as.length = n) (hst : st0 = as.reverse ++ st) (hd : zDeep g g') (hr : (st.map fun v => v.category).sum ≤ 8) (K : ∀ r w1, zS g emb pc' ls (.ref r :: st) w1 (f r w1)) : zS g emb pc ls st0 w (zcl Y f) :=
  zS_callS pc' hn hok hdg h1 hb.1 hb.2.1 hb.2.2.1 hb.2.2.2 hlen hst hd hr K
theorem zS_cNi (pc' : Nat) (hn : pc + 3 = pc') {Y : Option (Int32 × zWd)} {f : Int32 → zWd → Option (ρ × zWd)} {index n : Nat} {host : String} {as st0 : List Value} (hok : zOk g' zEi as w Y) (hdg : decode g.2.1 pc = .ok (.invokestatic index, 3)) (h1 : (g.1.cls, index, g'.1, host) ∈ zNM) (hb : zCbS g'.1 g'.2.1 g'.2.2.1 g'.2.2.2.1 n) (hlen : as.length = n) (hst : st0 = as.reverse ++ st) (hd : zDeep g g') (hr : (st.map fun v => v.category).sum ≤ 8) (K : ∀ r w1, zS g emb pc' ls (.int r :: st) w1 (f r w1)) : zS g emb pc ls st0 w (zcl Y f) :=
  zS_callN pc' hn hok hdg h1 hb.1 hb.2.1 hb.2.2.1 hb.2.2.2 hlen hst hd hr K
theorem zS_cNv (pc' : Nat) (hn : pc + 3 = pc') {Y : Option (Unit × zWd)} {f : Unit → zWd → Option (ρ × zWd)} {index n : Nat} {host : String} {as st0 : List Value} (hok : zOk g' zEv as w Y) (hdg : decode g.2.1 pc = .ok (.invokestatic index, 3)) (h1 : (g.1.cls, index, g'.1, host) ∈ zNM) (hb : zCbS g'.1 g'.2.1 g'.2.2.1 g'.2.2.2.1 n) (hlen : as.length = n) (hst : st0 = as.reverse ++ st) (hd : zDeep g g') (hr : (st.map fun v => v.category).sum ≤ 8) (K : ∀ r w1, zS g emb pc' ls (st) w1 (f r w1)) : zS g emb pc ls st0 w (zcl Y f) :=
  zS_callN pc' hn hok hdg h1 hb.1 hb.2.1 hb.2.2.1 hb.2.2.2 hlen hst hd hr K
theorem zS_cNr (pc' : Nat) (hn : pc + 3 = pc') {Y : Option (Nat × zWd)} {f : Nat → zWd → Option (ρ × zWd)} {index n : Nat} {host : String} {as st0 : List Value} (hok : zOk g' zEr as w Y) (hdg : decode g.2.1 pc = .ok (.invokestatic index, 3)) (h1 : (g.1.cls, index, g'.1, host) ∈ zNM) (hb : zCbS g'.1 g'.2.1 g'.2.2.1 g'.2.2.2.1 n) (hlen : as.length = n) (hst : st0 = as.reverse ++ st) (hd : zDeep g g') (hr : (st.map fun v => v.category).sum ≤ 8) (K : ∀ r w1, zS g emb pc' ls (.ref r :: st) w1 (f r w1)) : zS g emb pc ls st0 w (zcl Y f) :=
  zS_callN pc' hn hok hdg h1 hb.1 hb.2.1 hb.2.2.1 hb.2.2.2 hlen hst hd hr K
/-! switches -/
def zSw (g : zMth) (emb : ρ → Option Value) (pc : Nat) (lo : Int) (ls : List (Nat × Value)) (st : List Value) (w : zWd) (x : Int32) (i : Nat) (X : Option (ρ × zWd)) : Prop := (∀ j : Nat, j < i → ¬ x.toInt = lo + j) → zS g emb pc ls (.int x :: st) w X
theorem zS_tsw {lo : Int} {x : Int32} (h : zSw g emb pc lo ls st w x 0 X) : zS g emb pc ls (.int x :: st) w X := h (fun j hj => absurd hj (Nat.not_lt_zero j))
theorem zSw_in {dflt lo hi off : Int} {offs : Array Int} {len : Nat} {x c0 : Int32} {A B : Option (ρ × zWd)} (i tgt : Nat) (hdg : decode g.2.1 pc = .ok (.tableswitch dflt lo hi offs, len)) (hc : c0.toInt = lo + i) (hh : lo + i ≤ hi) (ho : offs[i]? = some off) (ht : (pc : Int) + off = (tgt : Int)) (KA : zS g emb tgt ls st w A) (KB : zSw g emb pc lo ls st w x (i + 1) B) : zSw g emb pc lo ls st w x i (if x = c0 then A else B) := by
  intro hx
  by_cases h : x = c0
  · rw [if_pos h]
    refine zS_step (fun p l e R s m args below meth c H locs cells slots Q D cI cZ cO ad A lsA F hl hH hS k => lv_tableIn (x := x) F.1 F.2.1 hdg (by rw [h, hc]; omega) (by rw [h, hc]; omega) (by rw [h, hc, show (lo + (i : Int) - lo).toNat = i by omega]; exact ho) ht k) KA
  · rw [if_neg h]
    refine KB (fun j hj => ?_)
    rcases Nat.lt_or_ge j i with q | q
    · exact hx j q
    · have e : j = i := by omega
      rw [e, ← hc]
      exact fun z => h (Int32.toInt_inj.mp z)
theorem zSw_out {dflt lo hi : Int} {offs : Array Int} {len : Nat} {x : Int32} {i : Nat} (tgt : Nat) (hdg : decode g.2.1 pc = .ok (.tableswitch dflt lo hi offs, len)) (hii : lo + i = hi + 1) (ht : (pc : Int) + dflt = (tgt : Int)) (K : zS g emb tgt ls st w X) : zSw g emb pc lo ls st w x i X := by
  intro hx
  have hr : x.toInt < lo ∨ hi < x.toInt := by
    by_cases h1 : x.toInt < lo
    · exact Or.inl h1
    · right
      have h2 := hx (x.toInt - lo).toNat
      omega
  exact zS_step (fun p l e R s m args below meth c H locs cells slots Q D cI cZ cO ad A lsA F hl hH hS k => lv_tableOut F.1 F.2.1 hdg hr ht k) K
def zLk (g : zMth) (emb : ρ → Option Value) (pc : Nat) (dflt : Int) (ps : Array (Int × Int)) (ls : List (Nat × Value)) (st : List Value) (w : zWd) (x : Int32) (r : List (Int × Int)) (X : Option (ρ × zWd)) : Prop := Op.lookupswitch.offset ps.toList dflt x.toInt = Op.lookupswitch.offset r dflt x.toInt → zS g emb pc ls (.int x :: st) w X
theorem zS_lsw {dflt : Int} {ps : Array (Int × Int)} {x : Int32} (h : zLk g emb pc dflt ps ls st w x ps.toList X) : zS g emb pc ls (.int x :: st) w X := h rfl
theorem zLk_in {dflt a off : Int} {ps : Array (Int × Int)} {len : Nat} {x c0 : Int32} {A B : Option (ρ × zWd)} {r : List (Int × Int)} (tgt : Nat) (hdg : decode g.2.1 pc = .ok (.lookupswitch dflt ps, len)) (hp : (ps.toList.zip (ps.toList.drop 1)).all (fun (a, next) => a.1 < next.1) = true) (hc : c0.toInt = a) (ht : (pc : Int) + off = (tgt : Int)) (KA : zS g emb tgt ls st w A) (KB : zLk g emb pc dflt ps ls st w x r B) : zLk g emb pc dflt ps ls st w x ((a, off) :: r) (if x = c0 then A else B) := by
  intro hx
  by_cases h : x = c0
  · rw [if_pos h]
    refine zS_step (fun p l e R s m args below meth c H locs cells slots Q D cI cZ cO ad A lsA F hl hH hS k => lv_lookup (x := x) F.1 F.2.1 hdg hp (hx.trans (by rw [h, hc]; simp [Op.lookupswitch.offset])) ht k) KA
  · rw [if_neg h]
    exact KB (hx.trans (lv_osw h hc))
theorem zLk_out {dflt : Int} {ps : Array (Int × Int)} {len : Nat} {x : Int32} (tgt : Nat) (hdg : decode g.2.1 pc = .ok (.lookupswitch dflt ps, len)) (hp : (ps.toList.zip (ps.toList.drop 1)).all (fun (a, next) => a.1 < next.1) = true) (ht : (pc : Int) + dflt = (tgt : Int)) (K : zS g emb tgt ls st w X) : zLk g emb pc dflt ps ls st w x [] X := by
  intro hx
  exact zS_step (fun p l e R s m args below meth c H locs cells slots Q D cI cZ cO ad A lsA F hl hH hS k => lv_lookup (x := x) F.1 F.2.1 hdg hp (hx.trans rfl) ht k) K
/-! texts -/
abbrev zTS (k : Nat) : Prop := 253 ≤ k ∧ k < 265
abbrev zTB (k : Nat) : Prop := 270 ≤ k ∧ k < 282
theorem zS_ldcS (pc' : Nat) (hn : pc + 2 = pc') {index : Nat} (i : Nat) {q : String × Nat × String × List Int32} (hq : zTx[i]? = some q) (h1 : q.1 = g.1.cls) (h2 : q.2.1 = index) (hdg : decode g.2.1 pc = .ok (.ldc index, 2)) (K : zS g emb pc' ls (.ref (253 + i) :: st) w X) : zS g emb pc ls st w X := by
  subst hn
  subst h2
  exact zS_step (fun p l e R s m args below meth c H locs cells slots Q D cI cZ cO ad A lsA F hl hH hS k => va_ldcS F.1 F.2.1 F.2.2.2.2.1 (by rw [← h1]; exact F.2.2.2.2.2.2.2.1.2.2.2.2.2.1 i q hq) hdg k) K
theorem zS_sval (pc' : Nat) (hn : pc + 3 = pc') {index k : Nat} (hk : zTS k) (hdg : decode g.2.1 pc = .ok (.getfield index, 3)) (hL : Cond.fieldLink g.1.cls index "java/lang/String" "value" "[B" ∈ lw_gd) (K : zS g emb pc' ls (.ref (k + 17) :: st) w X) : zS g emb pc ls (.ref k :: st) w X := by
  subst hn
  obtain ⟨i, hi, rfl⟩ : ∃ i, i < 12 ∧ k = 253 + i := ⟨k - 253, by have := hk.2; omega, by have := hk.1; omega⟩
  exact zS_step (fun p l e R s m args below meth c H locs cells slots Q D cI cZ cO ad A lsA F hl hH hS kk => vk_getf F.1 F.2.1 (F.2.2.2.2.2.2.2.1.2.2.2.2.1.1 i hi).2.2.1 hS F.2.2.2.2.1 (F.2.2.2.2.2.1 _ hL) (fun _ h => h) hdg (by rw [show 253 + i + 17 = 270 + i by omega] at kk; exact kk)) K
theorem zS_scod (pc' : Nat) (hn : pc + 3 = pc') {index k : Nat} (hk : zTS k) (hdg : decode g.2.1 pc = .ok (.getfield index, 3)) (hL : Cond.fieldLink g.1.cls index "java/lang/String" "coder" "B" ∈ lw_gd) (K : zS g emb pc' ls (.int 0 :: st) w X) : zS g emb pc ls (.ref k :: st) w X := by
  subst hn
  obtain ⟨i, hi, rfl⟩ : ∃ i, i < 12 ∧ k = 253 + i := ⟨k - 253, by have := hk.2; omega, by have := hk.1; omega⟩
  exact zS_step (fun p l e R s m args below meth c H locs cells slots Q D cI cZ cO ad A lsA F hl hH hS kk => vk_getf F.1 F.2.1 (F.2.2.2.2.2.2.2.1.2.2.2.2.1.1 i hi).2.1 hS F.2.2.2.2.1 (F.2.2.2.2.2.1 _ hL) (fun _ h => h) hdg kk) K
theorem zS_sarl (pc' : Nat) (hn : pc + 1 = pc') {k : Nat} (hk : zTB k) (hdg : decode g.2.1 pc = .ok (.arraylength, 1)) (K : zS g emb pc' ls (.int (Int32.ofNat (zTl.getD (k - 270) 0)) :: st) w X) : zS g emb pc ls (.ref k :: st) w X := by
  subst hn
  obtain ⟨i, hi, rfl⟩ : ∃ i, i < 12 ∧ k = 270 + i := ⟨k - 270, by have := hk.2; omega, by have := hk.1; omega⟩
  exact zS_step (fun p l e R s m args below meth c H locs cells slots Q D cI cZ cO ad A lsA F hl hH hS kk => va_tlen F.1 F.2.1 (F.2.2.2.2.2.2.2.1.2.2.2.2.1.1 i hi).2.2.2 hS (by rw [show 270 + i - 270 = i by omega]) hdg kk) K
theorem zS_sbal (pc' : Nat) (hn : pc + 1 = pc') {k : Nat} {j : Int32} (hk : zTB k) (hdg : decode g.2.1 pc = .ok (.baload, 1)) (K : zS g emb pc' ls (.int ((zTb.getD (k - 270) []).getD j.toNatClampNeg 0) :: st) w X) : zS g emb pc ls (.int j :: .ref k :: st) w (zgd (zin j (zTl.getD (k - 270) 0)) X) := by
  subst hn
  obtain ⟨i, hi, rfl⟩ : ∃ i, i < 12 ∧ k = 270 + i := ⟨k - 270, by have := hk.2; omega, by have := hk.1; omega⟩
  refine zS_gd (fun hj => ?_)
  rw [show 270 + i - 270 = i by omega] at hj K
  exact zS_step (fun p l e R s m args below meth c H locs cells slots Q D cI cZ cO ad A lsA F hl hH hS kk => va_tb F.1 F.2.1 (F.2.2.2.2.2.2.2.1.2.2.2.2.1.1 i hi).2.2.2 hS hj rfl hdg kk) K
theorem zS_getC (pc' : Nat) (hn : pc + 3 = pc') {index : Nat} (hdg : decode g.2.1 pc = .ok (.getstatic index, 3)) (hL : Cond.fieldLink g.1.cls index "java/lang/String" "COMPACT_STRINGS" "Z" ∈ lw_gd) (K : zS g emb pc' ls (.int 1 :: st) w X) : zS g emb pc ls st w X := by
  subst hn
  exact zS_step (fun p l e R s m args below meth c H locs cells slots Q D cI cZ cO ad A lsA F hl hH hS kk => va_gets F.1 F.2.1 F.2.2.2.2.2.2.2.1.2.2.2.2.2.2.1 hS F.2.2.2.2.1 (F.2.2.2.2.2.1 _ hL) (fun _ h => h) hdg kk) K
theorem zS_getF (pc' : Nat) (hn : pc + 3 = pc') {index : Nat} (hdg : decode g.2.1 pc = .ok (.getstatic index, 3)) (hL : Cond.fieldLink g.1.cls index "jdk/internal/util/Preconditions" "SIOOBE_FORMATTER" "Ljava/util/function/BiFunction;" ∈ lw_gd) (K : zS g emb pc' ls (.float 0 :: st) w X) : zS g emb pc ls st w X := by
  subst hn
  exact zS_step (fun p l e R s m args below meth c H locs cells slots Q D cI cZ cO ad A lsA F hl hH hS kk => va_gets F.1 F.2.1 F.2.2.2.2.2.2.2.1.2.2.2.2.2.2.2 hS F.2.2.2.2.1 (F.2.2.2.2.2.1 _ hL) (fun _ h => h) hdg kk) K
theorem zS_i2c (pc' : Nat) (hn : pc + 1 = pc') {x : Int32} (hdg : decode g.2.1 pc = .ok (.i2c, 1)) (K : zS g emb pc' ls (.int ((x.toUInt32 % 65536).toInt32) :: st) w X) : zS g emb pc ls (.int x :: st) w X := by
  subst hn
  exact zS_step (fun p l e R s m args below meth c H locs cells slots Q D cI cZ cO ad A lsA F hl hH hS k => lv_i2c F.1 F.2.1 hdg rfl k) K
theorem zS_retn {x : Int32} {ty : FieldType} (hdg : decode g.2.1 pc = .ok (.ireturn, 1)) (hr : g.2.2.2.1 = some ty) : zS g zEi pc ls [.int x] w (zgd (narrow ty (.int x) = .int x) (some (x, w))) := by
  refine zS_gd (fun hb => ?_)
  intro r w' hX p l e R s m args below meth c H locs cells slots Q D cI cZ cO ad A lsA F hl hH hS hQ
  cases hX
  exact hQ H locs pc lsA hH hS ⟨hdg, ty, hr, hb⟩
/-- the receiver is a text -/
theorem zS_cTi (pc' : Nat) (hn : pc + 3 = pc') {Y : Option (Int32 × zWd)} {f : Int32 → zWd → Option (ρ × zWd)} {index k n : Nat} {as st0 : List Value} (hok : zOk g' zEi (.ref k :: as) w Y) (hdg : decode g.2.1 pc = .ok (.invokevirtual index, 3)) (hcl : g'.1.cls = "java/lang/String") (hk : zTS k) (h1 : Cond.methodLink g.1.cls index g'.1 ∈ lw_gd) (hb : zCbV g'.1 g'.2.1 g'.2.2.1 g'.2.2.2.1 n) (hlen : as.length = n) (hst : st0 = as.reverse ++ .ref k :: st) (hd : zDeep g g') (hr : (st.map fun v => v.category).sum ≤ 8) (K : ∀ r w1, zS g emb pc' ls (.int r :: st) w1 (f r w1)) : zS g emb pc ls st0 w (zcl Y f) := by
  subst hn
  subst hst
  obtain ⟨i, hi, rfl⟩ : ∃ i, i < 12 ∧ k = 253 + i := ⟨k - 253, by have := hk.2; omega, by have := hk.1; omega⟩
  refine zS_cl fun r w1 hX => zS_stepH (fun p l e R s m args below meth c H locs cells slots Q D cI cZ cO ad A lsA F hl hH hS kk => ?_) (K r w1)
  have hAA := zAA_in hH hS F.2.2.2.2.2.2.2.2.1
  have hg : ∀ u ∈ wsV g.1.cls index g'.1.cls g'.1 (zWsm g'), u ∈ lw_gd := by
    intro u hu
    simp only [wsV, List.mem_append, List.mem_cons, List.not_mem_nil, or_false] at hu
    rcases hu with (rfl | rfl | rfl | rfl) | rfl | hu
    · exact h1
    · exact hb.1
    · exact hb.2.1
    · exact hb.2.2.1
    · exact hb.2.2.2.1
    · exact hu
  have hM := hok r w1 hX l D cI cZ cO ad H.size
  refine zCallK (va_runV (C := g'.1.cls) (As := as.map (zv ad)) (rest := st.map (zv ad)) (b := ad (253 + i)) ⟨F.1, F.2.1, F.2.2.2.1, F.2.2.2.2.1, F.2.2.2.2.2.1⟩ hM (cwV n F.2.2.2.2.2.1 (zGood hg) rfl rfl rfl ⟨rfl, hb.2.2.2.2⟩ ⟨by have := F.2.2.2.2.2.2.1.1; exact Nat.le_trans hd.1 this, ?_⟩) ⟨zPc_blind, ?_, ?_⟩ rfl (by rw [List.length_map]; exact hlen) hl.1 (by rw [List.map_append, List.map_reverse]; rfl) (by rw [zl_cat]; exact (by show 2 * 0 + _ ≤ 8; omega)) hdg ⟨F.2.2.2.2.2.2.1.2.2.1, F.2.2.2.2.2.2.1.2.2.2⟩) hS hAA (fun H1 locs1 a b => kk H1 locs1 a b)
  · have := F.2.2.2.2.2.2.1.2.1
    have := hd.1
    have := hd.2
    show 8 + (g'.2.2.1 + 11) + 60 * g'.2.2.2.2.1 ≤ R.locals
    omega
  · rw [hcl]
    exact vk_recv (adK := fun i => ad (253 + i)) (i := i) F.2.2.2.2.2.2.2.1.2.2.2.2.1 hi hS
  · exact zPre F.2.2.2.2.2.2.2.1 hH hS hAA (.ref (253 + i) :: as)
end ZR5
