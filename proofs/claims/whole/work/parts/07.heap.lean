def zSVv (k : Nat) : List Int32 := (zSV.getD k ("", [])).2
section ZR3
variable {ρ : Type} {g : zMth} {emb : ρ → Option Value} {pc : Nat} {ls : List (Nat × Value)} {st : List Value} {w : zWd} {X : Option (ρ × zWd)}
theorem zFv0 {ad : Nat → Nat} {k ci j : Nat} {x : Int32} (h : zFk ci j = 0) : zFv ad k ci j x = .int x := by unfold zFv; rw [h]
theorem zFv1 {ad : Nat → Nat} {k ci j : Nat} {x : Int32} (h : zFk ci j = 1) (hx : ¬ x = 0) : zFv ad k ci j x = .ref (ad x.toNatClampNeg) := by unfold zFv; rw [h]; simp [hx]
theorem zFv2 {ad : Nat → Nat} {k ci j n : Nat} {x : Int32} (h : zFk ci j = n + 2) : zFv ad k ci j x = .ref (ad (k + n)) := by unfold zFv; rw [h]
/-- a class of ours: its words, its place -/
def zCls (ci : Nat) (C : String) (T : u_T) (N : Nat) (ty : Nat → FieldType) : Prop := ci < 13 ∧ vwCl[ci]? = some (C, T, N) ∧ (∀ w ∈ u_ws C T N, w ∈ lw_gd) ∧ (∀ k, k < N → (T k).1 = C) ∧ (∀ k, k < N → parseFieldDescriptor (T k).2.2.1 = some (ty k)) ∧ (∀ a, a < N → ∀ b, b < N → a ≠ b → (T a).2.1 ≠ (T b).2.1)
theorem zC0 : zCls 0 RX0 TX0 11 tyX0 := ⟨by decide, rfl, zUw0, by decide +kernel, tyX0_ok, nmX0⟩
theorem zC1 : zCls 1 RX1 TX1 8 tyX1 := ⟨by decide, rfl, zUw1, by decide +kernel, tyX1_ok, nmX1⟩
theorem zC2 : zCls 2 RX2 TX2 8 tyX2 := ⟨by decide, rfl, zUw2, by decide +kernel, tyX2_ok, nmX2⟩
theorem zC3 : zCls 3 RX3 TX3 2 tyX3 := ⟨by decide, rfl, zUw3, by decide +kernel, tyX3_ok, nmX3⟩
theorem zC4 : zCls 4 RX4 TX4 4 tyX4 := ⟨by decide, rfl, zUw4, by decide +kernel, tyX4_ok, nmX4⟩
theorem zC5 : zCls 5 RX5 TX5 3 tyX5 := ⟨by decide, rfl, zUw5, by decide +kernel, tyX5_ok, nmX5⟩
theorem zC6 : zCls 6 RX6 TX6 12 tyX6 := ⟨by decide, rfl, zUw6, by decide +kernel, tyX6_ok, nmX6⟩
theorem zC7 : zCls 7 RX7 TX7 5 tyX7 := ⟨by decide, rfl, zUw7, by decide +kernel, tyX7_ok, nmX7⟩
theorem zC8 : zCls 8 RX8 TX8 13 tyX8 := ⟨by decide, rfl, zUw8, by decide +kernel, tyX8_ok, nmX8⟩
theorem zC9 : zCls 9 RX9 TX9 2 tyX9 := ⟨by decide, rfl, zUw9, by decide +kernel, tyX9_ok, nmX9⟩
theorem zC10 : zCls 10 RX10 TX10 6 tyX10 := ⟨by decide, rfl, zUw10, by decide +kernel, tyX10_ok, nmX10⟩
theorem zC11 : zCls 11 RX11 TX11 11 tyX11 := ⟨by decide, rfl, zUw11, by decide +kernel, tyX11_ok, nmX11⟩
theorem zC12 : zCls 12 RX12 TX12 25 tyX12 := ⟨by decide, rfl, zUw12, by decide +kernel, tyX12_ok, nmX12⟩
theorem zS_getfi (pc' : Nat) (hn : pc + 3 = pc') {ci N index k : Nat} {C : String} {T : u_T} {ty : Nat → FieldType} (j : Nat)  (hdg : decode g.2.1 pc = .ok (.getfield index, 3)) (hC : zCls ci C T N ty) (hL : Cond.fieldLink g.1.cls index C (T j).2.1 (T j).2.2.1 ∈ lw_gd) (hj : j < N) (hf : zFk ci j = 0) (hs : zShp k = (ci, N)) (K : zS g emb pc' ls (.int (w k j) :: st) w X) : zS g emb pc ls (.ref k :: st) w X := by
  subst hn
  obtain ⟨h13, hc, hu, hd, hty, hnm⟩ := hC
  exact zS_step (fun p l e R s m args below meth c H locs cells slots Q D cI cZ cO ad A lsA F hl hH hS kk => va_get (v := zv ad (.int (w k j))) F.1 F.2.1 F.2.2.2.2.2.1 hu F.2.2.2.2.1 F.2.2.2.2.2.2.2.1.1 hH.1 k (by rw [zWs_at _ _ _ _ _ (zShp_lt hs (by omega)), zEnt_obj _ _ _ _ _ hs h13]) hc j hj (F.2.2.2.2.2.1 _ hL) (by rw [hd j hj]; exact fun _ h => h) (by rw [zFs_at _ _ _ _ hj]; exact congrArg some (zFv0 hf)) hdg kk) K
theorem zS_getfp (pc' : Nat) (hn : pc + 3 = pc') {ci N index k : Nat} {C : String} {T : u_T} {ty : Nat → FieldType} (j : Nat) {n : Nat} (hdg : decode g.2.1 pc = .ok (.getfield index, 3)) (hC : zCls ci C T N ty) (hL : Cond.fieldLink g.1.cls index C (T j).2.1 (T j).2.2.1 ∈ lw_gd) (hj : j < N) (hf : zFk ci j = n + 2) (hs : zShp k = (ci, N)) (K : zS g emb pc' ls (.ref (k + n) :: st) w X) : zS g emb pc ls (.ref k :: st) w X := by
  subst hn
  obtain ⟨h13, hc, hu, hd, hty, hnm⟩ := hC
  exact zS_step (fun p l e R s m args below meth c H locs cells slots Q D cI cZ cO ad A lsA F hl hH hS kk => va_get (v := zv ad (.ref (k + n))) F.1 F.2.1 F.2.2.2.2.2.1 hu F.2.2.2.2.1 F.2.2.2.2.2.2.2.1.1 hH.1 k (by rw [zWs_at _ _ _ _ _ (zShp_lt hs (by omega)), zEnt_obj _ _ _ _ _ hs h13]) hc j hj (F.2.2.2.2.2.1 _ hL) (by rw [hd j hj]; exact fun _ h => h) (by rw [zFs_at _ _ _ _ hj]; exact congrArg some (zFv2 hf)) hdg kk) K
theorem zS_getfd (pc' : Nat) (hn : pc + 3 = pc') {ci N index k : Nat} {C : String} {T : u_T} {ty : Nat → FieldType} (j : Nat)  (hdg : decode g.2.1 pc = .ok (.getfield index, 3)) (hC : zCls ci C T N ty) (hL : Cond.fieldLink g.1.cls index C (T j).2.1 (T j).2.2.1 ∈ lw_gd) (hj : j < N) (hf : zFk ci j = 1) (hs : zShp k = (ci, N)) (K : zS g emb pc' ls (.ref (w k j).toNatClampNeg :: st) w X) : zS g emb pc ls (.ref k :: st) w (zgd (¬ w k j = 0) X) := by
  subst hn
  obtain ⟨h13, hc, hu, hd, hty, hnm⟩ := hC
  refine zS_gd (fun hx => ?_)
  exact zS_step (fun p l e R s m args below meth c H locs cells slots Q D cI cZ cO ad A lsA F hl hH hS kk => va_get (v := zv ad (.ref (w k j).toNatClampNeg)) F.1 F.2.1 F.2.2.2.2.2.1 hu F.2.2.2.2.1 F.2.2.2.2.2.2.2.1.1 hH.1 k (by rw [zWs_at _ _ _ _ _ (zShp_lt hs (by omega)), zEnt_obj _ _ _ _ _ hs h13]) hc j hj (F.2.2.2.2.2.1 _ hL) (by rw [hd j hj]; exact fun _ h => h) (by rw [zFs_at _ _ _ _ hj]; exact congrArg some (zFv1 hf hx)) hdg kk) K
theorem zS_putfi (pc' : Nat) (hn : pc + 3 = pc') {ci N index k : Nat} {C : String} {T : u_T} {ty : Nat → FieldType} (j : Nat) {x : Int32} (hdg : decode g.2.1 pc = .ok (.putfield index, 3)) (hC : zCls ci C T N ty) (hL : Cond.fieldLink g.1.cls index C (T j).2.1 (T j).2.2.1 ∈ lw_gd) (hj : j < N) (hf : zFk ci j = 0) (hfin : (T j).2.2.2 = false) (hT : ty j = .int) (hs : zShp k = (ci, N)) (K : zS g emb pc' ls st (zup w k j (x)) X) : zS g emb pc ls (.int x :: .ref k :: st) w X := by
  subst hn
  obtain ⟨h13, hc, hu, hd, hty, hnm⟩ := hC
  have hk := zShp_lt hs (by omega)
  exact zS_stepH (fun p l e R s m args below meth c H locs cells slots Q D cI cZ cO ad A lsA F hl hH hS kk => va_put (v := zv ad (.int x)) F.1 F.2.1 F.2.2.2.2.2.1 hu ty hty hnm F.2.2.2.2.1 F.2.2.2.2.2.2.2.1.1 hH.1 hH.2 hS k (by rw [zWs_at _ _ _ _ _ hk, zEnt_obj _ _ _ _ _ hs h13]) hc j hj (F.2.2.2.2.2.1 _ hL) (by rw [hd j hj]; exact fun _ h => h) hfin (hty j hj) (by rw [hT]; exact rfl) (by rw [hT]; rfl) (by rw [zFs_len]; exact hj) hdg (fun H1 locs1 h1 h2 h3 => by
    have e : va_E := .inr (ci, (zFs ad k ci N (w k)).set j (zFv ad k ci j (x)))
    exact kk H1 locs1 (zHold.set (w := w) (w' := zup w k j (x)) hk (zup_ne w k j _) (e := .inr (ci, (zFs ad k ci N (w k)).set j (zv ad (.int x)))) (by rw [zEnt_obj _ _ _ _ _ hs h13, zup_self, ← zFs_set _ _ _ _ _ hj, show zFv ad k ci j (x) = zv ad (.int x) from zFv0 hf]) h1 h2) h3)) K
theorem zS_putfb (pc' : Nat) (hn : pc + 3 = pc') {ci N index k : Nat} {C : String} {T : u_T} {ty : Nat → FieldType} (j : Nat) {x : Int32} (hdg : decode g.2.1 pc = .ok (.putfield index, 3)) (hC : zCls ci C T N ty) (hL : Cond.fieldLink g.1.cls index C (T j).2.1 (T j).2.2.1 ∈ lw_gd) (hj : j < N) (hf : zFk ci j = 0) (hfin : (T j).2.2.2 = false) (hT : ty j = .boolean) (hs : zShp k = (ci, N)) (K : zS g emb pc' ls st (zup w k j (x)) X) : zS g emb pc ls (.int x :: .ref k :: st) w (zgd (zB x) X) := by
  subst hn
  obtain ⟨h13, hc, hu, hd, hty, hnm⟩ := hC
  have hk := zShp_lt hs (by omega)
  refine zS_gd (fun hx => ?_)
  exact zS_stepH (fun p l e R s m args below meth c H locs cells slots Q D cI cZ cO ad A lsA F hl hH hS kk => va_put (v := zv ad (.int x)) F.1 F.2.1 F.2.2.2.2.2.1 hu ty hty hnm F.2.2.2.2.1 F.2.2.2.2.2.2.2.1.1 hH.1 hH.2 hS k (by rw [zWs_at _ _ _ _ _ hk, zEnt_obj _ _ _ _ _ hs h13]) hc j hj (F.2.2.2.2.2.1 _ hL) (by rw [hd j hj]; exact fun _ h => h) hfin (hty j hj) (by rw [hT]; exact zB_nar hx) (by rw [hT]; rcases hx with rfl | rfl <;> rfl) (by rw [zFs_len]; exact hj) hdg (fun H1 locs1 h1 h2 h3 => by
    have e : va_E := .inr (ci, (zFs ad k ci N (w k)).set j (zFv ad k ci j (x)))
    exact kk H1 locs1 (zHold.set (w := w) (w' := zup w k j (x)) hk (zup_ne w k j _) (e := .inr (ci, (zFs ad k ci N (w k)).set j (zv ad (.int x)))) (by rw [zEnt_obj _ _ _ _ _ hs h13, zup_self, ← zFs_set _ _ _ _ _ hj, show zFv ad k ci j (x) = zv ad (.int x) from zFv0 hf]) h1 h2) h3)) K
theorem zOfN {x : Nat} (hx : x < 250) : (Int32.ofNat x).toNatClampNeg = x := Int32.toNatClampNeg_ofNat_of_lt (by omega)
theorem zFv_d {ad : Nat → Nat} {k ci j x : Nat} (h : zFk ci j = 1) (h0 : x ≠ 0) (hx : x < 250) : zFv ad k ci j (Int32.ofNat x) = .ref (ad x) := by
  rw [zFv1 h, zOfN hx]
  intro e
  have h1 := congrArg Int32.toNatClampNeg e
  rw [zOfN hx] at h1
  exact h0 h1
theorem zS_putfd (pc' : Nat) (hn : pc + 3 = pc') {ci N index k : Nat} {C : String} {T : u_T} {ty : Nat → FieldType} (j : Nat) {x : Nat} (hdg : decode g.2.1 pc = .ok (.putfield index, 3)) (hC : zCls ci C T N ty) (hL : Cond.fieldLink g.1.cls index C (T j).2.1 (T j).2.2.1 ∈ lw_gd) (hj : j < N) (hf : zFk ci j = 1) (hfin : (T j).2.2.2 = false) {n : String} (hT : ty j = .object n ∨ ty j = .array .int) (hx0 : x ≠ 0) (hx : x < 250) (hs : zShp k = (ci, N)) (K : zS g emb pc' ls st (zup w k j (Int32.ofNat x)) X) : zS g emb pc ls (.ref x :: .ref k :: st) w X := by
  subst hn
  obtain ⟨h13, hc, hu, hd, hty, hnm⟩ := hC
  have hk := zShp_lt hs (by omega)
  exact zS_stepH (fun p l e R s m args below meth c H locs cells slots Q D cI cZ cO ad A lsA F hl hH hS kk => va_put (v := zv ad (.ref x)) F.1 F.2.1 F.2.2.2.2.2.1 hu ty hty hnm F.2.2.2.2.1 F.2.2.2.2.2.2.2.1.1 hH.1 hH.2 hS k (by rw [zWs_at _ _ _ _ _ hk, zEnt_obj _ _ _ _ _ hs h13]) hc j hj (F.2.2.2.2.2.1 _ hL) (by rw [hd j hj]; exact fun _ h => h) hfin (hty j hj) (by rcases hT with hT | hT <;> rw [hT] <;> rfl) (by rcases hT with hT | hT <;> rw [hT] <;> rfl) (by rw [zFs_len]; exact hj) hdg (fun H1 locs1 h1 h2 h3 => by
    have e : va_E := .inr (ci, (zFs ad k ci N (w k)).set j (zFv ad k ci j (Int32.ofNat x)))
    exact kk H1 locs1 (zHold.set (w := w) (w' := zup w k j (Int32.ofNat x)) hk (zup_ne w k j _) (e := .inr (ci, (zFs ad k ci N (w k)).set j (zv ad (.ref x)))) (by rw [zEnt_obj _ _ _ _ _ hs h13, zup_self, ← zFs_set _ _ _ _ _ hj, show zFv ad k ci j (Int32.ofNat x) = zv ad (.ref x) from zFv_d hf hx0 hx]) h1 h2) h3)) K
theorem zS_iald (pc' : Nat) (hn : pc + 1 = pc') {i : Int32} {k n : Nat} (hdg : decode g.2.1 pc = .ok (.iaload, 1)) (hs : zShp k = (20, n)) (K : zS g emb pc' ls (.int (w k i.toNatClampNeg) :: st) w X) : zS g emb pc ls (.int i :: .ref k :: st) w (zgd (zin i n) X) := by
  subst hn
  refine zS_gd (fun hi => ?_)
  exact zS_step (fun p l e R s m args below meth c H locs cells slots Q D cI cZ cO ad A lsA F hl hH hS kk => va_iald F.1 F.2.1 F.2.2.2.2.2.2.2.1.1 hH.1 k 0 (by rw [zWs_at _ _ _ _ _ (zShp_lt hs (by omega)), zEnt_int _ _ _ _ _ hs]) rfl hi hdg kk) K
theorem zS_zald (pc' : Nat) (hn : pc + 1 = pc') {i : Int32} {k n : Nat} (hdg : decode g.2.1 pc = .ok (.baload, 1)) (hs : zShp k = (21, n)) (K : zS g emb pc' ls (.int (w k i.toNatClampNeg) :: st) w X) : zS g emb pc ls (.int i :: .ref k :: st) w (zgd (zin i n) X) := by
  subst hn
  refine zS_gd (fun hi => ?_)
  exact zS_step (fun p l e R s m args below meth c H locs cells slots Q D cI cZ cO ad A lsA F hl hH hS kk => va_zald F.1 F.2.1 F.2.2.2.2.2.2.2.1.1 hH.1 k 1 (by rw [zWs_at _ _ _ _ _ (zShp_lt hs (by omega)), zEnt_boo _ _ _ _ _ hs]) rfl hi hdg kk) K
theorem zS_iast (pc' : Nat) (hn : pc + 1 = pc') {i x : Int32} {k n : Nat} (hdg : decode g.2.1 pc = .ok (.iastore, 1)) (hs : zShp k = (20, n)) (K : zS g emb pc' ls st (zup w k i.toNatClampNeg x) X) : zS g emb pc ls (.int x :: .int i :: .ref k :: st) w (zgd (zin i n) X) := by
  subst hn
  have hk := zShp_lt hs (by omega)
  refine zS_gd (fun hi => ?_)
  exact zS_stepH (fun p l e R s m args below meth c H locs cells slots Q D cI cZ cO ad A lsA F hl hH hS kk => va_iast F.1 F.2.1 F.2.2.2.2.2.2.2.1.1 hH.1 hH.2 hS k 0 (by rw [zWs_at _ _ _ _ _ hk, zEnt_int _ _ _ _ _ hs]) rfl hi hdg (fun H1 locs1 h1 h2 h3 => kk H1 locs1 (zHold.set hk (zup_ne w k _ _) (by rw [zEnt_int _ _ _ _ _ hs, zup_self]) h1 h2) h3)) K
theorem zS_zast (pc' : Nat) (hn : pc + 1 = pc') {i x : Int32} {k n : Nat} (hdg : decode g.2.1 pc = .ok (.bastore, 1)) (hs : zShp k = (21, n)) (K : zS g emb pc' ls st (zup w k i.toNatClampNeg (vp_nar .boolean x)) X) : zS g emb pc ls (.int x :: .int i :: .ref k :: st) w (zgd (zin i n) X) := by
  subst hn
  have hk := zShp_lt hs (by omega)
  refine zS_gd (fun hi => ?_)
  exact zS_stepH (fun p l e R s m args below meth c H locs cells slots Q D cI cZ cO ad A lsA F hl hH hS kk => va_zast F.1 F.2.1 F.2.2.2.2.2.2.2.1.1 hH.1 hH.2 hS k 1 (by rw [zWs_at _ _ _ _ _ hk, zEnt_boo _ _ _ _ _ hs]) rfl hi hdg (fun H1 locs1 h1 h2 h3 => kk H1 locs1 (zHold.set hk (zup_ne w k _ _) (by rw [zEnt_boo _ _ _ _ _ hs, zup_self]) h1 h2) h3)) K
theorem zS_aald (pc' : Nat) (hn : pc + 1 = pc') {i : Int32} {k n : Nat} (hdg : decode g.2.1 pc = .ok (.aaload, 1)) (hs : zShp k = (22, n)) (K : zin i n → zS g emb pc' ls (.ref (k + 1 + 6 * i.toNatClampNeg) :: st) w X) : zS g emb pc ls (.int i :: .ref k :: st) w (zgd (zin i n) X) := by
  subst hn
  refine zS_gd (fun hi => ?_)
  exact zS_step (fun p l e R s m args below meth c H locs cells slots Q D cI cZ cO ad A lsA F hl hH hS kk => va_aldq F.1 F.2.1 F.2.2.2.2.2.2.2.1.1 hH.1 k 2 (by rw [zWs_at _ _ _ _ _ (zShp_lt hs (by omega)), zEnt_ord _ _ _ _ _ hs]) rfl hi hdg kk) (K hi)
theorem zS_alen (pc' : Nat) (hn : pc + 1 = pc') {k n : Nat} (v : Int32) (hv : Int32.ofNat n = v) (hdg : decode g.2.1 pc = .ok (.arraylength, 1)) {c0 : Nat} (h0 : c0 = 20 ∨ c0 = 22) (hs : zShp k = (c0, n)) (K : zS g emb pc' ls (.int v :: st) w X) : zS g emb pc ls (.ref k :: st) w X := by
  subst hn
  rcases h0 with rfl | rfl
  · exact zS_step (fun p l e R s m args below meth c H locs cells slots Q D cI cZ cO ad A lsA F hl hH hS kk => va_alen F.1 F.2.1 F.2.2.2.2.2.2.2.1.1 hH.1 k 0 (by rw [zWs_at _ _ _ _ _ (zShp_lt hs (by omega)), zEnt_int _ _ _ _ _ hs]) rfl hv hdg kk) K
  · exact zS_step (fun p l e R s m args below meth c H locs cells slots Q D cI cZ cO ad A lsA F hl hH hS kk => va_alen F.1 F.2.1 F.2.2.2.2.2.2.2.1.1 hH.1 k 2 (by rw [zWs_at _ _ _ _ _ (zShp_lt hs (by omega)), zEnt_ord _ _ _ _ _ hs]) rfl hv hdg kk) K
theorem zS_gets (pc' : Nat) (hn : pc + 3 = pc') {index : Nat} (i : Nat) {q : String × List Int32} (hq : zSV[i]? = some q) (hdg : decode g.2.1 pc = .ok (.getstatic index, 3)) (hL : Cond.fieldLink g.1.cls index "HotSprings" q.1 "[I" ∈ lw_gd) (K : zS g emb pc' ls (.ref (250 + i) :: st) w X) : zS g emb pc ls st w X := by
  subst hn
  exact zS_step (fun p l e R s m args below meth c H locs cells slots Q D cI cZ cO ad A lsA F hl hH hS kk => va_gets F.1 F.2.1 (F.2.2.2.2.2.2.2.1.2.2.2.1 i q hq).1 hS F.2.2.2.2.1 (F.2.2.2.2.2.1 _ hL) (fun _ h => h) hdg kk) K
theorem zS_getsN (pc' : Nat) (hn : pc + 3 = pc') {index : Nat} (i : Nat) {q : String × List Int32} (hq : zSV[i]? = some q) (hdg : decode g.2.1 pc = .ok (.getstatic index, 3)) (hL : (g.1.cls, index, q.1) ∈ zNF) (K : zS g emb pc' ls (.ref (250 + i) :: st) w X) : zS g emb pc ls st w X := by
  subst hn
  exact zS_step (fun p l e R s m args below meth c H locs cells slots Q D cI cZ cO ad A lsA F hl hH hS kk => va_getsN F.1 F.2.1 (F.2.2.2.2.2.2.2.1.2.2.2.1 i q hq).1 hS F.2.2.2.2.1 (va_Nw.use rfl (F.2.2.2.2.2.2.2.1.2.2.1 _ hL)) (fun _ h => h) hdg kk) K
theorem zS_tald (pc' : Nat) (hn : pc + 1 = pc') {i : Int32} (k : Nat) {nm : String} {n : Nat} (hq : zSV[k]? = some (nm, zSVv k)) (hv : (zSVv k).length = n) (hdg : decode g.2.1 pc = .ok (.iaload, 1)) (K : zS g emb pc' ls (.int ((zSVv k).getD i.toNatClampNeg 0) :: st) w X) : zS g emb pc ls (.int i :: .ref (250 + k) :: st) w (zgd (zin i n) X) := by
  subst hn
  subst hv
  refine zS_gd (fun hi => ?_)
  exact zS_step (fun p l e R s m args below meth c H locs cells slots Q D cI cZ cO ad A lsA F hl hH hS kk => va_ti F.1 F.2.1 (F.2.2.2.2.2.2.2.1.2.2.2.1 k _ hq).2 hS hi rfl hdg kk) K
theorem zS_tlen (pc' : Nat) (hn : pc + 1 = pc') (k : Nat) {nm : String} {vs : List Int32} (hq : zSV[k]? = some (nm, vs)) (v : Int32) (hv : Int32.ofNat vs.length = v) (hdg : decode g.2.1 pc = .ok (.arraylength, 1)) (K : zS g emb pc' ls (.int v :: st) w X) : zS g emb pc ls (.ref (250 + k) :: st) w X := by
  subst hn
  exact zS_step (fun p l e R s m args below meth c H locs cells slots Q D cI cZ cO ad A lsA F hl hH hS kk => va_tlen F.1 F.2.1 (F.2.2.2.2.2.2.2.1.2.2.2.1 k _ hq).2 hS hv hdg kk) K
theorem zS_mmax (pc' : Nat) (hn : pc + 3 = pc') {index : Nat} {x y : Int32} (hdg : decode g.2.1 pc = .ok (.invokestatic index, 3)) (h1 : Cond.methodLink g.1.cls index Lib.Math.max.name ∈ lw_gd) (h2 : Cond.static Lib.Math.max.name ∈ lw_gd) (h3 : Cond.initialized "java/lang/Math" ∈ lw_gd) (h4 : Cond.code Lib.Math.max.name Lib.Math.max.code 2 (some .int) ∈ lw_gd) (hd : 1 ≤ g.2.2.2.2.1) (hr : (st.map fun v => v.category).sum ≤ 8) (K : zS g emb pc' ls (.int (if x < y then y else x) :: st) w X) : zS g emb pc ls (.int y :: .int x :: st) w X := by
  subst hn
  exact zS_step (fun p l e R s m args below meth c H locs cells slots Q D cI cZ cO ad A lsA F hl hH hS kk => va_mmax F.1 F.2.1 (F.2.2.2.1.trans hl.1.symm) F.2.2.2.2.1 (F.2.2.2.2.2.1 _ h1) (F.2.2.2.2.2.1 _ h2) (F.2.2.2.2.2.1 _ h3) (F.2.2.2.2.2.1 _ h4) (by have := F.2.2.2.2.2.2.1.1; omega) (by have := F.2.2.2.2.2.2.1.2.1; rw [zl_cat]; omega) F.2.2.2.2.2.2.1.2.2.1 F.2.2.2.2.2.2.1.2.2.2 hdg kk) K
theorem zS_mmin (pc' : Nat) (hn : pc + 3 = pc') {index : Nat} {x y : Int32} (hdg : decode g.2.1 pc = .ok (.invokestatic index, 3)) (h1 : Cond.methodLink g.1.cls index Lib.Math.min.name ∈ lw_gd) (h2 : Cond.static Lib.Math.min.name ∈ lw_gd) (h3 : Cond.initialized "java/lang/Math" ∈ lw_gd) (h4 : Cond.code Lib.Math.min.name Lib.Math.min.code 2 (some .int) ∈ lw_gd) (hd : 1 ≤ g.2.2.2.2.1) (hr : (st.map fun v => v.category).sum ≤ 8) (K : zS g emb pc' ls (.int (if y < x then y else x) :: st) w X) : zS g emb pc ls (.int y :: .int x :: st) w X := by
  subst hn
  exact zS_step (fun p l e R s m args below meth c H locs cells slots Q D cI cZ cO ad A lsA F hl hH hS kk => va_mmin F.1 F.2.1 (F.2.2.2.1.trans hl.1.symm) F.2.2.2.2.1 (F.2.2.2.2.2.1 _ h1) (F.2.2.2.2.2.1 _ h2) (F.2.2.2.2.2.1 _ h3) (F.2.2.2.2.2.1 _ h4) (by have := F.2.2.2.2.2.2.1.1; omega) (by have := F.2.2.2.2.2.2.1.2.1; rw [zl_cat]; omega) F.2.2.2.2.2.2.1.2.2.1 F.2.2.2.2.2.2.1.2.2.2 hdg kk) K
theorem zS_mabs (pc' : Nat) (hn : pc + 3 = pc') {index : Nat} {x : Int32} (hdg : decode g.2.1 pc = .ok (.invokestatic index, 3)) (h1 : Cond.methodLink g.1.cls index Lib.Math.abs.name ∈ lw_gd) (h2 : Cond.static Lib.Math.abs.name ∈ lw_gd) (h3 : Cond.initialized "java/lang/Math" ∈ lw_gd) (h4 : Cond.code Lib.Math.abs.name Lib.Math.abs.code 1 (some .int) ∈ lw_gd) (hd : 1 ≤ g.2.2.2.2.1) (hr : (st.map fun v => v.category).sum ≤ 8) (K : zS g emb pc' ls (.int (if 0 ≤ x then x else 0 - x) :: st) w X) : zS g emb pc ls (.int x :: st) w X := by
  subst hn
  exact zS_step (fun p l e R s m args below meth c H locs cells slots Q D cI cZ cO ad A lsA F hl hH hS kk => va_mabs F.1 F.2.1 (F.2.2.2.1.trans hl.1.symm) F.2.2.2.2.1 (F.2.2.2.2.2.1 _ h1) (F.2.2.2.2.2.1 _ h2) (F.2.2.2.2.2.1 _ h3) (F.2.2.2.2.2.1 _ h4) (by have := F.2.2.2.2.2.2.1.1; omega) (by have := F.2.2.2.2.2.2.1.2.1; rw [zl_cat]; omega) F.2.2.2.2.2.2.1.2.2.1 F.2.2.2.2.2.2.1.2.2.2 hdg kk) K
theorem zcp_self (w : zWd) (k1 p1 k2 p2 n : Nat) : zcp w k1 p1 k2 p2 n k2 = va_cpy (w k1) (w k2) p1 p2 n := by simp [zcp]
theorem zcp_ne (w : zWd) (k1 p1 k2 p2 n : Nat) : ∀ a, a ≠ k2 → zcp w k1 p1 k2 p2 n a = w a := fun a h => by simp [zcp, h]
abbrev zcok (sp dp n : Int32) (n1 n2 : Nat) : Prop := (¬ sp < 0) ∧ (¬ dp < 0) ∧ (¬ n < 0) ∧ sp.toNatClampNeg + n.toNatClampNeg ≤ n1 ∧ dp.toNatClampNeg + n.toNatClampNeg ≤ n2
theorem zS_copy (pc' : Nat) (hn : pc + 3 = pc') {index : Nat} {k1 k2 n1 n2 : Nat} {sp dp n : Int32} (hdg : decode g.2.1 pc = .ok (.invokestatic index, 3)) (h1 : Cond.methodLink g.1.cls index arraycopyName ∈ lw_gd) (h2 : Cond.native arraycopyName ∈ lw_gd) (h3 : Cond.static arraycopyName ∈ lw_gd) (h4 : Cond.initialized "java/lang/System" ∈ lw_gd) (hs1 : zShp k1 = (20, n1)) (hs2 : zShp k2 = (20, n2)) (hd : 1 ≤ g.2.2.2.2.1) (hr : (st.map fun v => v.category).sum ≤ 8) (hnf : nativeFrameWords "java/lang/System" "arraycopy" 5 ≤ 40) (K : zS g emb pc' ls st (zcp w k1 sp.toNatClampNeg k2 dp.toNatClampNeg n.toNatClampNeg) X) : zS g emb pc ls (.int n :: .int dp :: .ref k2 :: .int sp :: .ref k1 :: st) w (zgd (zcok sp dp n n1 n2) X) := by
  subst hn
  have hk1 := zShp_lt hs1 (by omega)
  have hk2 := zShp_lt hs2 (by omega)
  refine zS_gd (fun hi => ?_)
  exact zS_stepH (fun p l e R s m args below meth c H locs cells slots Q D cI cZ cO ad A lsA F hl hH hS kk => va_copyi F.1 F.2.1 (F.2.2.2.1.trans hl.1.symm) F.2.2.2.2.1 (F.2.2.2.2.2.1 _ h1) (F.2.2.2.2.2.1 _ h2) (F.2.2.2.2.2.1 _ h3) (F.2.2.2.2.2.1 _ h4) F.2.2.2.2.2.2.2.1.1 hH.1 hH.2 hS k1 k2 0 0 (by rw [zWs_at _ _ _ _ _ hk1, zEnt_int _ _ _ _ _ hs1]) (by rw [zWs_at _ _ _ _ _ hk2, zEnt_int _ _ _ _ _ hs2]) rfl rfl rfl hi.1 hi.2.1 hi.2.2.1 hi.2.2.2.1 hi.2.2.2.2 (fun _ _ => rfl) (by have := F.2.2.2.2.2.2.1.1; omega) (by have := F.2.2.2.2.2.2.1.2.1; rw [zl_cat]; omega) hdg (fun H1 locs1 h1 h2 h3 => kk H1 locs1 (zHold.set hk2 (zcp_ne w k1 _ k2 _ _) (by rw [zEnt_int _ _ _ _ _ hs2, zcp_self]) h1 h2) h3)) K
end ZR3
