section KR2
variable {g : kMth} {n cs sl pc : Nat} {E : kE} {ls : List (Nat × Value)} {st : List Value} {B : kSt}
theorem zR_getp (pc' : Nat) (hn : pc + 3 = pc') {ci N index k x : Nat} {C : String} {T : u_T} {ty : Nat → FieldType} {fs : List Value} (j : Nat) (hC : zCls ci C T N ty) (hL : Cond.fieldLink g.1.cls index C (T j).2.1 (T j).2.2.1 ∈ lw_gd) (hj : j < N) (hk : k < n) (hE : ∀ cI cZ cO ad, E cI cZ cO ad k = .inr (ci, fs.map (zv ad))) (hf : fs[j]? = some (.ref x)) (hdg : decode g.2.1 pc = .ok (.getfield index, 3)) (K : zR g (n, E, cs, sl, pc', ls, .ref x :: st) B) : zR g (n, E, cs, sl, pc, ls, .ref k :: st) B := by
  subst hn
  obtain ⟨h13, hc, hu, hd, hty, hnm⟩ := hC
  exact zR_step (fun p l e R s m args below meth c H locs Q D cI cZ cO ad bs A lsA F hl hH hS kk => va_get (v := .ref (ad x)) F.1 F.2.1 F.2.2.2.2.1 hu F.2.2.2.1 F.2.2.2.2.2.2.1.1 hH.1 k (by rw [kWs_at _ _ hk, hE]) hc j hj (F.2.2.2.2.1 _ hL) (by rw [hd j hj]; exact fun _ h => h) (by rw [List.getElem?_map, hf]; rfl) hdg (kk H locs lsA hH hl hS)) K
theorem zR_gets (pc' : Nat) (hn : pc + 3 = pc') {index : Nat} (i : Nat) {q : String × List Int32} (hq : zSV[i]? = some q) (hdg : decode g.2.1 pc = .ok (.getstatic index, 3)) (hL : (g.1.cls, index, q.1) ∈ zNF) (K : zR g (n, E, cs, sl, pc', ls, .ref (250 + i) :: st) B) : zR g (n, E, cs, sl, pc, ls, st) B := by
  subst hn
  exact zR_step (fun p l e R s m args below meth c H locs Q D cI cZ cO ad bs A lsA F hl hH hS kk => va_getsN F.1 F.2.1 (F.2.2.2.2.2.2.1.2.2.2.1 i q hq).1 hS F.2.2.2.1 (va_Nw.use rfl (F.2.2.2.2.2.2.1.2.2.1 _ hL)) (fun _ h => h) hdg (kk H locs lsA hH hl hS)) K
theorem zR_tlen (pc' : Nat) (hn : pc + 1 = pc') (k : Nat) {nm : String} {vs : List Int32} (hq : zSV[k]? = some (nm, vs)) (v : Int32) (hv : Int32.ofNat vs.length = v) (hdg : decode g.2.1 pc = .ok (.arraylength, 1)) (K : zR g (n, E, cs, sl, pc', ls, .int v :: st) B) : zR g (n, E, cs, sl, pc, ls, .ref (250 + k) :: st) B := by
  subst hn
  exact zR_step (fun p l e R s m args below meth c H locs Q D cI cZ cO ad bs A lsA F hl hH hS kk => va_tlen F.1 F.2.1 (F.2.2.2.2.2.2.1.2.2.2.1 k _ hq).2 hS hv hdg (kk H locs lsA hH hl hS)) K
theorem zR_alenq (pc' : Nat) (hn : pc + 1 = pc') {k N : Nat} (v : Int32) (hv : Int32.ofNat N = v) (hk : k < n) (hE : ∀ cI cZ cO ad, ∃ f, E cI cZ cO ad k = .inl (cO, N, .inr (.inr (.inr (.inr f))))) (hdg : decode g.2.1 pc = .ok (.arraylength, 1)) (K : zR g (n, E, cs, sl, pc', ls, .int v :: st) B) : zR g (n, E, cs, sl, pc, ls, .ref k :: st) B := by
  subst hn
  refine zR_step (fun p l e R s m args below meth c H locs Q D cI cZ cO ad bs A lsA F hl hH hS kk => ?_) K
  obtain ⟨f, hf⟩ := hE cI cZ cO ad
  exact va_alen F.1 F.2.1 F.2.2.2.2.2.2.1.1 hH.1 k 2 (by rw [kWs_at _ _ hk, hf]) rfl hv hdg (kk H locs lsA hH hl hS)
theorem zR_put (fin : Bool) (pc' : Nat) (hn : pc + 3 = pc') {ci N index k : Nat} {C : String} {T : u_T} {ty : Nat → FieldType} {fs : List Value} {E' : kE} {x : Nat} (j : Nat) (hC : zCls ci C T N ty) (hcls : g.1.cls = C) (hini : g.1.name = "<init>") (hL : Cond.fieldLink g.1.cls index C (T j).2.1 (T j).2.2.1 ∈ lw_gd) (hj : j < N) (hfin : (T j).2.2.2 = fin) (hT : (∃ z, ty j = .object z) ∨ ∃ z, ty j = .array z) (hk : k < n) (hlen : j < fs.length)
    (hE : ∀ cI cZ cO ad, E cI cZ cO ad k = .inr (ci, fs.map (zv ad))) (hE1 : ∀ cI cZ cO ad i, i ≠ k → E' cI cZ cO ad i = E cI cZ cO ad i) (hE2 : ∀ cI cZ cO ad, E' cI cZ cO ad k = .inr (ci, (fs.set j (.ref x)).map (zv ad))) (hdg : decode g.2.1 pc = .ok (.putfield index, 3)) (K : zR g (n, E', cs, sl, pc', ls, st) B) : zR g (n, E, cs, sl, pc, ls, .ref x :: .ref k :: st) B := by
  subst hn
  obtain ⟨h13, hc, hu, hd, hty, hnm⟩ := hC
  refine zR_step (fun p l e R s m args below meth c H locs Q D cI cZ cO ad bs A lsA F hl hH hS kk => ?_) K
  obtain ⟨hx1, hb, hml, hown, hts, hroom, hSt, hA, hin2, had, hAO, hAk⟩ := F
  have hK := hSt.1
  have hP := hH.1
  have he : (kWs ad n (E cI cZ cO ad))[k]? = some (ad k, .inr (ci, fs.map (zv ad))) := by rw [kWs_at _ _ hk, hE]
  have hap := va_apart (own := C) hts hu ty hty hnm hK hc
  obtain ⟨r, h1, cell, q1, q2, q3, q4⟩ := hP k _ he
  have hr : r = (C, T, N) := Option.some.inj (h1.symm.trans hc)
  subst hr
  obtain ⟨hSS, hfc, kC, hkC, hkind⟩ := hK.1 ci _ hc
  obtain ⟨cf, kf, fi, f, hi, hsl⟩ := hSS j hj
  have hlay := hts _ (hu _ (u_in_lay hj))
  have hst := (u_facts hfc hkC (u_lays hts hu hj) hi).1
  have hn9 : narrow (ty j) (.ref (ad x)) = .ref (ad x) := by rcases hT with ⟨z, e⟩ | ⟨z, e⟩ <;> rw [e] <;> rfl
  have hf9 : fits (ty j) (.ref (ad x)) = true := by rcases hT with ⟨z, e⟩ | ⟨z, e⟩ <;> rw [e] <;> rfl
  have hs9 : s.fieldFound? (T j).1 (T j).2.1 (T j).2.2.1 = some (cf, kf, fi, f) → s.fieldFound? C (T j).2.1 (T j).2.2.1 = some (cf, kf, fi, f) := by rw [hd j hj]; exact fun h => h
  have key : ∀ (H' : Heap), H'[ad k]? = some (cell.setSlot (D.2 ci j) (.ref (ad x))) → H'.size = H.size → (∀ q : Nat, q ≠ ad k → H'[q]? = H[q]?) → kH D A ad bs n (E' cI cZ cO ad) H' ∧ va_S A s.heap H' (locs ++ [⟨ad k, D.2 ci j⟩]) := by
    intro H' e1 e2 e3
    refine ⟨hH.set hk (hE1 cI cZ cO ad) (e := .inr (ci, (fs.map (zv ad)).set j (.ref (ad x)))) (by rw [hE2, List.map_set]; rfl) (hP.set hH.2.1 he ⟨_, hc, t_OB.to (V := updV (vp_V (fs.map (zv ad))) j (.ref (ad x))) ⟨_, e1, q2, q3, t_set q4 hap hj _⟩ (fun i _ => vp_updV_set (by rw [List.length_map]; exact hlen) _ i)⟩ e3) (hH.2.1.set he) e2, hS.put e2 e3 (hH.2.1.2 k _ he)⟩
  cases fin with
  | true =>
    unfold u_lay at hlay
    rw [if_pos hfin] at hlay
    have hcf : m.cls = cf := by
      obtain ⟨_, _, c', _, _, _, -, -, hf', -, -, -, hown2, -⟩ := Cond.laysFinal_spec hlay
      have e1 : c' = cf := by have := hi.symm.trans hf'; simp at this; exact this.1.symm
      rw [hd j hj, ← hcls] at hown2
      rw [← e1]; exact Option.some.inj (hown.symm.trans hown2)
    have h6 := u_fits hfc hkC hkind (Or.inr hlay) hi (hty j hj) hn9 hf9
    refine W.putFinK hx1 hb hown (hts _ hL) (hs9 hi) hst hcf (hin2 hini) (by rw [q2]; exact h6) q1 q3 (by rw [hsl]; exact k2_hasslot (q4 j hj)) rfl rfl hdg fun H' e1 e2 e3 => ?_
    rw [hsl] at e1 ⊢
    obtain ⟨a1, a2⟩ := key H' e1 e2 e3
    exact kk H' _ lsA a1 hl a2
  | false =>
    unfold u_lay at hlay
    rw [if_neg (by rw [hfin]; decide)] at hlay
    have h6 := u_store hfc hkC hkind hlay hi (hty j hj) hn9 hf9
    refine W.putK hx1 hb (f := f) ⟨hown, hts _ hL, ⟨_, _, _, hs9 hi⟩, hst⟩ (by rw [q2]; exact h6) q1 q3 (by rw [hsl]; exact k2_hasslot (q4 j hj)) rfl rfl hdg fun H' e1 e2 e3 => ?_
    rw [hsl] at e1 ⊢
    obtain ⟨a1, a2⟩ := key H' e1 e2 e3
    exact kk H' _ lsA a1 hl a2
theorem zR_iast (pc' : Nat) (hn : pc + 1 = pc') {i x : Int32} {k N : Nat} {f : Nat → Int32} {E' : kE} (hin : zin i N) (hk : k < n) (hE : ∀ cI cZ cO ad, E cI cZ cO ad k = .inl (cI, N, .inl f)) (hE1 : ∀ cI cZ cO ad i, i ≠ k → E' cI cZ cO ad i = E cI cZ cO ad i) (hE2 : ∀ cI cZ cO ad, E' cI cZ cO ad k = .inl (cI, N, .inl (upd f i.toNatClampNeg x))) (hdg : decode g.2.1 pc = .ok (.iastore, 1)) (K : zR g (n, E', cs, sl, pc', ls, st) B) : zR g (n, E, cs, sl, pc, ls, .int x :: .int i :: .ref k :: st) B := by
  subst hn
  refine zR_step (fun p l e R s m args below meth c H locs Q D cI cZ cO ad bs A lsA F hl hH hS kk => ?_) K
  have ha : (kWs ad n (E cI cZ cO ad))[k]? = some (ad k, .inl (cI, N, .inl f)) := by rw [kWs_at _ _ hk, hE]
  refine W.iast F.1 F.2.1 (hH.1 k _ ha) ((F.2.2.2.2.2.2.1.1.2 0 _ rfl).1 N (fun j => .int (f j))) (fun q => by cases q) (by show ¬ (i < 0 ∨ (arrV _ _ _).slots.size ≤ _); rw [arrV_size]; exact hin) rfl rfl hdg fun H1 e z oq => ?_
  refine kk H1 _ lsA (hH.set hk (hE1 cI cZ cO ad) (hE2 cI cZ cO ad).symm (hH.1.set hH.2.1 ha ?_ oq) (hH.2.1.set ha) z) hl (hS.put z oq (hH.2.1.2 k _ ha))
  show H1[ad k]? = some (vp_cell _ _)
  rw [e]
  rw [vp_cell_i, vp_cell_i, arrV_store]
  congr 2
  funext q
  by_cases hq : q = i.toNatClampNeg
  · subst hq
    simp [updV, upd]
  · simp [updV, upd, hq]
theorem zR_aast (pc' : Nat) (hn : pc + 1 = pc') {i : Int32} {k N v : Nat} {f : (Nat → Nat) → Nat → Option Nat} {E' : kE} (hin : zin i N) (hk : k < n) (hv : v < n) (hE : ∀ cI cZ cO ad, E cI cZ cO ad k = .inl (cO, N, .inr (.inr (.inr (.inr (f ad)))))) (hEv : ∀ cI cZ cO ad, ∃ vs, E cI cZ cO ad v = .inr (2, vs)) (hE1 : ∀ cI cZ cO ad i, i ≠ k → E' cI cZ cO ad i = E cI cZ cO ad i) (hE2 : ∀ cI cZ cO ad, E' cI cZ cO ad k = .inl (cO, N, .inr (.inr (.inr (.inr (va_up (f ad) i.toNatClampNeg (some (ad v)))))))) (hdg : decode g.2.1 pc = .ok (.aastore, 1)) (K : zR g (n, E', cs, sl, pc', ls, st) B) : zR g (n, E, cs, sl, pc, ls, .ref v :: .int i :: .ref k :: st) B := by
  subst hn
  refine zR_step (fun p l e R s m args below meth c H locs Q D cI cZ cO ad bs A lsA F hl hH hS kk => ?_) K
  have ha : (kWs ad n (E cI cZ cO ad))[k]? = some (ad k, .inl (cO, N, .inr (.inr (.inr (.inr (f ad)))))) := by rw [kWs_at _ _ hk, hE]
  obtain ⟨vs, hvs⟩ := hEv cI cZ cO ad
  have hv0 : (kWs ad n (E cI cZ cO ad))[v]? = some (ad v, .inr (2, vs)) := by rw [kWs_at _ _ hv, hvs]
  have hK := F.2.2.2.2.2.2.1.1
  have hlt : i.toNatClampNeg < N := Nat.not_le.mp fun q => hin (Or.inr q)
  have h0 : ¬ i < 0 := fun q => hin (Or.inl q)
  obtain ⟨r', hr', cellV, g1, g2, g3, -⟩ := hH.1 v _ hv0
  have hcls := (hK.1 2 (RX2, TX2, 8) rfl).2
  obtain ⟨kA, comp, k1, k2, k3, -⟩ := (hK.2 2 _ rfl).2
  have hcomp : comp = D.1 2 := Option.some.inj (k3.symm.trans hcls.1)
  subst hcomp
  obtain ⟨kC, hkC, -⟩ := hcls.2
  refine W.aast F.1 F.2.1 (hH.1 k _ ha) (fun q h => by cases h) (fun h => by cases h) k1 k2 rfl hkC ⟨h0, by show _ < (arrV _ _ _).slots.size; rw [arrV_size]; exact hlt⟩ g1 (fun q h => by rw [g3] at h; cases h) (by rw [g2]; exact hkC) (by rw [g2]; exact va_assign hcls) rfl rfl hdg fun H1 e z oq => ?_
  refine kk H1 _ lsA (hH.set hk (hE1 cI cZ cO ad) (hE2 cI cZ cO ad).symm (hH.1.set hH.2.1 ha ?_ oq) (hH.2.1.set ha) z) hl (hS.put z oq (hH.2.1.2 k _ ha))
  show H1[ad k]? = some (vp_cell _ _)
  rw [e]
  rw [vp_cell_q, vp_cell_q, arrV_store]
  congr 2
  funext q
  by_cases hq : q = i.toNatClampNeg
  · subst hq
    simp [updV, va_up, va_rf]
  · simp [updV, va_up, hq]
/-- the same heap under another picture: cells that hold the same -/
theorem zR_view {E' : kE} (h : ∀ D cI cZ cO ad H k, k < n → va_at D vwCl (ad k, E cI cZ cO ad k) H → va_at D vwCl (ad k, E' cI cZ cO ad k) H) (K : zR g (n, E', cs, sl, pc, ls, st) B) : zR g (n, E, cs, sl, pc, ls, st) B := by
  refine zR_step (fun p l e R s m args below meth c H locs Q D cI cZ cO ad bs A lsA F hl hH hS kk => kk H locs lsA ⟨?_, ?_, hH.2.2⟩ hl hS) K
  · intro k q hq
    have hk : k < n := by have := (List.getElem?_eq_some_iff.mp hq).1; rwa [kWs_len] at this
    rw [kWs_at _ _ hk] at hq
    cases hq
    exact h D cI cZ cO ad H k hk (hH.1 k _ (kWs_at _ _ hk))
  · refine ⟨fun i j a b hi hj hab => ?_, fun k q hq => ?_⟩
    · have hi9 : i < n := by have := (List.getElem?_eq_some_iff.mp hi).1; rwa [kWs_len] at this
      have hj9 : j < n := by have := (List.getElem?_eq_some_iff.mp hj).1; rwa [kWs_len] at this
      rw [kWs_at _ _ hi9] at hi
      rw [kWs_at _ _ hj9] at hj
      cases hi
      cases hj
      exact hH.2.1.1 i j _ _ (kWs_at _ _ hi9) (kWs_at _ _ hj9) hab
    · have hk : k < n := by have := (List.getElem?_eq_some_iff.mp hq).1; rwa [kWs_len] at this
      rw [kWs_at _ _ hk] at hq
      cases hq
      have h9 := hH.2.1.2 k _ (kWs_at ad (E cI cZ cO ad) hk)
      exact h9
/-- a constructor's contract, on the object k, which is the newest cell -/
def kRm (g : kMth) : Room := { frames := g.2.2.2.1, cells := g.2.2.2.2.1, slots := g.2.2.2.2.2, locals := 60 * g.2.2.2.1 }
def kPc (D : va_G) (cI cZ cO : ClassId) (ad : Nat → Nat) (bs sz k n : Nat) (E : kE) : Array Value → State → Prop :=
  va_Pc [.ref (ad k)] (fun U => U.heap.size = sz ∧ kH D (kA bs) ad bs n (E cI cZ cO ad) U.heap ∧ zSt D cI cZ cO ad (kA bs) U U.heap ∧ va_AO "HotSprings$Order" U)
def kMet (g : kMth) (k n : Nat) (E : kE) (n2 : Nat) (E2 : kE) : Prop := ∀ (l : Launch) (D : va_G) (cI cZ cO : ClassId) (ad : Nat → Nat) (bs sz : Nat), (∀ j, j < 250 → ad j = bs + j) → Met l g.1 (Cond.code g.1 g.2.1 g.2.2.1 none :: lw_gd) (kRm g) (kPc D cI cZ cO ad bs sz k n E) (fun _ st oc t => oc = .returned none ∧ kH D (kA bs) ad bs n2 (E2 cI cZ cO ad) t.heap ∧ va_F (kA bs) st t) g.2.2.2.2.1 g.2.2.2.2.2 (kA bs)
theorem kMet_of {g : kMth} {k n n2 cs2 sl2 pc2 : Nat} {E E2 : kE} {ls2 : List (Nat × Value)} (hpl : plainName g.1.cls = true) (hini : g.1.name = "<init>") (hnL : 1 ≤ g.2.2.1) (hdg : decode g.2.1 pc2 = .ok (.return_, 1)) (hcs : cs2 ≤ g.2.2.2.2.1) (hsl : sl2 ≤ g.2.2.2.2.2) (h : zR g (n, E, 0, 0, 0, [(0, .ref k)], []) (n2, E2, cs2, sl2, pc2, ls2, [])) : kMet g k n E n2 E2 := by
  intro l D cI cZ cO ad bs sz had
  refine Met.ofW (cc := g.2.1) (maxL := g.2.2.1) (ret := none) hpl rfl ?_
  intro p e s m args below meth c s₁ B hml hv
  obtain ⟨rfl, hsz, hH, hSt, hAO⟩ := hv
  have hts := atoms_spec (ws := Cond.code g.1 g.2.1 g.2.2.1 none :: lw_gd) B.pre
  subst hsz
  have hlocks := B.notSynchronized
  have hr := B.returns
  have hin : meth.name = g.1.name := (name_of_methodNamed B.named B.method).1
  rw [lg_entry_eq]
  have hl := lv_entry [Value.ref (ad k)] (n := g.2.2.1) hnL
  refine h p l e _ s m _ below meth c s.heap [] _ D cI cZ cO ad bs (kA bs) _ ⟨B.exec, B.bytes, hml, findClass_of_methodNamed B.named, fun w hw => hts w (List.mem_cons_of_mem _ hw), ⟨Nat.le_refl _, Nat.le_refl _, Nat.le_refl _, Nat.le_refl _⟩, hSt, fun q hq => Nat.le_trans (by rw [hH.2.2]; omega) hq, fun _ => hin.trans hini, had, hAO, rfl⟩ hl hH va_S.rf ?_
  intro H1 locs1 ls1 h1 h2 h3
  refine W.widen hcs hsl ?_
  exact W.vret B.exec B.bytes hr (fun t ht hW => ⟨rfl, by rw [ht]; exact h1, h3.F ht⟩) h3.2.2 hdg
theorem kPc_blind {D : va_G} {cI cZ cO : ClassId} {ad : Nat → Nat} {bs sz k n : Nat} {E : kE} : FrameBlind (kPc D cI cZ cO ad bs sz k n E) :=
  fun a U g mk h => ⟨h.1, h.2.1, h.2.2.1, h.2.2.2.1.blind, va_AO.moved (Vm.Alike.refl U.vm) h.2.2.2.2⟩
theorem zR_newobj (pc' : Nat) (hn : pc + 7 = pc') {idx idx2 ci N n2 : Nat} {C : String} {T : u_T} {ty : Nat → FieldType} {g' : kMth} {E1 E2 : kE} {fs : List Value} (hC : zCls ci C T N ty) (hy : g'.1.cls = C) (hname : g'.1.name = "<init>") (hfs : ∀ j, j < N → defaultValue (ty j) = vp_V fs j) (hn9 : n < 250)
    (hE : ∀ cI cZ cO ad j, j < n → E1 cI cZ cO ad j = E cI cZ cO ad j) (hE2 : ∀ cI cZ cO ad, E1 cI cZ cO ad n = .inr (ci, fs)) (hk : kMet g' n (n + 1) E1 n2 E2)
    (d1 : decode g.2.1 pc = .ok (.new idx, 3)) (d2 : decode g.2.1 (pc + 3) = .ok (.dup, 1)) (d3 : decode g.2.1 (pc + 3 + 1) = .ok (.invokespecial idx2, 3))
    (w1 : Cond.classLink g.1.cls idx C ∈ lw_gd) (w2 : Cond.instantiable C N ∈ lw_gd) (w3 : Cond.initialized C ∈ lw_gd) (w4 : Cond.methodLink g.1.cls idx2 g'.1 ∈ lw_gd ∨ (g.1.cls, idx2, g'.1, "HotSprings") ∈ zNM) (w5 : Cond.instanceMethod g'.1 ∈ lw_gd) (w6 : Cond.code g'.1 g'.2.1 g'.2.2.1 none ∈ lw_gd)
    (hd : g'.1.cls ≠ "java/lang/invoke/MethodHandle" ∧ g'.1.cls ≠ "java/lang/invoke/VarHandle" ∧ (parseMethodDescriptor g'.1.desc).map (fun d => d.parameters.length) = some 0)
    (hdeep : g'.2.2.2.1 + 1 ≤ g.2.2.2.1 ∧ g'.2.2.1 ≤ 40) (hcs : cs + 1 + g'.2.2.2.2.1 ≤ g.2.2.2.2.1) (hsl : sl + N + g'.2.2.2.2.2 ≤ g.2.2.2.2.2) (hr : (st.map fun v => v.category).sum ≤ 7)
    (K : zR g (n2, E2, cs + 1 + g'.2.2.2.2.1, sl + N + g'.2.2.2.2.2, pc', ls, .ref n :: st) B) : zR g (n, E, cs, sl, pc, ls, st) B := by
  subst hn
  obtain ⟨h13, hc, hu, hdd, hty, hnm⟩ := hC
  refine zR_step (fun p l e R s m args below meth c H locs Q D cI cZ cO ad bs A lsA F hl hH hS kk => ?_) K
  obtain ⟨hx1, hb, hml, hown, hts, ⟨r1, r2, r3, r4⟩, hSt, hA, hini, had, hAO, hAk⟩ := F
  have hK := hSt.1
  have hKn := hK.1 ci _ hc
  have e0 : (ad n : Nat) = bs + n := had n hn9
  have hb0 : s.heap.size ≤ bs + n := by rw [← hH.2.2]; exact hS.1
  refine W.newcK hx1 hb hown (hts _ w1) (hts _ w2) (hts _ w3) rfl d1 (by omega) (by omega) hKn.2.1 hH.2.2 fun H1 kC hkC e1 z1 o1 => ?_
  have hH1 : kH D A ad bs (n + 1) (E1 cI cZ cO ad) H1 := by
    refine hH.push e0 (hA _ hb0) (hE cI cZ cO ad) (by rw [z1, hH.2.2]) (fun q hq => o1 q (by rw [← hH.2.2]; exact hq)) ?_
    rw [hE2, e0]
    exact ⟨_, hc, (u_born ty hts hu hKn hkC e1 hty).to hfs⟩
  have hS1 : va_S A s.heap H1 locs := ⟨Nat.le_trans hS.1 (by rw [z1, hH.2.2]; omega), fun q h1 h2 => (o1 q (by rw [← hH.2.2]; exact Nat.lt_of_lt_of_le h1 hS.1)).trans (hS.2.1 q h1 h2), hS.2.2⟩
  have hrest : ((Value.ref (ad n) :: st.map (zv ad)).map fun v => v.category).sum ≤ 8 := by
    show 1 + ((st.map (zv ad)).map fun v => v.category).sum ≤ 8
    rw [zl_cat]; omega
  refine W.eq (g2 := F0 m (pc + 3) lsA (.ref (ad n) :: st.map (zv ad))) (by rw [e0]) ?_
  refine lv_dup hx1 hb d2 rfl ?_
  have hM := hk l D cI cZ cO ad bs H1.size had
  have hg : GoodIn lw_gd (Cond.code g'.1 g'.2.1 g'.2.2.1 none :: lw_gd) := zGood (fun u hu => by
    rcases List.mem_cons.mp hu with rfl | hu
    · exact w6
    · exact hu)
  have hRoom : (kRm g').frames + 1 ≤ R.frames ∧ 8 + (g'.2.2.1 + 11) + (kRm g').locals ≤ R.locals := ⟨Nat.le_trans hdeep.1 r1, by
    have := hdeep.1
    have := hdeep.2
    show 8 + (g'.2.2.1 + 11) + 60 * g'.2.2.2.1 ≤ R.locals
    omega⟩
  have hi2 : (Cond.initialized g'.1.cls).before args s = true := by rw [hy]; exact hts _ w3
  have hAA : ∀ q, kA bs q → A q := fun q h => by rw [hAk]; exact h
  have hpre : PreS s H1 (kPc D cI cZ cO ad bs H1.size n (n + 1) E1) [.ref (ad n)] := ⟨kPc_blind, fun U hU hW => ⟨rfl, by rw [hU], by rw [hU, ← hAk]; exact hH1, by rw [hU]; exact hSt.to hS1.2.1 hW hAA, va_AO.moved hW.alike hAO⟩⟩
  have hrun : va_Run p l e R s m args below meth c H1 locs (cs + 1) (sl + N) g'.2.2.2.2.1 g'.2.2.2.2.2 (F0 m (pc + 3 + 1) lsA (.ref (ad n) :: .ref (ad n) :: st.map (zv ad))) (.ref (ad n) :: st.map (zv ad)) (fun st oc t => oc = .returned none ∧ kH D (kA bs) ad bs n2 (E2 cI cZ cO ad) t.heap ∧ va_F (kA bs) st t) (kA bs) := by
    rcases w4 with w4 | w4
    · exact va_runI (As := []) (rest := .ref (ad n) :: st.map (zv ad)) ⟨hx1, hb, hml, hown, hts⟩ hM (cwI 0 hts hg rfl rfl rfl hi2 (hts _ w4) (hts _ w5) hname hd hRoom) hpre rfl rfl hl.1 rfl (lv_room hrest) d3 ⟨by omega, by omega⟩
    · exact va_runIN (host := "HotSprings") (As := []) (rest := .ref (ad n) :: st.map (zv ad)) ⟨hx1, hb, hml, hown, hts⟩ hM ⟨va_cnB 0 hts hg rfl rfl rfl (hSt.2.1 _ w4) hi2 hd hRoom, hname, hts _ w5⟩ hpre rfl rfl hl.1 rfl (lv_room hrest) d3 ⟨by omega, by omega⟩
  intro T hT X
  obtain ⟨v, st₀, t, T', L, h0, X', hL, f1, f2, ⟨hv, hh, hz, hk2⟩, stp⟩ := hrun T hT X
  cases hv
  rw [h0] at hz hk2
  obtain ⟨t2, a1, b1⟩ := kk T'.heap (locs ++ L) lsA (by rw [f1, hAk]; exact hh) hl
    ⟨Nat.le_trans hS1.1 (by rw [f1]; exact hz), fun q h1 h2 => by rw [f1, hk2 q (Nat.lt_of_lt_of_le h1 hS1.1) (fun z => h2 (hAA q z))]; exact hS1.2.1 q h1 h2, fun q hq => by
      rcases List.mem_append.mp hq with h | h
      · exact hS1.2.2 q h
      · exact hAA _ (hL q h)⟩ T' rfl X'
  exact ⟨t2, stp t2 a1, b1⟩
end KR2
