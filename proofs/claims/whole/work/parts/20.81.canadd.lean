/-! THE MIX: what may be left, S, lies in one of the two rows -/
def qxMz (w u : zWd) (r : Nat) (S : Nat → Prop) : Prop := ∃ (A B : Nat) (L : List Nat), ((A = 223 ∧ B = 224) ∨ (A = 224 ∧ B = 223)) ∧ (∀ a, a ≠ 220 → a ≠ 223 → a ≠ 224 → a ≠ 225 → u a = w a) ∧ u 220 2 = nI A ∧ u 220 3 = nI B ∧ u 220 4 = nI L.length ∧ u 220 7 = nI r ∧ (∀ i, i < L.length → u A i = nI (L.getD i 0)) ∧ (∀ e, e < 2401 → ∃ k, k ≤ r ∧ u 225 e = nI k) ∧ L.Nodup ∧ (∀ e ∈ L, e < 2401) ∧ ∀ e, e ∈ L ↔ S e
/-- what is left behind g tens taken -/
def qxLf (W : Nat → Int32) (g : Nat) (x : Int32) (S : Nat → Prop) : Nat → Prop := fun v => ∃ e, S e ∧ qTk W g x e v
/-- .. if they can be -/
def qxSt (W : Nat → Int32) (g : Nat) (x : Int32) (S : Nat → Prop) : Nat → Prop := fun v => qxLf W g x S v ∨ ((¬ ∃ v, qxLf W g x S v) ∧ S v)
theorem mX1_canAdd_end (u : zWd) {A B c : Nat} {k : Int32 × zWd → Option (Int32 × zWd)} {v1 v2 : Int32} {m : Nat} (hA : A = 223 ∨ A = 224) (hB : B = 223 ∨ B = 224) (h2 : u 220 2 = nI A) (h3 : u 220 3 = nI B) (h4 : u 220 4 = nI m) (h5 : u 220 5 = nI c) (hc : c < 2 ^ 31) (hm : m < 2 ^ 31) : mX1_canAdd_17b 220 v1 v2 k (nI m) u = if c = 0 then some (0, u) else some (1, zup (zup (zup u 220 2 (nI B)) 220 3 (nI A)) 220 4 (nI c)) := by
  have hA0 : ¬ nI A = 0 := fun q => by rw [show (0 : Int32) = nI 0 from rfl, nIe (by omega) (by omega)] at q; omega
  have hB0 : ¬ nI B = 0 := fun q => by rw [show (0 : Int32) = nI 0 from rfl, nIe (by omega) (by omega)] at q; omega
  have hAs : zShp A = (20, 2401) := by rcases hA with rfl | rfl <;> decide +kernel
  have hBs : zShp B = (20, 2401) := by rcases hB with rfl | rfl <;> decide +kernel
  unfold mX1_canAdd_17b
  rw [h4, if_pos (show nI m ≤ nI m by rw [zle]; exact Int.le_refl _), h5]
  by_cases e : c = 0
  · rw [if_pos e, if_pos (show nI c = 0 by rw [e]; rfl), zgd_t zB0]
  · rw [if_neg e, if_neg (show ¬ nI c = 0 from fun q => e (by rw [show (0 : Int32) = nI 0 from rfl, nIe hc (by omega)] at q; exact q)), h2, h3, zgd_t hA0, zgd_t hB0, nI_clamp (show A < 2 ^ 31 by omega), nI_clamp (show B < 2 ^ 31 by omega), zgd_t hAs, zgd_t hBs, zbn_e, zbn_e, zbn_e, zgd_t zB1]
    have e5 : zup (zup u 220 2 (Int32.ofNat B)) 220 3 (Int32.ofNat A) 220 5 = nI c := by
      rw [zu2 _ _ (by decide), zu2 _ _ (by decide), h5]
    rw [e5]
    rfl
theorem c_canAdd {w u : zWd} {r g : Nat} {x : Int32} {S : Nat → Prop} (h : qxMz w u r S) (hg : g ≤ 4) (hr : r + 1 < 2 ^ 31) : ∃ (b : Bool) (u' : zWd), mX1_canAdd 220 (nI g) x u = some (if b then 1 else 0, u') ∧ (b = true ↔ ∃ v, qxLf (w 222) g (nI g * x) S v) ∧ qxMz w u' (r + 1) (qxSt (w 222) g (nI g * x) S) := by
  obtain ⟨A, B, L, h1, h2, h3, h4, h5, h6, h7, h8, h9, h10, h11⟩ := h
  have hA : A = 223 ∨ A = 224 := by omega
  have hB : B = 223 ∨ B = 224 := by omega
  have hAs : zShp A = (20, 2401) := by rcases hA with rfl | rfl <;> decide +kernel
  have hA0 : ¬ nI A = 0 := fun q => by rw [show (0 : Int32) = nI 0 from rfl, nIe (by omega) (by omega)] at q; omega
  have hl := qUq_le 2401 L h9 h10
  unfold mX1_canAdd mX1_canAdd_17
  rw [zbn_e, zbn_e, h6, ← nI_succ]
  obtain ⟨w0, hw0⟩ : ∃ w0, w0 = zup (zup u 220 7 (nI (r + 1))) 220 5 0 := ⟨_, rfl⟩
  rw [← hw0]
  have w0n : ∀ a, a ≠ 220 → w0 a = u a := fun a ha => by rw [hw0, zpE _ _ _ ha, zpE _ _ _ ha]
  have w0e : ∀ j, j ≠ 5 → j ≠ 7 → w0 220 j = u 220 j := fun j j1 j2 => by rw [hw0, zu2 _ _ j1, zu2 _ _ j2]
  have w07 : w0 220 7 = nI (r + 1) := by rw [hw0, zu2 _ _ (by decide), zu3]
  have w03 : w0 220 3 = nI B := by rw [w0e 3 (by decide) (by decide)]; exact h4
  have w02 : w0 220 2 = nI A := by rw [w0e 2 (by decide) (by decide)]; exact h3
  have w04 : w0 220 4 = nI L.length := by rw [w0e 4 (by decide) (by decide)]; exact h5
  have w222 : w0 222 = w 222 := by rw [w0n 222 (by decide), h2 222 (by decide) (by decide) (by decide) (by decide)]
  have start : qKs w0 B (r + 1) w0 (fun _ => False) := by
    refine ⟨[], ⟨fun _ _ _ _ => rfl, fun _ _ => rfl, ?_, fun i hi => absurd hi (Nat.not_lt_zero _), fun e he => ?_, List.nodup_nil, fun e he => absurd he List.not_mem_nil, fun e => Or.inr rfl⟩, fun e => ⟨fun q => absurd q List.not_mem_nil, fun q => q.elim⟩⟩
    · rw [hw0, zu3]; rfl
    · obtain ⟨k, k1, k2⟩ := h8 e he
      rw [w0n 225 (by decide), k2, nIe (by omega) (by omega)]
      exact ⟨fun q => absurd q (by omega), fun q => absurd q List.not_mem_nil⟩
  have main := z_add2 (G := fun (k : Int32 × zWd → Option (Int32 × zWd)) (q : Int32 × zWd) => mX1_canAdd_17b 220 (nI g) x k q.1 q.2) (M := L.length) (S := fun i v => qTk (w 222) g (nI g * x) (L.getD i 0) v) (K := fun u => mX1_canAdd_17b 220 (nI g) x (fun _ => none) (nI L.length) u) (I := qKs w0 B (r + 1)) qKs.iff (fun k u2 Q hQ => ?_) (fun i hi k u2 Q hQ => ?_) L.length 0 zFU w0 (fun _ => False) (by omega) (by show _ < 100000; omega) start
  rotate_left
  · obtain ⟨L2, hK, _⟩ := hQ
    have q4 : u2 220 4 = nI L.length := by rw [hK.2.1 4 (by decide)]; exact w04
    have q2 : u2 220 2 = nI A := by rw [hK.2.1 2 (by decide)]; exact w02
    have q3 : u2 220 3 = nI B := by rw [hK.2.1 3 (by decide)]; exact w03
    have := qUq_le 2401 L2 hK.2.2.2.2.2.1 hK.2.2.2.2.2.2.1
    show mX1_canAdd_17b 220 (nI g) x k (nI L.length) u2 = mX1_canAdd_17b 220 (nI g) x (fun _ => none) (nI L.length) u2
    rw [mX1_canAdd_end u2 hA hB q2 q3 q4 hK.2.2.1 (by omega) (by omega), mX1_canAdd_end u2 hA hB q2 q3 q4 hK.2.2.1 (by omega) (by omega)]
  · have hQ2 := hQ
    obtain ⟨L2, hK, _⟩ := hQ2
    have q4 : u2 220 4 = nI L.length := by rw [hK.2.1 4 (by decide)]; exact w04
    have q2 : u2 220 2 = nI A := by rw [hK.2.1 2 (by decide)]; exact w02
    have qA : u2 A i = nI (L.getD i 0) := by rw [hK.1 A (by omega) (by omega) (by omega), w0n A (by omega)]; exact h7 i hi
    have he : L.getD i 0 < 2401 := by
      rw [List.getD_eq_getElem?_getD, List.getElem?_eq_getElem hi]
      exact h10 _ (List.getElem_mem hi)
    obtain ⟨u3, t1, t2⟩ := c_take hB w03 w07 hg he u2 Q hQ (x := nI g * x)
    rw [w222] at t2
    refine ⟨u3, ?_, t2⟩
    show mX1_canAdd_17b 220 (nI g) x k (nI i) u2 = _
    unfold mX1_canAdd_17b
    rw [q4, if_neg (show ¬ nI L.length ≤ nI i from fun q => by rw [zle, nIi (by omega), nIi (by omega)] at q; omega), q2, zgd_t hA0, nI_clamp (show A < 2 ^ 31 by omega), zgd_t hAs, zgd_t (show zin (nI i) 2401 from vp_in_nI (by omega) (by decide)), nI_clamp (show i < 2 ^ 31 by omega), qA, t1, zcl_s, ← nI_succ]
  obtain ⟨u1, m1, L1, m2, m3⟩ := main
  obtain ⟨k1, k2, k3, k4, k5, k6, k7, k8⟩ := m2
  have hl1 := qUq_le 2401 L1 k6 k7
  have q2 : u1 220 2 = nI A := by rw [k2 2 (by decide)]; exact w02
  have q3 : u1 220 3 = nI B := by rw [k2 3 (by decide)]; exact w03
  have q4 : u1 220 4 = nI L.length := by rw [k2 4 (by decide)]; exact w04
  have q7 : u1 220 7 = nI (r + 1) := by rw [k2 7 (by decide)]; exact w07
  have hfr : ∀ a, a ≠ 220 → a ≠ 223 → a ≠ 224 → a ≠ 225 → u1 a = w a := fun a a1 a2 a3 a4 => by rw [k1 a a1 a4 (by omega), w0n a a1]; exact h2 a a1 a2 a3 a4
  have hmk : ∀ e, e < 2401 → ∃ k, k ≤ r + 1 ∧ u1 225 e = nI k := fun e he => by
    rcases k8 e with q | q
    · exact ⟨r + 1, Nat.le_refl _, q⟩
    · obtain ⟨k, j1, j2⟩ := h8 e he
      exact ⟨k, by omega, by rw [q, w0n 225 (by decide)]; exact j2⟩
  have hLf : ∀ v, v ∈ L1 ↔ qxLf (w 222) g (nI g * x) S v := fun v => by
    rw [m3]
    refine ⟨fun q => ?_, fun ⟨e, e1, e2⟩ => ?_⟩
    · rcases q with q | ⟨j, _, j2, j3⟩
      · exact q.elim
      · refine ⟨_, (h11 _).mp ?_, j3⟩
        rw [List.getD_eq_getElem?_getD, List.getElem?_eq_getElem j2]
        exact List.getElem_mem j2
    · obtain ⟨j, j1, j2⟩ := List.getElem_of_mem ((h11 e).mpr e1)
      refine Or.inr ⟨j, Nat.zero_le _, j1, ?_⟩
      rw [List.getD_eq_getElem?_getD, List.getElem?_eq_getElem j1]
      show qTk _ _ _ L[j] v
      rw [j2]; exact e2
  rw [show zlp (fun (k : Int32 × zWd → Option (Int32 × zWd)) (q : Int32 × zWd) => mX1_canAdd_17b 220 (nI g) x k q.1 q.2) zFU (0, w0) = _ from m1]
  show ∃ (b : Bool) (u' : zWd), mX1_canAdd_17b 220 (nI g) x (fun _ => none) (nI L.length) u1 = _ ∧ _
  rw [mX1_canAdd_end u1 hA hB q2 q3 q4 k3 (by omega) (by omega)]
  by_cases c : L1.length = 0
  · have hn : ¬ ∃ v, qxLf (w 222) g (nI g * x) S v := fun ⟨v, hv⟩ => by
      have := List.length_pos_of_mem ((hLf v).mpr hv)
      omega
    refine ⟨false, u1, by rw [if_pos c]; rfl, ⟨fun q => by simp at q, fun q => absurd q hn⟩, A, B, L, h1, hfr, q2, q3, q4, q7, fun i hi => ?_, hmk, h9, h10, fun e => ?_⟩
    · rw [k1 A (by omega) (by omega) (by omega), w0n A (by omega)]; exact h7 i hi
    · rw [h11]
      exact ⟨fun q => Or.inr ⟨hn, q⟩, fun q => q.elim (fun q => absurd ⟨e, q⟩ hn) (fun q => q.2)⟩
  · have hn : ∃ v, qxLf (w 222) g (nI g * x) S v := by
      obtain ⟨v, hv⟩ := List.exists_mem_of_ne_nil L1 (fun q => c (by rw [q]; rfl))
      exact ⟨v, (hLf v).mp hv⟩
    refine ⟨true, _, by rw [if_neg c]; rfl, ⟨fun _ => hn, fun _ => rfl⟩, B, A, L1, by omega, fun a a1 a2 a3 a4 => ?_, ?_, ?_, ?_, ?_, fun i hi => ?_, fun e he => ?_, k6, k7, fun e => ?_⟩
    · rw [zpE _ _ _ a1, zpE _ _ _ a1, zpE _ _ _ a1]; exact hfr a a1 a2 a3 a4
    · rw [zu2 _ _ (by decide), zu2 _ _ (by decide), zu3]
    · rw [zu2 _ _ (by decide), zu3]
    · rw [zu3]
    · rw [zu2 _ _ (by decide), zu2 _ _ (by decide), zu2 _ _ (by decide)]; exact q7
    · rw [zpE _ _ _ (by omega), zpE _ _ _ (by omega), zpE _ _ _ (by omega)]; exact k4 i hi
    · rw [zpE _ _ _ (by decide), zpE _ _ _ (by decide), zpE _ _ _ (by decide)]; exact hmk e he
    · rw [hLf]
      exact ⟨Or.inl, fun q => q.elim id (fun q => absurd hn q.1)⟩
