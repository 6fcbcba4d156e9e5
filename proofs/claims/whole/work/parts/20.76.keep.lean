/-! THE MIX: a code is kept once -/
theorem qUq_le : ∀ N (L : List Nat), L.Nodup → (∀ e ∈ L, e < N) → L.length ≤ N
  | 0, L, _, h => by
    match L with
    | [] => exact Nat.le_refl 0
    | x :: l => exact absurd (h x (List.mem_cons_self ..)) (Nat.not_lt_zero x)
  | N + 1, L, hn, h => by
    by_cases c : N ∈ L
    · have h1 := qUq_le N (L.erase N) (hn.erase N) (fun e he => by
        have := (hn.mem_erase_iff).mp he
        have := h e this.2
        omega)
      rw [List.length_erase_of_mem c] at h1
      omega
    · have h1 := qUq_le N L hn (fun e he => by
        have h2 := h e he
        have : e ≠ N := fun q => c (q ▸ he)
        omega)
      omega
/-- the codes L are kept, in this order, in cell B with the mark r -/
def qKp (w0 u : zWd) (B r : Nat) (L : List Nat) : Prop := (∀ a, a ≠ 220 → a ≠ 225 → a ≠ B → u a = w0 a) ∧ (∀ j, j ≠ 5 → u 220 j = w0 220 j) ∧ u 220 5 = nI L.length ∧ (∀ i, i < L.length → u B i = nI (L.getD i 0)) ∧ (∀ e, e < 2401 → (u 225 e = nI r ↔ e ∈ L)) ∧ L.Nodup ∧ (∀ e ∈ L, e < 2401) ∧ ∀ e, u 225 e = nI r ∨ u 225 e = w0 225 e
theorem c_keep {w0 u : zWd} {B r : Nat} {L : List Nat} (hB : B = 223 ∨ B = 224) (h3 : w0 220 3 = nI B) (h7 : w0 220 7 = nI r) (h : qKp w0 u B r L) {v : Nat} (hv : v < 2401) : ∃ u' L', mX1_keep 220 (nI v) u = some ((), u') ∧ qKp w0 u' B r L' ∧ ∀ e, e ∈ L' ↔ e ∈ L ∨ e = v := by
  obtain ⟨k1, k2, k3, k4, k5, k6, k7, k8⟩ := h
  have hl := qUq_le 2401 L k6 k7
  have e3 : u 220 3 = nI B := by rw [k2 3 (by decide)]; exact h3
  have e7 : u 220 7 = nI r := by rw [k2 7 (by decide)]; exact h7
  have i10 : ¬ (1 : Int32) = 0 := by decide
  have hw : ∀ u : zWd, mX11_within (nI v) 2401 u = some (1, u) := fun u => by
    rw [p_within, if_pos (show 0 ≤ (nI v).toInt ∧ (nI v).toInt < (2401 : Int32).toInt by rw [nIi (by omega), show (2401 : Int32).toInt = 2401 by decide]; omega)]
  have hz : zin (nI v) 2401 := vp_in_nI hv (by decide)
  unfold mX1_keep mX1_keep_63
  rw [hw, zcl_s, if_neg i10, zgd_t hz]
  simp only [nI_clamp (show v < 2 ^ 31 by omega), Nat.reduceAdd, e7]
  by_cases c : v ∈ L
  · rw [if_pos ((k5 v hv).mpr c)]
    exact ⟨u, L, rfl, ⟨k1, k2, k3, k4, k5, k6, k7, k8⟩, fun e => ⟨Or.inl, fun q => q.elim id (fun q => q ▸ c)⟩⟩
  · have hlt : L.length < 2401 := by
      have := qUq_le 2401 (v :: L) (List.nodup_cons.mpr ⟨c, k6⟩) (fun e he => by
        rcases List.mem_cons.mp he with rfl | he
        · exact hv
        · exact k7 e he)
      rw [List.length_cons] at this
      omega
    have zA : ∀ (w : zWd) j x, zup w 225 j x 220 = w 220 := fun w j x => zpE w j x (by decide)
    have zBb : ∀ (w : zWd) j x, zup w B j x 220 = w 220 := fun w j x => zpE w j x (by omega)
    have hB0 : ¬ nI B = 0 := fun q => by rw [show (0 : Int32) = nI 0 from rfl, nIe (by omega) (by omega)] at q; omega
    have hBs : zShp B = (20, 2401) := by rcases hB with rfl | rfl <;> decide +kernel
    have hzl : zin (nI L.length) 2401 := vp_in_nI hlt (by decide)
    rw [if_neg (fun q => c ((k5 v hv).mp q)), k3, if_neg (show ¬ (2401 : Int32) ≤ nI L.length from nI_ge (b := 2401) hlt (by decide)), zgd_t hz]
    simp only [zbn_e, zA, zBb, e3, k3, nI_clamp (show B < 2 ^ 31 by omega), nI_clamp (show L.length < 2 ^ 31 by omega), zgd_t hB0, zgd_t hBs, zgd_t hzl, ← nI_succ]
    refine ⟨_, L ++ [v], rfl, ⟨fun a a1 a2 a3 => ?_, fun j hj => ?_, ?_, fun i hi => ?_, fun e he => ?_, ?_, fun e he => ?_, fun e => ?_⟩, fun e => ?_⟩
    · rw [zpE _ _ _ a1, zpE _ _ _ a3, zpE _ _ _ a2]; exact k1 a a1 a2 a3
    · rw [zu2 _ _ hj, zpE _ _ _ (by omega), zpE _ _ _ (by decide)]; exact k2 j hj
    · rw [zu3, List.length_append]; rfl
    · rw [zpE _ _ _ (by omega)]
      simp only [List.length_append, List.length_cons, List.length_nil] at hi
      by_cases ei : i = L.length
      · rw [ei, zu3]; simp [List.getD_eq_getElem?_getD]
      · rw [zu2 _ _ ei, zpE _ _ _ (by omega), k4 i (by omega), List.getD_eq_getElem?_getD, List.getD_eq_getElem?_getD, List.getElem?_append_left (by omega)]
    · rw [zpE _ _ _ (by decide), zpE _ _ _ (by omega), List.mem_append, List.mem_singleton]
      by_cases ev : e = v
      · rw [ev, zu3]; exact ⟨fun _ => Or.inr rfl, fun _ => rfl⟩
      · rw [zu2 _ _ ev, k5 e he]; exact ⟨Or.inl, fun q => q.elim id (fun q => absurd q ev)⟩
    · exact List.nodup_append.mpr ⟨k6, by simp, fun a ha b hb => by rw [List.mem_singleton] at hb; rw [hb]; exact fun q => c (q ▸ ha)⟩
    · rcases List.mem_append.mp he with he | he
      · exact k7 e he
      · rw [List.mem_singleton] at he; rw [he]; exact hv
    · rw [zpE _ _ _ (by decide), zpE _ _ _ (by omega)]
      by_cases ev : e = v
      · rw [ev, zu3]; exact Or.inl rfl
      · rw [zu2 _ _ ev]; exact k8 e
    · rw [List.mem_append, List.mem_singleton]
