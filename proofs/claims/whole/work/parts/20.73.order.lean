/-! the model reads THE TAPE into ORDER's rows -/
/-- the row with i bytes copied -/
def qSi (s : Nat → Int32) (a n : Nat) (day : Int32) (i : Nat) : Nat → Int32 := fun j => if j = 240 + a then day else if j = 252 + a then nI n else if 264 + 120 * a ≤ j ∧ j < 264 + 120 * a + i then s (1880 + (j - (264 + 120 * a))) else s j
def qEn (a : Nat) (u : zWd) : Option (Int32 × zWd) := zcl (mX12_reads 231 (nI a) (zup (zup (zup (zup (zup (zup (zup u 232 6 0) 232 (1600 + a) 0) 231 10 (nI a)) 231 11 0) 231 13 0) 231 12 0) 231 14 (-1))) fun _ w11 => mX12_readsOrder_121 231 (nI a) w11
theorem h_copy {w : zWd} {a n : Nat} {day : Int32} (ha : a ≤ 10) (hn : n ≤ 120) (h6 : w 232 6 = nI n) : ∀ m i F, i + m = n → m + 1 ≤ F → zlp (fun (k : Int32 × zWd → Option (Int32 × zWd)) (q : Int32 × zWd) => mX12_readsOrder_30b 231 (nI a) k q.1 q.2) F (nI i, qPw w 232 (qSi (w 232) a n day i)) = qEn a (qPw w 232 (qSi (w 232) a n day n)) := by
  have e6 : ∀ i, qSi (w 232) a n day i 6 = nI n := fun i => by unfold qSi; rw [if_neg (by omega), if_neg (by omega), if_neg (by omega)]; exact h6
  have C6 : (6 : Int32).toNatClampNeg = 6 := by decide
  have z6 : zin (6 : Int32) 21948 := by decide
  intro m
  induction m with
  | zero =>
    intro i F h1 h2
    obtain ⟨F, rfl⟩ : ∃ F', F = F' + 1 := ⟨F - 1, by omega⟩
    obtain rfl : i = n := by omega
    rw [zlp_1]
    show mX12_readsOrder_30b 231 (nI a) _ (nI i) (qPw w 232 (qSi (w 232) a i day i)) = _
    unfold mX12_readsOrder_30b qEn
    rw [zgd_t z6]
    simp only [C6, show 231 + 1 = 232 from rfl, qPw_e, e6]
    rw [if_pos (nI_le (by omega) (by omega)), zgd_t z6, zbn_e, show (1600 : Int32) + nI a = nI (1600 + a) by rw [show (1600 : Int32) = nI 1600 from rfl, nI_add], zgd_t (show zin (nI (1600 + a)) 21948 from vp_in_nI (by omega) (by decide)), zbn_e, nI_clamp (by omega), zbn_e, zbn_e, zbn_e, zgd_t zB0, zbn_e, zbn_e]
  | succ m ih =>
    intro i F h1 h2
    obtain ⟨F, rfl⟩ : ∃ F', F = F' + 1 := ⟨F - 1, by omega⟩
    rw [zlp_1]
    show mX12_readsOrder_30b 231 (nI a) (zlp (fun (k : Int32 × zWd → Option (Int32 × zWd)) (q : Int32 × zWd) => mX12_readsOrder_30b 231 (nI a) k q.1 q.2) F) (nI i) (qPw w 232 (qSi (w 232) a n day i)) = _
    rw [← ih (i + 1) F (by omega) (by omega)]
    generalize zlp (fun (k : Int32 × zWd → Option (Int32 × zWd)) (q : Int32 × zWd) => mX12_readsOrder_30b 231 (nI a) k q.1 q.2) F = K
    unfold mX12_readsOrder_30b
    rw [zgd_t z6]
    simp only [C6, show 231 + 1 = 232 from rfl, qPw_e, e6]
    rw [if_neg (nI_ge (by omega) (by omega)), show (1880 : Int32) + nI i = nI (1880 + i) by rw [show (1880 : Int32) = nI 1880 from rfl, nI_add], show (264 : Int32) + (120 : Int32) * nI a + nI i = nI (264 + 120 * a + i) by rw [show (264 : Int32) = nI 264 from rfl, show (120 : Int32) = nI 120 from rfl, pk_mul, nI_add, nI_add], zgd_t (show zin (nI (1880 + i)) 21948 from vp_in_nI (by omega) (by decide)), zgd_t (show zin (nI (264 + 120 * a + i)) 21948 from vp_in_nI (by omega) (by decide)), zbn_e, nI_clamp (by omega), nI_clamp (by omega), ← nI_succ, qPw_uu]
    have : upd (qSi (w 232) a n day i) (264 + 120 * a + i) (qSi (w 232) a n day i (1880 + i)) = qSi (w 232) a n day (i + 1) := by
      funext j
      have e1 : qSi (w 232) a n day i (1880 + i) = w 232 (1880 + i) := by unfold qSi; rw [if_neg (by omega), if_neg (by omega), if_neg (by omega)]
      rw [e1]
      unfold upd
      by_cases c : j = 264 + 120 * a + i
      · rw [if_pos c]
        unfold qSi
        rw [if_neg (by omega), if_neg (by omega), if_pos (by omega), show j - (264 + 120 * a) = i by omega]
      · rw [if_neg c]
        unfold qSi
        by_cases d1 : j = 240 + a
        · rw [if_pos d1, if_pos d1]
        rw [if_neg d1, if_neg d1]
        by_cases d2 : j = 252 + a
        · rw [if_pos d2, if_pos d2]
        rw [if_neg d2, if_neg d2]
        by_cases d3 : 264 + 120 * a ≤ j ∧ j < 264 + 120 * a + i
        · rw [if_pos d3, if_pos (by omega)]
        · rw [if_neg d3, if_neg (by omega)]
    rw [this]
/-- what a text leaves in the model -/
def qHo (w : zWd) (a n : Nat) (day x : Int32) (w' : zWd) : Prop := (∀ c, c ≠ 231 → c ≠ 232 → w' c = w c) ∧ (∀ j, j < 10 ∨ 14 < j → w' 231 j = w 231 j) ∧ (∀ j, j ≠ 6 → j ≠ 240 + a → j ≠ 252 + a → (j < 264 + 120 * a ∨ 264 + 120 * a + n ≤ j) → (∀ k, k ≤ 7 → ¬ qPut a k j) → w' 232 j = w 232 j) ∧ w' 232 6 = 0 ∧ (match qCls (fun i => w 232 (1880 + i)) n 8 0 [] with
  | (_, some cs) => x = 1 ∧ w' 232 (240 + a) = day ∧ w' 232 (252 + a) = nI n ∧ (∀ i, i < n → w' 232 (264 + 120 * a + i) = w 232 (1880 + i)) ∧ qMk w' a cs
  | (p', none) => x = 0 ∧ w' 231 11 = nI p')
theorem h_order {w : zWd} {a n : Nat} (day : Int32) (ha : a ≤ 10) (hn : n ≤ 120) (h6 : w 232 6 = nI n) : ∃ x w', mX12_readsOrder 231 (nI a) day w = some (x, w') ∧ qHo w a n day x w' := by
  have hs : mX12_readsOrder 231 (nI a) day w = qEn a (qPw w 232 (qSi (w 232) a n day n)) := by
    unfold mX12_readsOrder mX12_readsOrder_30
    rw [show (240 : Int32) + nI a = nI (240 + a) by rw [show (240 : Int32) = nI 240 from rfl, nI_add], show (252 : Int32) + nI a = nI (252 + a) by rw [show (252 : Int32) = nI 252 from rfl, nI_add], zgd_t (show zin (nI (240 + a)) 21948 from vp_in_nI (by omega) (by decide)), zbn_e, zgd_t (show zin (6 : Int32) 21948 by decide), zgd_t (show zin (nI (252 + a)) 21948 from vp_in_nI (by omega) (by decide)), zbn_e, nI_clamp (by omega), nI_clamp (by omega), show 231 + 1 = 232 from rfl, show (6 : Int32).toNatClampNeg = 6 by decide, zu2 _ _ (show 6 ≠ 240 + a by omega), h6, qPw_u w 232 (240 + a) day, qPw_uu]
    have : upd (upd (w 232) (240 + a) day) (252 + a) (nI n) = qSi (w 232) a n day 0 := by
      funext j
      unfold upd qSi
      by_cases d2 : j = 252 + a
      · rw [if_pos d2, if_neg (by omega), if_pos d2]
      rw [if_neg d2]
      by_cases d1 : j = 240 + a
      · rw [if_pos d1, if_pos d1]
      · rw [if_neg d1, if_neg d1, if_neg d2, if_neg (by omega)]
    rw [this]
    exact h_copy ha hn h6 n 0 zFU (by omega) (by show n + 1 ≤ 100000; omega)
  rw [hs]
  unfold qEn
  have eS : zup (zup (qPw w 232 (qSi (w 232) a n day n)) 232 6 0) 232 (1600 + a) 0 = qPw w 232 (upd (upd (qSi (w 232) a n day n) 6 0) (1600 + a) 0) := by rw [qPw_uu, qPw_uu]
  rw [eS]
  have fB : ∀ j, j ≠ 6 → j ≠ 1600 + a → (qPw w 232 (upd (upd (qSi (w 232) a n day n) 6 0) (1600 + a) 0)) 232 j = qSi (w 232) a n day n j := fun j j1 j2 => by rw [qPw_e, qu_ne _ _ j2, qu_ne _ _ j1]
  have fB6 : (qPw w 232 (upd (upd (qSi (w 232) a n day n) 6 0) (1600 + a) 0)) 232 6 = 0 := by rw [qPw_e, qu_ne _ _ (by omega), qu_eq]
  have fBk : (qPw w 232 (upd (upd (qSi (w 232) a n day n) 6 0) (1600 + a) 0)) 232 (1600 + a) = nI 0 := by rw [qPw_e, qu_eq]; rfl
  have fBc : ∀ c, c ≠ 232 → (qPw w 232 (upd (upd (qSi (w 232) a n day n) 6 0) (1600 + a) 0)) c = w c := fun c hc => qPw_n _ _ hc
  generalize qPw w 232 (upd (upd (qSi (w 232) a n day n) 6 0) (1600 + a) 0) = B at fB fB6 fBk fBc
  have fB240 : B 232 (240 + a) = day := by rw [fB _ (by omega) (by omega)]; unfold qSi; rw [if_pos rfl]
  have fB252 : B 232 (252 + a) = nI n := by rw [fB _ (by omega) (by omega)]; unfold qSi; rw [if_neg (by omega), if_pos rfl]
  have fBt : ∀ i, i < n → B 232 (264 + 120 * a + i) = w 232 (1880 + i) := fun i hi => by
    rw [fB _ (by omega) (by omega)]; unfold qSi
    rw [if_neg (by omega), if_neg (by omega), if_pos (by omega), show 264 + 120 * a + i - (264 + 120 * a) = i by omega]
  have fBo : ∀ j, j ≠ 6 → j ≠ 240 + a → j ≠ 252 + a → (j < 264 + 120 * a ∨ 264 + 120 * a + n ≤ j) → j ≠ 1600 + a → B 232 j = w 232 j := fun j j1 j2 j3 j4 j5 => by
    rw [fB _ j1 j5]; unfold qSi
    rw [if_neg j2, if_neg j3, if_neg (by omega)]
  have ht : qTx B a n := ⟨by omega, hn, fB252⟩
  have hf : ∀ p, qB (qFx B a) n p = qB (fun i => w 232 (1880 + i)) n p := fun p => by
    unfold qB qFx
    by_cases c : p < n
    · rw [if_pos c, if_pos c, fBt p c]
    · rw [if_neg c, if_neg c]
  have hm : qMs B a (-1) 0 0 0 (zup (zup (zup (zup (zup B 231 10 (nI a)) 231 11 0) 231 13 0) 231 12 0) 231 14 (-1)) := by
    refine ⟨((((((qS1.rf B).up (j := 10) (by omega) _).up (j := 11) (by omega) _).up (j := 13) (by omega) _).up (j := 12) (by omega) _).up (j := 14) (by omega) _), ?_, ?_, ?_, ?_, ?_⟩
    · rw [zu2 _ _ (by decide), zu2 _ _ (by decide), zu2 _ _ (by decide), zu2 _ _ (by decide), zu3]
    · rw [zu2 _ _ (by decide), zu2 _ _ (by decide), zu2 _ _ (by decide), zu3]; rfl
    · rw [zu2 _ _ (by decide), zu3]
    · rw [zu2 _ _ (by decide), zu2 _ _ (by decide), zu3]; rfl
    · rw [zu3]
  generalize zup (zup (zup (zup (zup B 231 10 (nI a)) 231 11 0) 231 13 0) 231 12 0) 231 14 (-1) = w9 at hm
  obtain ⟨w3, C, m1, m2, m3⟩ := h_reads ht ha (k := 0) (by omega) fBk (p := 0) (by omega) hm
  rw [m1, zcl_s]
  have md : qMd B C a := qMd.of (k := 0) m2 (by omega)
  rw [qCl_congr hf] at m3
  have g := qCl_in (f := fun i => w 232 (1880 + i)) hn (p := 0) (by omega)
  -- what stays
  have fin : ∀ (D w' : zWd) (p' : Nat) (e : Int32), qMd B D a → qMs D a (-1) 0 p' e w' → (∀ c, c ≠ 231 → c ≠ 232 → w' c = w c) ∧ (∀ j, j < 10 ∨ 14 < j → w' 231 j = w 231 j) ∧ (∀ j, j ≠ 6 → j ≠ 240 + a → j ≠ 252 + a → (j < 264 + 120 * a ∨ 264 + 120 * a + n ≤ j) → (∀ k, k ≤ 7 → ¬ qPut a k j) → w' 232 j = w 232 j) ∧ w' 232 6 = 0 ∧ w' 232 = D 232 ∧ w' 232 (240 + a) = day ∧ w' 232 (252 + a) = nI n ∧ (∀ i, i < n → w' 232 (264 + 120 * a + i) = w 232 (1880 + i)) := by
    intro D w' p' e d1 d2
    have e232 := d2.1.1 232 (by decide)
    refine ⟨fun c c1 c2 => ?_, fun j hj => ?_, fun j j1 j2 j3 j4 j5 => ?_, ?_, e232, ?_, ?_, fun i hi => ?_⟩
    · rw [d2.1.1 c c1, d1.1 c c2, fBc c c2]
    · rw [d2.1.2 j hj, d1.1 231 (by decide), fBc 231 (by decide)]
    · rw [e232, d1.2 j j5]
      exact fBo j j1 j2 j3 j4 (fun q => j5 0 (by omega) (Or.inl q))
    · rw [e232, d1.2 6 (fun k hk => by unfold qPut; omega)]; exact fB6
    · rw [e232, d1.2 _ (fun k hk => by unfold qPut; omega)]; exact fB240
    · rw [e232, d1.2 _ (fun k hk => by unfold qPut; omega)]; exact fB252
    · rw [e232, d1.2 _ (fun k hk => by unfold qPut; omega)]; exact fBt i hi
  unfold qHo mX12_readsOrder_121 qCls
  match e : qCl (fun i => w 232 (1880 + i)) n 0 with
  | (p', none) =>
    rw [e] at m3 g
    obtain ⟨ht3, _⟩ := ht.md ha md
    obtain ⟨w', g1, e2, g2⟩ := h_170 ht3 ha g.1 m3 zB1
    obtain ⟨f1, f2, f3, f4, _⟩ := fin C w' p' e2 md g2
    refine ⟨0, w', ?_, f1, f2, f3, f4, rfl, g2.2.2.1⟩
    rw [show zFU = 99999 + 1 from rfl, zlp_1]
    show mX12_readsOrder_121b 231 (nI a) _ w3 = _
    unfold mX12_readsOrder_121b
    rw [m3.2.2.2.1, if_neg (show ¬ (1 : Int32) = 0 by decide), g1, if_neg (show ¬ ((1 : Int32) = 0 ∧ p' = n) from fun q => absurd q.1 (by decide))]
  | (p', some c) =>
    rw [e] at m3 g
    obtain ⟨n1, n2, n3, n4, n5⟩ := m3
    obtain ⟨ht3, hf3⟩ := ht.md ha md
    have hk0 : qMk B a [] := ⟨fBk, fun i hi => absurd hi (Nat.not_lt_zero i)⟩
    have hk3 : qMk C a [c] := hk0.add (cs := []) (by show 0 ≤ 7; omega) m2 n2 n3 n4 n5 ha
    obtain ⟨x, w', D, r1, r2, r3⟩ := h_row ha 7 [c] p' C w3 zFU rfl g.1 (by decide) ht3 hk3 n1
    have hfc : ∀ p, qB (qFx C a) n p = qB (fun i => w 232 (1880 + i)) n p := fun p => (hf3 p).trans (hf p)
    have ec : ∀ k p acc, qCls (qFx C a) n k p acc = qCls (fun i => w 232 (1880 + i)) n k p acc := by
      intro k
      induction k with
      | zero => intro p acc; rfl
      | succ k ih => intro p acc; unfold qCls; simp only [hfc, qCl_congr hfc, ih]
    rw [ec, hfc] at r3
    refine ⟨x, w', r1, ?_⟩
    simp only
    rw [List.nil_append]
    generalize (if ¬ 7 = 0 ∧ qB (fun i => w 232 (1880 + i)) n p' = 59 then qCls (fun i => w 232 (1880 + i)) n 7 (p' + 1) [c] else if p' = n then (p', some [c]) else (p', none)) = R at r3
    match R with
    | (p2, some cs2) =>
      obtain ⟨x1, k1, p3, e3, m4⟩ := r3
      obtain ⟨f1, f2, f3, f4, f5, f6, f7, f8⟩ := fin D w' p3 e3 (md.tr r2) m4
      exact ⟨f1, f2, f3, f4, x1, f6, f7, f8, by unfold qMk; rw [f5]; exact k1⟩
    | (p2, none) =>
      obtain ⟨x0, e3, m4⟩ := r3
      obtain ⟨f1, f2, f3, f4, _⟩ := fin D w' p2 e3 (md.tr r2) m4
      exact ⟨f1, f2, f3, f4, x0, m4.2.2.1⟩
