/-- what is told of the one who is asked -/
def qTold (w0 : zWd) (T kd tp ga he si : Int32) : Prop := ∀ w, qS1 w0 w → w 231 14 = T → ∀ x, mX12_told 231 x w = some (if x = 107 then kd else if x = 116 then tp else if x = 110 then ga else if x = 115 then si else he, w)
/-- an answer of the model beside one of the grammar -/
def qAns (w0 : zWd) (a : Nat) (T : Int32) (o : Nat) (tv : Int32 → Bool) (r : qRes) (X : Option (Int32 × zWd)) : Prop := ∃ x w', X = some (x, w') ∧ zB x ∧ (match r with | (p', some l) => x = (if qVal tv l then 1 else 0) ∧ qMs w0 a T o p' 0 w' | (p', none) => qMs w0 a T o p' 1 w')
abbrev zFn : Type := Nat → zWd → Option (Int32 × zWd)
section QF
variable {w0 w : zWd} {a o p n : Nat} {T : Int32} {kd tp ga he si : Int32}
theorem qS1m (h : qMs w0 a T o p 0 w) : w 231 12 = 0 := h.2.2.2.1
theorem h_294 (c1 c2 c3 : zFn) (op v s : Int32) (w : zWd) : mX12_factor_294 c1 c2 c3 op v s w = some (if op = 61 then (if s = v then 1 else 0) else if op = 60 then (if s < v then 1 else 0) else (if v < s then 1 else 0), w) := by
  unfold mX12_factor_294 mX12_factor_350
  simp only [zgd_t zB0, zgd_t zB1, zlt2]
  by_cases e1 : op = 61
  · simp only [if_pos e1]; by_cases e : s = v <;> simp [e]
  simp only [if_neg e1]
  by_cases e2 : op = 60
  · simp only [if_pos e2]; by_cases e : v ≤ s <;> simp [e]
  simp only [if_neg e2]
  by_cases e : s ≤ v <;> simp [e]
theorem zB_294 (op v s : Int32) : zB (if op = 61 then (if s = v then 1 else 0) else if op = 60 then (if s < v then 1 else 0) else (if v < s then 1 else 0)) := by
  by_cases e1 : op = 61
  · rw [if_pos e1]; exact zBif _
  rw [if_neg e1]
  by_cases e2 : op = 60
  · rw [if_pos e2]; exact zBif _
  rw [if_neg e2]; exact zBif _
/-- behind a wrong op: it stays there -/
theorem h_248w (c1 c2 c3 : zFn) (h : qMs w0 a T o p 0 w ∨ qMs w0 a T o p 1 w) (x op : Int32) : ∃ y w', mX12_factor_248 c1 c2 c3 231 x op 1 231 w = some (y, w') ∧ zB y ∧ qMs w0 a T o p 1 w' := by
  have hw : qMs w0 a T o p 1 (zup w 231 12 1) := h.elim (fun h => h.wrong 1) (fun h => h.wrong 1)
  unfold mX12_factor_248 mX12_factor_268
  rw [zgd_t zB1, zbn_e]
  generalize zup w 231 12 1 = w1 at hw ⊢
  rw [hw.2.2.2.1, if_neg (by decide), zbn_e, hw.2.2.1, Int32.add_zero]
  have hw2 := hw.spot p
  generalize zup w1 231 11 (nI p) = w2 at hw2 ⊢
  obtain ⟨w3, g1, g2⟩ := h_n0 hw2
  rw [g1, zcl_s, g2.2.2.2.1, if_neg (by decide), h_294]
  exact ⟨_, w3, rfl, zB_294 _ _ _, g2⟩
/-- behind op, at p: the number and the comparison -/
theorem h_248 (c1 c2 c3 : zFn) (ht : qTx w0 a n) (hT : qTold w0 T kd tp ga he si) (h : qMs w0 a T o p 0 w) (hp : p ≤ 140) (x op : Int32) (k : Nat) (tv : Int32 → Bool)
    (hk : ∀ m, m ≤ 999 → (if op = 61 then (if (if x = 107 then kd else if x = 116 then tp else if x = 110 then ga else if x = 115 then si else he) = nI m then (1 : Int32) else 0) else if op = 60 then (if (if x = 107 then kd else if x = 116 then tp else if x = 110 then ga else if x = 115 then si else he) < nI m then 1 else 0) else (if nI m < (if x = 107 then kd else if x = 116 then tp else if x = 110 then ga else if x = 115 then si else he) then 1 else 0)) = if tv (nI (k * 1000 + m)) then 1 else 0) (hk7 : k ≤ 7) :
    qAns w0 a T o tv (qTs2 (qFx w0 a) n (p + 1) (nI k)) (mX12_factor_248 c1 c2 c3 231 x op 0 231 w) := by
  have hw := h.wrong 0
  unfold mX12_factor_248 mX12_factor_268
  rw [zgd_t zB0, zbn_e]
  generalize zup w 231 12 0 = w1 at hw ⊢
  rw [hw.2.2.2.1, if_pos rfl, zbn_e, hw.2.2.1, nI_1]
  have hw2 := hw.spot (p + 1)
  generalize zup w1 231 11 (nI (p + 1)) = w2 at hw2 ⊢
  obtain ⟨v, w3, g1, g2⟩ := h_num ht hw2 (by omega)
  rw [g1, zcl_s]
  unfold qTs2
  match e : qNum (qFx w0 a) n (p + 1) with
  | (p', some v2) =>
    rw [e] at g2
    simp only at g2 ⊢
    obtain ⟨g3, g4⟩ := g2
    subst g3
    obtain ⟨⟨m, hm, rfl⟩, _, _, _⟩ := qNum_rg e
    rw [g4.2.2.2.1, if_pos rfl, hT w3 g4.1 g4.2.2.2.2.2, zcl_s, h_294, hk m hm, show (1000 : Int32) = nI 1000 from rfl, pk_mul, nI_add]
    refine ⟨_, w3, rfl, ?_, ?_, g4⟩
    · by_cases b : tv (nI (k * 1000 + m)) = true
      · rw [if_pos b]; exact zB1
      · rw [if_neg b]; exact zB0
    · have s1 := (qStep_k hk7 hm).1
      rw [(qOk_t (x := nI (k * 1000 + m)) ?_ ?_ ?_).2 tv] <;> (rw [s1]; intro q)
      · rw [show (8 : Int32) = nI 8 from rfl, nIe (by omega) (by omega)] at q; omega
      · rw [show (9 : Int32) = nI 9 from rfl, nIe (by omega) (by omega)] at q; omega
      · rw [show (10 : Int32) = nI 10 from rfl, nIe (by omega) (by omega)] at q; omega
  | (p', none) =>
    rw [e] at g2
    simp only at g2 ⊢
    rw [g2.2.2.2.1, if_neg (by decide), h_294]
    exact ⟨_, w3, rfl, zB_294 _ _ _, g2⟩
/-- a test, from its letter on -/
theorem h_test (c1 c2 c3 : zFn) (ht : qTx w0 a n) (hT : qTold w0 T kd tp ga he si) (h : qMs w0 a T o p 0 w) (hp : p ≤ 130) (h33 : ¬ qB (qFx w0 a) n p = 33) (h40 : ¬ qB (qFx w0 a) n p = 40) : qAns w0 a T o (qTv kd tp ga he si) (qTest (qFx w0 a) n p) (mX12_factorb c1 c2 c3 231 w) := by
  have tvk : ∀ k m, k ≤ 7 → m ≤ 999 → qTv kd tp ga he si (nI (k * 1000 + m)) = (if nI k = 0 then decide (kd = nI m) else if nI k = 1 then decide (tp = nI m) else if nI k = 2 then decide (ga < nI m) else if nI k = 3 then decide (nI m < ga) else if nI k = 4 then decide (si < nI m) else if nI k = 5 then decide (nI m < si) else if nI k = 6 then decide (he < nI m) else decide (nI m < he)) := by
    intro k m hk hm
    obtain ⟨s1, s2⟩ := qStep_k hk hm
    unfold qTv
    rw [s1] at s2 ⊢
    rw [s2]
  have t0 : ∀ m, m ≤ 999 → qTv kd tp ga he si (nI (0 * 1000 + m)) = decide (kd = nI m) := fun m hm => (tvk 0 m (by omega) hm).trans (if_pos rfl)
  have t1 : ∀ m, m ≤ 999 → qTv kd tp ga he si (nI (1 * 1000 + m)) = decide (tp = nI m) := fun m hm => (tvk 1 m (by omega) hm).trans ((if_neg (by decide)).trans (if_pos rfl))
  have t2 : ∀ m, m ≤ 999 → qTv kd tp ga he si (nI (2 * 1000 + m)) = decide (ga < nI m) := fun m hm => (tvk 2 m (by omega) hm).trans ((if_neg (by decide)).trans ((if_neg (by decide)).trans (if_pos rfl)))
  have t3 : ∀ m, m ≤ 999 → qTv kd tp ga he si (nI (3 * 1000 + m)) = decide (nI m < ga) := fun m hm => (tvk 3 m (by omega) hm).trans ((if_neg (by decide)).trans ((if_neg (by decide)).trans ((if_neg (by decide)).trans (if_pos rfl))))
  have t4 : ∀ m, m ≤ 999 → qTv kd tp ga he si (nI (4 * 1000 + m)) = decide (si < nI m) := fun m hm => (tvk 4 m (by omega) hm).trans ((if_neg (by decide)).trans ((if_neg (by decide)).trans ((if_neg (by decide)).trans ((if_neg (by decide)).trans (if_pos rfl)))))
  have t5 : ∀ m, m ≤ 999 → qTv kd tp ga he si (nI (5 * 1000 + m)) = decide (nI m < si) := fun m hm => (tvk 5 m (by omega) hm).trans ((if_neg (by decide)).trans ((if_neg (by decide)).trans ((if_neg (by decide)).trans ((if_neg (by decide)).trans ((if_neg (by decide)).trans (if_pos rfl))))))
  have t6 : ∀ m, m ≤ 999 → qTv kd tp ga he si (nI (6 * 1000 + m)) = decide (he < nI m) := fun m hm => (tvk 6 m (by omega) hm).trans ((if_neg (by decide)).trans ((if_neg (by decide)).trans ((if_neg (by decide)).trans ((if_neg (by decide)).trans ((if_neg (by decide)).trans ((if_neg (by decide)).trans (if_pos rfl)))))))
  have t7 : ∀ m, m ≤ 999 → qTv kd tp ga he si (nI (7 * 1000 + m)) = decide (nI m < he) := fun m hm => (tvk 7 m (by omega) hm).trans ((if_neg (by decide)).trans ((if_neg (by decide)).trans ((if_neg (by decide)).trans ((if_neg (by decide)).trans ((if_neg (by decide)).trans ((if_neg (by decide)).trans (if_neg (by decide))))))))
  unfold mX12_factorb
  rw [h.2.2.2.1, if_pos rfl, h_here ht h (by omega), zcl_s, if_neg h33, if_neg h40]
  generalize ex : qB (qFx w0 a) n p = x at h33 h40 ⊢
  -- the op's place
  have go : ∀ s0 : Int32, (s0 = 1 ∨ (s0 = 0 ∧ (x = 110 ∨ x = 115 ∨ x = 104))) → ∃ w2, qMs w0 a T o (p + 1) 0 w2 ∧ mX12_factor_152 c1 c2 c3 231 x s0 w = (if s0 = 0 then (if qB (qFx w0 a) n (p + 1) = 60 then mX12_factor_248 c1 c2 c3 231 x 60 0 231 w2 else if qB (qFx w0 a) n (p + 1) = 62 then mX12_factor_248 c1 c2 c3 231 x 62 0 231 w2 else mX12_factor_248 c1 c2 c3 231 x (qB (qFx w0 a) n (p + 1)) 1 231 w2) else (if qB (qFx w0 a) n (p + 1) = 61 then mX12_factor_248 c1 c2 c3 231 x 61 0 231 w2 else mX12_factor_248 c1 c2 c3 231 x (qB (qFx w0 a) n (p + 1)) 1 231 w2)) := by
    intro s0 hs
    have hw := h.wrong 0
    have e1 : mX12_factor_152 c1 c2 c3 231 x s0 w = mX12_factor_181 c1 c2 c3 231 x s0 0 231 w := by
      unfold mX12_factor_152 mX12_factor_180
      rcases hs with rfl | ⟨rfl, rfl | rfl | rfl⟩
      · rw [if_neg (by decide)]
      · rw [if_pos rfl, if_pos rfl]
      · rw [if_pos rfl, if_neg (by decide), if_pos rfl]
      · rw [if_pos rfl, if_neg (by decide), if_neg (by decide), if_pos rfl]
    rw [e1]
    unfold mX12_factor_181 mX12_factor_201 mX12_factor_247 mX12_factor_243
    rw [zgd_t zB0, zbn_e]
    generalize zup w 231 12 0 = w1 at hw ⊢
    rw [hw.2.2.2.1, if_pos rfl, zbn_e, hw.2.2.1, nI_1]
    have hw2 := hw.spot (p + 1)
    generalize zup w1 231 11 (nI (p + 1)) = w2 at hw2 ⊢
    refine ⟨w2, hw2, ?_⟩
    rw [h_here ht hw2 (by omega), zcl_s, hw2.2.2.2.1, if_pos rfl]
    by_cases z : s0 = 0
    · rw [if_pos z, if_pos z]
      by_cases y1 : qB (qFx w0 a) n (p + 1) = 60
      · simp only [y1, if_true]
      · rw [if_neg y1, if_neg y1]
        by_cases y2 : qB (qFx w0 a) n (p + 1) = 62
        · simp only [y2, if_true]
        · rw [if_neg y2, if_neg y2]
    · rw [if_neg z, if_neg z]
      by_cases y1 : qB (qFx w0 a) n (p + 1) = 61
      · simp only [y1, if_true]
      · rw [if_neg y1, if_neg y1]
  have fail : ∀ (w2 : zWd) (op : Int32), qMs w0 a T o (p + 1) 0 w2 → qAns w0 a T o (qTv kd tp ga he si) (p + 1, none) (mX12_factor_248 c1 c2 c3 231 x op 1 231 w2) := by
    intro w2 op hw2
    obtain ⟨y, w', g1, g2, g3⟩ := h_248w c1 c2 c3 (Or.inl hw2) x op
    exact ⟨y, w', g1, g2, g3⟩
  have dE : ∀ k : Nat, k ≤ 7 → (s1 : mX12_factor_152 c1 c2 c3 231 x 1 w = mX12_factor_152 c1 c2 c3 231 x 1 w) → (∀ m, m ≤ 999 → (if (if x = 107 then kd else if x = 116 then tp else if x = 110 then ga else if x = 115 then si else he) = nI m then (1 : Int32) else 0) = if qTv kd tp ga he si (nI (k * 1000 + m)) then 1 else 0) → qAns w0 a T o (qTv kd tp ga he si) (qTsE (qFx w0 a) n p (nI k)) (mX12_factor_152 c1 c2 c3 231 x 1 w) := by
    intro k hk _ hm
    obtain ⟨w2, g1, g2⟩ := go 1 (Or.inl rfl)
    rw [g2, if_neg (by decide)]
    unfold qTsE
    by_cases y : qB (qFx w0 a) n (p + 1) = 61
    · rw [if_pos y, if_pos y]
      exact h_248 c1 c2 c3 ht hT g1 (by omega) x 61 k _ (fun m h => by rw [if_pos rfl]; exact hm m h) hk
    · rw [if_neg y, if_neg y]
      exact fail w2 _ g1
  have dL : ∀ k : Nat, k + 1 ≤ 7 → (x = 110 ∨ x = 115 ∨ x = 104) → (∀ m, m ≤ 999 → (if (if x = 107 then kd else if x = 116 then tp else if x = 110 then ga else if x = 115 then si else he) < nI m then (1 : Int32) else 0) = if qTv kd tp ga he si (nI (k * 1000 + m)) then 1 else 0) → (∀ m, m ≤ 999 → (if nI m < (if x = 107 then kd else if x = 116 then tp else if x = 110 then ga else if x = 115 then si else he) then (1 : Int32) else 0) = if qTv kd tp ga he si (nI ((k + 1) * 1000 + m)) then 1 else 0) → qAns w0 a T o (qTv kd tp ga he si) (qTsL (qFx w0 a) n p (nI k)) (mX12_factor_152 c1 c2 c3 231 x 0 w) := by
    intro k hk hx hm1 hm2
    obtain ⟨w2, g1, g2⟩ := go 0 (Or.inr ⟨rfl, hx⟩)
    rw [g2, if_pos rfl]
    unfold qTsL
    by_cases y : qB (qFx w0 a) n (p + 1) = 62
    · rw [if_pos y, if_neg (by rw [y]; decide), if_pos y, ← nI_succ]
      exact h_248 c1 c2 c3 ht hT g1 (by omega) x 62 (k + 1) _ (fun m h => by rw [if_neg (by decide), if_neg (by decide)]; exact hm2 m h) hk
    · rw [if_neg y]
      by_cases y2 : qB (qFx w0 a) n (p + 1) = 60
      · rw [if_pos y2, if_pos y2]
        exact h_248 c1 c2 c3 ht hT g1 (by omega) x 60 k _ (fun m h => by rw [if_neg (by decide), if_pos rfl]; exact hm1 m h) (by omega)
      · rw [if_neg y2, if_neg y2, if_neg y]
        exact fail w2 _ g1
  unfold qTest
  rw [ex]
  have b2 : ∀ (q : Prop) [Decidable q], (if q then (1 : Int32) else 0) = if decide q = true then 1 else 0 := fun q _ => by by_cases h : q <;> simp [h]
  by_cases c1' : x = 107
  · rw [if_pos c1', if_pos c1']
    exact dE 0 (by omega) rfl (fun m hm => by rw [t0 m hm, if_pos c1']; exact b2 _)
  rw [if_neg c1', if_neg c1']
  by_cases c2' : x = 116
  · rw [if_pos c2', if_pos c2']
    exact dE 1 (by omega) rfl (fun m hm => by rw [t1 m hm, if_neg c1', if_pos c2']; exact b2 _)
  rw [if_neg c2', if_neg c2']
  by_cases c3' : x = 110
  · rw [if_pos c3']
    exact dL 2 (by omega) (Or.inl c3') (fun m hm => by rw [t2 m hm, if_neg c1', if_neg c2', if_pos c3']; exact b2 _) (fun m hm => by rw [t3 m hm, if_neg c1', if_neg c2', if_pos c3']; exact b2 _)
  rw [if_neg c3']
  by_cases c4' : x = 115
  · rw [if_pos c4']
    exact dL 4 (by omega) (Or.inr (Or.inl c4')) (fun m hm => by rw [t4 m hm, if_neg c1', if_neg c2', if_neg c3', if_pos c4']; exact b2 _) (fun m hm => by rw [t5 m hm, if_neg c1', if_neg c2', if_neg c3', if_pos c4']; exact b2 _)
  rw [if_neg c4']
  by_cases c5' : x = 104
  · rw [if_pos c5']
    exact dL 6 (by omega) (Or.inr (Or.inr c5')) (fun m hm => by rw [t6 m hm, if_neg c1', if_neg c2', if_neg c3', if_neg c4']; exact b2 _) (fun m hm => by rw [t7 m hm, if_neg c1', if_neg c2', if_neg c3', if_neg c4']; exact b2 _)
  rw [if_neg c5']
  -- no test begins so
  have hw := h.wrong 1
  unfold mX12_factor_152 mX12_factor_181 mX12_factor_201 mX12_factor_247 mX12_factor_243
  rw [if_pos rfl, if_neg c3', if_neg c4', if_neg c5', zgd_t zB1, zbn_e]
  generalize zup w 231 12 1 = w1 at hw ⊢
  rw [hw.2.2.2.1, if_neg (by decide), zbn_e, hw.2.2.1, Int32.add_zero]
  have hw2 := hw.spot p
  generalize zup w1 231 11 (nI p) = w2 at hw2 ⊢
  rw [h_here ht hw2 (by omega), zcl_s, hw2.2.2.2.1, if_neg (by decide)]
  obtain ⟨y, w', g1, g2, g3⟩ := h_248w c1 c2 c3 (Or.inr hw2) x (qB (qFx w0 a) n p)
  exact ⟨y, w', g1, g2, g3⟩
end QF
