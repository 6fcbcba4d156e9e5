/-- what the model leaves where no tap is yet -/
def yBy (s : Nat → Int32) (T c : Nat) (nn : Int32) : Nat → Int32 := upd (upd (upd (upd s (140 + T) 1) (152 + T) (nI c)) (164 + T) nn) (188 + T) 0
theorem yBy_o {s : Nat → Int32} {T c : Nat} {nn : Int32} {j : Nat} (h1 : j ≠ 140 + T) (h2 : j ≠ 152 + T) (h3 : j ≠ 164 + T) (h4 : j ≠ 188 + T) : yBy s T c nn j = s j := by
  unfold yBy
  rw [qu_ne _ _ h4, qu_ne _ _ h3, qu_ne _ _ h2, qu_ne _ _ h1]
set_option maxHeartbeats 4000000 in
theorem s_given12 {w u0 : zWd} {T c : Nat} {cl : Nat → Nat} {nn : Int32} (hT : T < 12) (hc : c < 30) (hn : 1 ≤ nn.toInt ∧ nn.toInt ≤ 500) (hP : yTp (w 4) (w 6) cl T) (hR : yRg (w 3)) (k1 : ∀ t, t < T → w 5 t = nI (cl t)) (hsh : ∀ t, t < T + 1 → qBit (w 2 2) t = 0 ∨ qBit (w 2 2) t = 1) (hshT : qBit (w 2 2) T = 0) (e2 : u0 232 1 = nI T) (h3 : ∀ j, j < 120 → u0 232 (20 + j) = w 3 j) (hk : ∀ t, t < T → u0 232 (140 + t) = w 4 t ∧ u0 232 (152 + t) = w 5 t ∧ u0 232 (164 + t) = w 6 t ∧ u0 232 (188 + t) = qBit (w 2 2) t) (h8 : ∀ t, t < T → u0 232 (212 + t) = w 8 t ∧ u0 232 (224 + t) = w 9 t) (h8T : u0 232 (212 + T) = 0 ∧ u0 232 (224 + T) = 0) :
    ∃ u, mX12_givenWith 231 (nI c) nn u0 = some (yPv w cl T c nn, u) ∧ (∀ x, x ≠ 232 → x < 234 ∨ 239 < x → x ≠ 248 → x ≠ 249 → u x = u0 x) ∧ u 232 = yBy (u0 232) T c nn := by
  have hP2 := yTp_new (c := c) (nn := nn) hP hc hn
  let u5 : zWd := qPw u0 232 (yBy (u0 232) T c nn)
  have p5 : ∀ x, x ≠ 232 → u5 x = u0 x := fun x hx => qPw_n _ _ hx
  have p5' : u5 232 = yBy (u0 232) T c nn := qPw_e _ _ _
  have f5 : zup (zup (zup (zup u0 232 (140 + T) 1) 232 (152 + T) (nI c)) 232 (164 + T) nn) 232 (188 + T) 0 = u5 := by
    show _ = qPw u0 232 (upd (upd (upd (upd (u0 232) (140 + T) 1) (152 + T) (nI c)) (164 + T) nn) (188 + T) 0)
    rw [qPw_u u0, qPw_uu, qPw_uu, qPw_uu]
  clear_value u5
  obtain ⟨u8, b1, b2, b3, b4⟩ := s_keeps u5
  have u8s : u8 232 = yBy (u0 232) T c nn := (b2 232 (by decide) (by decide)).trans p5'
  let u9 : zWd := zup u8 232 1 (nI (T + 1))
  have f9 : zup u8 232 1 (nI (T + 1)) = u9 := rfl
  have p9 : ∀ x, x ≠ 232 → u9 x = u8 x := fun x hx => zpE _ _ _ hx
  have p9s : ∀ j, j ≠ 1 → u9 232 j = yBy (u0 232) T c nn j := fun j hj => by
    show zup u8 232 1 (nI (T + 1)) 232 j = _
    rw [zu2 _ _ hj, u8s]
  have p91 : u9 232 1 = nI (T + 1) := zu3 _ _ _ _
  clear_value u9
  have g1T : yBy (u0 232) T c nn 1 = nI T := by rw [yBy_o (by omega) (by omega) (by omega) (by omega)]; exact e2
  have start : mX12_givenWith 231 (nI c) nn u0 = mX12_givenWith_83 231 (nI T) 0 0 0 u9 := by
    unfold mX12_givenWith
    have q1 : u0 232 1 = nI T := e2
    have h212 : zup (zup (zup (zup u0 232 (140 + T) 1) 232 (152 + T) (nI c)) 232 (164 + T) nn) 232 (188 + T) 0 232 (212 + T) = 0 := by
      rw [f5, p5', yBy_o (by omega) (by omega) (by omega) (by omega)]; exact h8T.1
    simp only [Nat.reduceAdd, C1, zbn_e, G1 (show 1 < 21948 by decide), e2]
    rw [show (140 : Int32) + nI T = nI (140 + T) from nI_add 140 T, show (152 : Int32) + nI T = nI (152 + T) from nI_add 152 T, show (164 : Int32) + nI T = nI (164 + T) from nI_add 164 T, show (188 : Int32) + nI T = nI (188 + T) from nI_add 188 T, show (212 : Int32) + nI T = nI (212 + T) from nI_add 212 T]
    simp only [nI_clamp (show 140 + T < 2 ^ 31 by omega), nI_clamp (show 152 + T < 2 ^ 31 by omega), nI_clamp (show 164 + T < 2 ^ 31 by omega), nI_clamp (show 188 + T < 2 ^ 31 by omega), nI_clamp (show 212 + T < 2 ^ 31 by omega)]
    rw [zgd_t (show zin (nI (140 + T)) 21948 from vp_in_nI (by omega) (by decide)), zgd_t (show zin (nI (152 + T)) 21948 from vp_in_nI (by omega) (by decide)), zgd_t (show zin (nI (164 + T)) 21948 from vp_in_nI (by omega) (by decide)), zgd_t (show zin (nI (188 + T)) 21948 from vp_in_nI (by omega) (by decide)), zgd_t (show zin (nI (212 + T)) 21948 from vp_in_nI (by omega) (by decide)), h212, f5, b1, zcl_s]
    rw [show u8 232 1 = nI T by rw [u8s]; exact g1T, ← nI_succ, f9]
  rw [start]
  have kk0 : ∀ t, t < T + 1 → u9 232 (140 + t) = upd (w 4) T 1 t := fun t ht => by
    rw [p9s _ (by omega)]
    by_cases e : t = T
    · subst e
      rw [qu_eq]
      unfold yBy
      rw [qu_ne _ _ (by omega), qu_ne _ _ (by omega), qu_ne _ _ (by omega), qu_eq]
    · rw [qu_ne _ _ e, yBy_o (by omega) (by omega) (by omega) (by omega)]; exact (hk t (by omega)).1
  have kk1 : ∀ t, t < T + 1 → u9 232 (152 + t) = nI (if t = T then c else cl t) := fun t ht => by
    rw [p9s _ (by omega)]
    by_cases e : t = T
    · subst e
      rw [if_pos rfl]
      unfold yBy
      rw [qu_ne _ _ (by omega), qu_ne _ _ (by omega), qu_eq]
    · rw [if_neg e, yBy_o (by omega) (by omega) (by omega) (by omega), (hk t (by omega)).2.1]; exact k1 t (by omega)
  have kk2 : ∀ t, t < T + 1 → u9 232 (164 + t) = upd (w 6) T nn t := fun t ht => by
    rw [p9s _ (by omega)]
    by_cases e : t = T
    · subst e
      rw [qu_eq]
      unfold yBy
      rw [qu_ne _ _ (by omega), qu_eq]
    · rw [qu_ne _ _ e, yBy_o (by omega) (by omega) (by omega) (by omega)]; exact (hk t (by omega)).2.2.1
  have kk3 : ∀ t, t < T + 1 → u9 232 (188 + t) = qBit (w 2 2) t := fun t ht => by
    rw [p9s _ (by omega)]
    by_cases e : t = T
    · subst e
      rw [hshT]
      unfold yBy
      rw [qu_eq]
    · rw [yBy_o (by omega) (by omega) (by omega) (by omega)]; exact (hk t (by omega)).2.2.2
  have kk4 : ∀ t, t < T + 1 → u9 232 (212 + t) = upd (w 8) T 0 t := fun t ht => by
    rw [p9s _ (by omega), yBy_o (by omega) (by omega) (by omega) (by omega)]
    by_cases e : t = T
    · subst e; rw [qu_eq]; exact h8T.1
    · rw [qu_ne _ _ e]; exact (h8 t (by omega)).1
  have kk5 : ∀ t, t < T + 1 → u9 232 (224 + t) = upd (w 9) T 0 t := fun t ht => by
    rw [p9s _ (by omega), yBy_o (by omega) (by omega) (by omega) (by omega)]
    by_cases e : t = T
    · subst e; rw [qu_eq]; exact h8T.2
    · rw [qu_ne _ _ e]; exact (h8 t (by omega)).2
  have kk6 : ∀ j, j < 120 → u9 232 (20 + j) = w 3 j := fun j hj => by
    rw [p9s _ (by omega), yBy_o (by omega) (by omega) (by omega) (by omega)]; exact h3 j hj
  unfold yPv
  generalize hF : (fun i t => ySf (upd (w 4) T 1) (upd (w 6) T nn) (qBit (w 2 2)) (fun t => if t = T then c else cl t) (T + 1) (w 3) (upd (w 9) T 0) (upd (w 8) T 0) i t 0) = F
  have hFi : ∀ i t, ySf (upd (w 4) T 1) (upd (w 6) T nn) (qBit (w 2 2)) (fun t => if t = T then c else cl t) (T + 1) (w 3) (upd (w 9) T 0) (upd (w 8) T 0) i t 0 = F i t := fun i t => by rw [← hF]
  unfold mX12_givenWith_83
  refine zlp_R (R := fun (Y : Option (Int32 × zWd)) => ∃ u, Y = some (yTot F T 5, u) ∧ (∀ x, x ≠ 232 → x < 234 ∨ 239 < x → x ≠ 248 → x ≠ 249 → u x = u0 x) ∧ u 232 = yBy (u0 232) T c nn)
    (P := fun (i : Nat) (q : Int32 × Int32 × zWd) => ∃ u, q = (yTot F T i, nI i, u) ∧ (∀ x, x ≠ 232 → x < 234 ∨ 239 < x → u x = u8 x) ∧ (∀ j, j < 20 ∨ 140 ≤ j → j < 224 ∨ 224 + (T + 1) ≤ j → u 232 j = u9 232 j) ∧ (∀ j, j < 120 → u 232 (20 + j) = ySc (upd (w 4) T 1) (upd (w 6) T nn) (qBit (w 2 2)) (fun t => if t = T then c else cl t) (T + 1) (w 3) i j) ∧ ∀ t, t < T + 1 → u 232 (224 + t) = ySs (upd (w 4) T 1) (upd (w 6) T nn) (qBit (w 2 2)) (fun t => if t = T then c else cl t) (T + 1) (w 3) (upd (w 9) T 0) i t) (n := 5) (by unfold zFU; omega) ?_ ⟨u9, rfl, fun x h1 _ => p9 x h1, fun _ _ _ => rfl, kk6, kk5⟩
  rintro i hi q ⟨u, rfl, g1, g2, g3, g4⟩ k hkk
  simp only [mX12_givenWith_83b]
  by_cases e : i = 5
  · subst e
    have u1 : u 232 1 = nI (T + 1) := by rw [g2 1 (by omega) (by omega)]; exact p91
    obtain ⟨ub, c1, c2, c3, c4, c5⟩ := s_back (zup u 232 1 (nI T))
    rw [if_pos (show (5 : Int32) ≤ nI 5 by decide), G1 (show 1 < 21948 by decide), G1 (show 1 < 21948 by decide)]
    simp only [Nat.reduceAdd, C1, zbn_e, u1, nI_p1]
    rw [c1, zcl_s, show (212 : Int32) + nI T = nI (212 + T) from nI_add 212 T, zgd_t (show zin (nI (212 + T)) 21948 from vp_in_nI (by omega) (by decide)), nI_clamp (show 212 + T < 2 ^ 31 by omega)]
    refine ⟨_, rfl, fun x h1 h2 h3 h4 => ?_, funext (fun j => ?_)⟩
    · rw [zpE _ _ _ h1, c2 x h1, zpE _ _ _ h1, g1 x h1 h2, b2 x h3 h4]; exact p5 x h1
    · have u248 : ∀ m, m < 60 → zup u 232 1 (nI T) 248 m = yBy (u0 232) T c nn (20 + m) := fun m hm => by
        rw [zpE _ _ _ (by decide), g1 248 (by decide) (by decide), b3 m hm, p5']
      have u249 : ∀ m, m < 12 → zup u 232 1 (nI T) 249 m = yBy (u0 232) T c nn (224 + m) := fun m hm => by
        rw [zpE _ _ _ (by decide), g1 249 (by decide) (by decide), b4 m hm, p5']
      by_cases c212 : j = 212 + T
      · rw [c212, zu3, yBy_o (by omega) (by omega) (by omega) (by omega)]; exact h8T.1.symm
      rw [zu2 _ _ c212]
      by_cases x1 : 20 ≤ j ∧ j < 80
      · have := c3 (j - 20) (by omega)
        rw [show 20 + (j - 20) = j by omega, u248 _ (by omega), show 20 + (j - 20) = j by omega] at this
        exact this
      by_cases x2 : 224 ≤ j ∧ j < 236
      · have := c4 (j - 224) (by omega)
        rw [show 224 + (j - 224) = j by omega, u249 _ (by omega), show 224 + (j - 224) = j by omega] at this
        exact this
      rw [c5 j (by omega) (by omega)]
      by_cases x0 : j = 1
      · rw [x0, zu3]; exact g1T.symm
      rw [zu2 _ _ x0]
      by_cases x3 : 80 ≤ j ∧ j < 140
      · have := g3 (j - 20) (by omega)
        rw [show 20 + (j - 20) = j by omega, ySc_hi hP2 (by omega)] at this
        rw [this, ← kk6 _ (by omega), show 20 + (j - 20) = j by omega, p9s j x0]
      · rw [g2 j (by omega) (by omega), p9s j x0]
  obtain ⟨u2, m1, m2, m3, m4, m5, m6⟩ := s_days12 (w := u9) (C := w 3) (S := upd (w 9) T 0) (ln := upd (w 8) T 0) (kd := upd (w 4) T 1) (tn := upd (w 6) T nn) (sh := qBit (w 2 2)) (cl := fun t => if t = T then c else cl t) (T := T + 1) (by omega) hP2 hR p91 kk0 kk1 kk2 kk3 kk4 hsh (u := u) (i := i) (fun j h1 h2 h3 => g2 j h1 (by omega)) g3 g4
  rw [if_neg (show ¬ (5 : Int32) ≤ nI i from nI_ge (b := 5) (by omega) (by decide)), m1, zcl_s]
  have hk' := hkk (by omega) (yTot F T (i + 1), nI (i + 1), u2) ⟨u2, rfl, fun x h1 h2 => by rw [m2 x h1 h2]; exact g1 x h1 h2, fun j h1 h2 => by rw [m3 j h1 h2]; exact g2 j h1 h2, m4, m5⟩
  have inner : mX12_givenWith_96 k 231 (nI T) 0 (nI i) (yTot F T i) 0 u2 = k (yTot F T (i + 1), nI (i + 1), u2) := by
    unfold mX12_givenWith_96
    refine zlp_to (P := fun (t : Nat) (q : Int32 × Int32 × zWd) => q = (ySm (F i) (yTot F T i) t, nI t, u2)) (n := T) (by unfold zFU; omega) ?_ rfl
    rintro t ht q rfl kk hkk2
    simp only [mX12_givenWith_96b]
    by_cases et : t = T
    · subst et
      rw [if_pos (nI_le (Nat.le_refl _) (by omega)), nI_succ]
      rfl
    · have f := m6 t 0 (by omega) (by omega)
      rw [hFi, Nat.add_zero] at f
      rw [if_neg (nI_ge (by omega) (by omega)), zgd_t (show zin (nI t) 12 from vp_in_nI (by omega) (by decide)), zbn_e]
      simp only [Nat.reduceAdd, nI_clamp (show t < 2 ^ 31 by omega), f]
      refine hkk2 (by omega) _ (by rw [← nI_succ]; rfl)
  rw [inner]
  exact hk'
/-- where no tap is yet, the model may leave what it will -/
theorem r_by {c0 : Nat → Nat → Int32} {s p : Nat → Int32} (h : qRl c0 s p) {T c : Nat} (hT : T < 12) (hc : c < 30) (e1 : s 1 = nI T) (nn : Int32) : qRl c0 (yBy s T c nn) p := by
  obtain ⟨h1, h2, h3, h4, h5, h6, h7, h8⟩ := h
  have h10 := (qRg_at h2 2 rfl (i := 0) (by decide)).2
  simp only [Nat.add_zero] at h10
  have e1i : (s 1).toInt = T := by rw [e1, nIi (by omega)]
  unfold yBy
  refine ⟨?_, ?_, ?_, ?_, ?_, ?_, ?_, ?_⟩
  · exact qTb_s (qTb_s (qTb_s (qTb_s h1 (lo := 140) (hi := 200) (j := 140 + T) (by decide) (by omega) (by omega) 1) (lo := 140) (hi := 200) (j := 152 + T) (by decide) (by omega) (by omega) (nI c)) (lo := 140) (hi := 200) (j := 164 + T) (by decide) (by omega) (by omega) nn) (lo := 140) (hi := 200) (j := 188 + T) (by decide) (by omega) (by omega) 0
  · have t1 := qRg_put h2 (lo := 140) (hi := 152) (j := 140 + T) (a := 0) (b := 2) (by decide) (by omega) (by omega) (v := 1) (by decide)
    have t2 := qRg_put t1 (lo := 152) (hi := 164) (j := 152 + T) (a := 0) (b := 29) (by decide) (by omega) (by omega) (v := nI c) (by rw [nIi (by omega)]; omega)
    exact qRg_s (qRg_s t2 (lo := 164) (hi := 200) (j := 164 + T) (by decide) (by omega) (by omega) nn) (lo := 164) (hi := 200) (j := 188 + T) (by decide) (by omega) (by omega) 0
  · intro t ht
    obtain ⟨g1, g2⟩ := h3 t ht
    refine ⟨fun q => ?_, fun q => ?_⟩
    · rw [qu_ne _ _ (by omega), qu_ne _ _ (by omega), qu_ne _ _ (by omega), qu_ne _ _ (by omega), e1i] at q
      simp (disch := omega) only [qu_ne]
      exact g1 (by rw [e1i]; omega)
    · simp (disch := omega) only [qu_ne] at q ⊢
      exact g2 q
  · exact (((h4.s_ (by omega)).s_ (by omega)).s_ (by omega)).s_ (by omega)
  · exact (((h5.s_ (by omega)).s_ (by omega)).s_ (by omega)).s_ (by omega)
  · exact (((h6.s_ (by omega)).s_ (by omega)).s_ (by omega)).s_ (by omega)
  · exact (((h7.s_ (by omega)).s_ (by omega)).s_ (by omega)).s_ (by omega)
  · exact (((h8.s_ h10 (j := 140 + T) (v := 1) (by omega)).s_ (by simp (disch := omega) only [qu_ne]; exact h10) (j := 152 + T) (v := nI c) (by omega)).s_ (by simp (disch := omega) only [qu_ne]; exact h10) (j := 164 + T) (v := nn) (by omega)).s_ (by simp (disch := omega) only [qu_ne]; exact h10) (j := 188 + T) (v := 0) (by omega)
