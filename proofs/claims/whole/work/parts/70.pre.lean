theorem zTS_B {k : Nat} (h : zTS k) : zTB (k + 17) := ⟨by have := h.1; omega, by have := h.2; omega⟩
theorem zNe0 {x c n : Nat} (h : zShp x = (c, n)) (hc : c ≠ 11) : x ≠ 0 := by
  rintro rfl
  rw [show zShp 0 = (11, 11) from rfl] at h
  cases h
  exact hc rfl
theorem zNfw : nativeFrameWords "java/lang/System" "arraycopy" 5 ≤ 40 := by decide +kernel
def zEL (L : Nat) (xs : Nat → Int32) : State → (Nat → Nat) → (Nat → Prop) → Prop := fun s ad A => va_X (ad 290) L xs s s.heap ∧ ¬ A (ad 290) ∧ ad 290 < s.heap.size
abbrev gL_law (L : Nat) (xs : Nat → Int32) : zMth := (⟨"HotSpringsLaw", "law", "([I)Z"⟩, code, 4, (some .boolean), 1000, zEL L xs)
theorem zS_sald {ρ : Type} {emb : ρ → Option Value} {pc : Nat} {ls : List (Nat × Value)} {st : List Value} {w : zWd} {X : Option (ρ × zWd)} {L : Nat} {xs : Nat → Int32} (pc' : Nat) (hn : pc + 1 = pc') {i : Int32} {k : Nat} (hk : k = 290) (hdg : decode code pc = .ok (.iaload, 1)) (K : zS (gL_law L xs) emb pc' ls (.int (xs i.toNatClampNeg) :: st) w X) : zS (gL_law L xs) emb pc ls (.int i :: .ref k :: st) w (zgd (zin i L) X) := by
  subst hn
  subst hk
  refine zS_gd (fun hi => ?_)
  exact zS_step (fun p l e R s m args below meth c H locs cells slots Q D cI cZ cO ad A lsA F hl hH hS k => va_sld F.1 F.2.1 F.2.2.2.2.2.2.2.2.2.1 F.2.2.2.2.2.2.2.2.2.2.2 F.2.2.2.2.2.2.2.2.2.2.1 hS hi hdg k) K
theorem zS_slen {ρ : Type} {emb : ρ → Option Value} {pc : Nat} {ls : List (Nat × Value)} {st : List Value} {w : zWd} {X : Option (ρ × zWd)} {L : Nat} {xs : Nat → Int32} (pc' : Nat) (hn : pc + 1 = pc') {k : Nat} (hk : k = 290) (hdg : decode code pc = .ok (.arraylength, 1)) (K : zS (gL_law L xs) emb pc' ls (.int (Int32.ofNat L) :: st) w X) : zS (gL_law L xs) emb pc ls (.ref k :: st) w X := by
  subst hn
  subst hk
  exact zS_step (fun p l e R s m args below meth c H locs cells slots Q D cI cZ cO ad A lsA F hl hH hS k => va_slen F.1 F.2.1 F.2.2.2.2.2.2.2.2.2.1 F.2.2.2.2.2.2.2.2.2.2.2 F.2.2.2.2.2.2.2.2.2.2.1 hS hdg k) K
