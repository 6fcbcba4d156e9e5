/-! THE MIX: one taker more -/
theorem z_add2 {α : Type} {G : (Int32 × zWd → Option α) → Int32 × zWd → Option α} {M : Nat} {S : Nat → Nat → Prop} {K : zWd → Option α} {I : zWd → (Nat → Prop) → Prop} (hI : ∀ u (Q R : Nat → Prop), (∀ e, Q e ↔ R e) → I u Q → I u R)
    (hstop : ∀ k u Q, I u Q → G k (nI M, u) = K u) (hstep : ∀ i, i < M → ∀ k u Q, I u Q → ∃ u', G k (nI i, u) = k (nI (i + 1), u') ∧ I u' (fun e => Q e ∨ S i e)) : ∀ m i F u Q, i + m = M → m < F → I u Q → ∃ u', zlp G F (nI i, u) = K u' ∧ I u' (fun e => Q e ∨ ∃ j, i ≤ j ∧ j < M ∧ S j e) := by
  intro m
  induction m with
  | zero =>
    intro i F u Q h1 h2 h3
    obtain ⟨F, rfl⟩ : ∃ F', F = F' + 1 := ⟨F - 1, by omega⟩
    obtain rfl : i = M := by omega
    refine ⟨u, by rw [zlp_1, hstop _ _ _ h3], hI u _ _ (fun e => ⟨Or.inl, fun q => ?_⟩) h3⟩
    rcases q with q | ⟨j, j1, j2, _⟩
    · exact q
    · omega
  | succ m ih =>
    intro i F u Q h1 h2 h3
    obtain ⟨F, rfl⟩ : ∃ F', F = F' + 1 := ⟨F - 1, by omega⟩
    obtain ⟨u1, g1, g2⟩ := hstep i (by omega) (zlp G F) u Q h3
    obtain ⟨u2, g3, g4⟩ := ih (i + 1) F u1 _ (by omega) (by omega) g2
    refine ⟨u2, by rw [zlp_1, g1, g3], hI u2 _ _ (fun e => ⟨fun q => ?_, fun q => ?_⟩) g4⟩
    · rcases q with (q | q) | ⟨j, j1, j2, j3⟩
      · exact Or.inl q
      · exact Or.inr ⟨i, Nat.le_refl i, by omega, q⟩
      · exact Or.inr ⟨j, by omega, j2, j3⟩
    · rcases q with q | ⟨j, j1, j2, j3⟩
      · exact Or.inl (Or.inl q)
      · by_cases ej : j = i
        · rw [ej] at j3; exact Or.inl (Or.inr j3)
        · exact Or.inr ⟨j, by omega, j2, j3⟩
/-- from the code e g tens may be taken, and v is left -/
def qTk (W : Nat → Int32) (g : Nat) (x : Int32) (e v : Nat) : Prop := ∃ a, 0 ≤ a ∧ a ≤ min g (e % 7) ∧ ∃ b, 0 ≤ b ∧ b ≤ min (g - a) (e / 7 % 7) ∧ ∃ c, 0 ≤ c ∧ c ≤ min (g - a - b) (e / 49 % 7) ∧ qS3 W g e (e / 343) x a b c v
theorem c_take {w0 : zWd} {B r g e : Nat} {x : Int32} (hB : B = 223 ∨ B = 224) (h3 : w0 220 3 = nI B) (h7 : w0 220 7 = nI r) (hg : g ≤ 4) (he : e < 2401) (u : zWd) (Q : Nat → Prop) (hu : qKs w0 B r u Q) : ∃ u', mX1_takeFrom 220 (nI e) (nI g) x u = some ((), u') ∧ qKs w0 B r u' (fun v => Q v ∨ qTk (w0 222) g x e v) := by
  have n7 : (7 : Int32) = nI 7 := rfl
  have n49 : (49 : Int32) = nI 49 := rfl
  have n343 : (343 : Int32) = nI 343 := rfl
  have r1 : nI e - nI e / 7 * 7 = nI (e % 7) := by rw [n7, pk_div (by omega) (by decide) (by decide), pk_mul, pk_sub (by omega)]; congr 1; omega
  have r2 : nI e / 7 - nI e / 7 / 7 * 7 = nI (e / 7 % 7) := by rw [n7, pk_div (by omega) (by decide) (by decide), pk_div (by omega) (by decide) (by decide), pk_mul, pk_sub (by omega)]; congr 1; omega
  have r3 : nI e / 49 - nI e / 49 / 7 * 7 = nI (e / 49 % 7) := by rw [n7, n49, pk_div (by omega) (by decide) (by decide), pk_div (by omega) (by decide) (by decide), pk_mul, pk_sub (by omega)]; congr 1; omega
  have r4 : nI e / 343 = nI (e / 343) := by rw [n343, pk_div (by omega) (by decide) (by decide)]
  unfold mX1_takeFrom
  rw [r1, r2, r3, r4, zbn_e, zbn_e, zbn_e, zbn_e]
  exact c_take1a hB h3 h7 hg (by omega) (by omega) (by omega) (by omega) (by omega) u Q hu
