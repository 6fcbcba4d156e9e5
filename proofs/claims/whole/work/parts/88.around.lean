theorem zw97 : (Jvm.Cond.classLink "HotSpringsLaw" (7 : Nat) "HotSprings") ∈ lw_gd := zIn 97 (by decide +kernel) (by decide +kernel)
theorem zw98 : (Jvm.Cond.instantiable "HotSprings" (11 : Nat)) ∈ lw_gd := zIn 98 (by decide +kernel) (by decide +kernel)
theorem zw99 : (Jvm.Cond.methodLink "HotSpringsLaw" (9 : Nat) ({ cls := "HotSprings", name := "<init>", desc := "()V" } : Jvm.MethodName)) ∈ lw_gd := zIn 99 (by decide +kernel) (by decide +kernel)
theorem zw100 : (Jvm.Cond.instanceMethod ({ cls := "HotSprings", name := "<init>", desc := "()V" } : Jvm.MethodName)) ∈ lw_gd := zIn 100 (by decide +kernel) (by decide +kernel)
theorem zw101 : (Jvm.Cond.code ({ cls := "HotSprings", name := "<init>", desc := "()V" } : Jvm.MethodName) prog_1_method_1_code (1 : Nat) (Option.none : Option Jvm.ClassFile.FieldType)) ∈ lw_gd := zIn 101 (by decide +kernel) (by decide +kernel)
theorem zw1107 : (Jvm.Cond.classLink "HotSpringsLaw" (10 : Nat) "HotSpringsModel") ∈ lw_gd := zIn 1107 (by decide +kernel) (by decide +kernel)
theorem zw1108 : (Jvm.Cond.instantiable "HotSpringsModel" (25 : Nat)) ∈ lw_gd := zIn 1108 (by decide +kernel) (by decide +kernel)
theorem zw1109 : (Jvm.Cond.methodLink "HotSpringsLaw" (12 : Nat) ({ cls := "HotSpringsModel", name := "<init>", desc := "()V" } : Jvm.MethodName)) ∈ lw_gd := zIn 1109 (by decide +kernel) (by decide +kernel)
theorem zw1110 : (Jvm.Cond.instanceMethod ({ cls := "HotSpringsModel", name := "<init>", desc := "()V" } : Jvm.MethodName)) ∈ lw_gd := zIn 1110 (by decide +kernel) (by decide +kernel)
theorem zw1111 : (Jvm.Cond.code ({ cls := "HotSpringsModel", name := "<init>", desc := "()V" } : Jvm.MethodName) prog_14_method_1_code (2 : Nat) (Option.none : Option Jvm.ClassFile.FieldType)) ∈ lw_gd := zIn 1111 (by decide +kernel) (by decide +kernel)
def zTm (i : Nat) : Term := .string (zTx.getD i ("", 0, "", [])).1 (zTx.getD i ("", 0, "", [])).2.1
abbrev zNar : List Cond := flatC (Jvm.Cond.and given_1 narrow_1)
theorem zn1 : ∀ i, i < 12 → (Cond.exactly (zTm i) "java/lang/String") ∈ zNar := by decide +kernel
theorem zn2 : ∀ i, i < 12 → (Cond.eq (.field (zTm i) "java/lang/String" "coder" "B") (.int 0)) ∈ zNar := by decide +kernel
theorem zn3 : ∀ i, i < 12 → (Cond.arrayOf (.field (zTm i) "java/lang/String" "value" "[B") .byte) ∈ zNar := by decide +kernel
theorem zn4 : ∀ i, i < 12 → (Cond.eq (.length (.field (zTm i) "java/lang/String" "value" "[B")) (.int (Int32.ofNat (zTl.getD i 0)))) ∈ zNar := by decide +kernel
theorem zn5 : ∀ i, i < 12 → ∀ j, j < zTl.getD i 0 → (Cond.eq (.elem (.field (zTm i) "java/lang/String" "value" "[B") (.int (Int32.ofNat j))) (.int ((zTb.getD i []).getD j 0))) ∈ zNar := by decide +kernel
theorem zn6 : ∀ i, i < 12 → ∀ j, j < 12 → i ≠ j → (Cond.not (Cond.eq (zTm i) (zTm j))) ∈ zNar ∨ (Cond.not (Cond.eq (zTm j) (zTm i))) ∈ zNar := by decide +kernel
def zSt3 (i : Nat) : Term := .static "HotSprings" (zSV.getD i ("", [])).1 "[I"
theorem zn7 : ∀ i, i < 3 → (Cond.arrayOf (zSt3 i) .int) ∈ zNar ∧ (Cond.eq (.length (zSt3 i)) (.int (Int32.ofNat (zSV.getD i ("", [])).2.length))) ∈ zNar := by decide +kernel
theorem zn13 : ∀ i, i < 3 → (zSV.getD i ("", [])).2.length < 2 ^ 31 := by decide +kernel
theorem zn8 : ∀ i, i < 3 → ∀ j, j < (zSV.getD i ("", [])).2.length → (Cond.eq (.elem (zSt3 i) (.int (Int32.ofNat j))) (.int ((zSV.getD i ("", [])).2.getD j 0))) ∈ zNar := by decide +kernel
theorem zn9 : ∀ i, i < 3 → Cond.laysStatic "HotSprings" (zSV.getD i ("", [])).1 "[I" ∈ lw_tbl := by decide +kernel
theorem zn10 : ∀ i, i < 12 → Cond.stringRef (zTx.getD i ("", 0, "", [])).1 (zTx.getD i ("", 0, "", [])).2.1 (zTx.getD i ("", 0, "", [])).2.2.1 ∈ lw_tbl := by decide +kernel
theorem zn11 : ∀ q ∈ zNM, Cond.methodLinkNest q.1 q.2.1 q.2.2.1 q.2.2.2 ∈ lw_tbl := by decide +kernel
theorem zn12 : ∀ q ∈ zNF, Cond.fieldLinkNest q.1 q.2.1 "HotSprings" q.2.2 "[I" "HotSprings" ∈ lw_tbl := by decide +kernel
/-- what stands around the law at its start -/
theorem zAround {s : State} {b : Nat} (hts : ∀ w ∈ lw_tbl, w.before #[Value.ref b] s = true) (hgv : (Jvm.Cond.and given_1 narrow_1).before #[Value.ref b] s = true) :
    ∃ (D : va_G) (cI cZ cO : ClassId) (ad : Nat → Nat), (∀ k, k < 250 → ad k = s.heap.size + k) ∧ ad 290 = b ∧ zSt D cI cZ cO ad (kA s.heap.size) s s.heap ∧ va_AO "HotSprings$Order" s := by
  have hgd : ∀ w ∈ lw_gd, w.before #[Value.ref b] s = true := fun w hw => hts w (List.mem_filter.mp hw).1
  have hs := flat_of_before _ hgv
  have hA : ∀ a : Nat, a < s.heap.size → ¬ kA s.heap.size a := fun a h => Nat.not_le.mpr h
  have hKn : ∀ c : Nat, ∃ p : ClassId × (Nat → Nat), ∀ q : vw_C, vwCl[c]? = some q → u_Kn s q.1 q.2.1 q.2.2 p.1 p.2 := by
    intro c
    cases hc : vwCl[c]? with
    | none => exact ⟨(0, fun _ => 0), fun q h => by cases h⟩
    | some q =>
      have : ∃ (cC : ClassId) (iS : Nat → Nat), u_Kn s q.1 q.2.1 q.2.2 cC iS := by
        match c, hc with
        | 0, hc => cases hc; exact u_known hgd zUw0 (hgd _ zw112)
        | 1, hc => cases hc; exact u_known hgd zUw1 (hgd _ zw412)
        | 2, hc => cases hc; exact u_known hgd zUw2 (hgd _ zw189)
        | 3, hc => cases hc; exact u_known hgd zUw3 (hgd _ zw182)
        | 4, hc => cases hc; exact u_known hgd zUw4 (hgd _ zw372)
        | 5, hc => cases hc; exact u_known hgd zUw5 (hgd _ zw391)
        | 6, hc => cases hc; exact u_known hgd zUw6 (hgd _ zw292)
        | 7, hc => cases hc; exact u_known hgd zUw7 (hgd _ zw443)
        | 8, hc => cases hc; exact u_known hgd zUw8 (hgd _ zw231)
        | 9, hc => cases hc; exact u_known hgd zUw9 (hgd _ zw166)
        | 10, hc => cases hc; exact u_known hgd zUw10 (hgd _ zw106)
        | 11, hc => cases hc; exact u_known hgd zUw11 (hgd _ zw98)
        | 12, hc => cases hc; exact u_known hgd zUw12 (hgd _ zw1108)
        | n + 13, hc => simp [vwCl] at hc
      obtain ⟨cC, iS, h⟩ := this
      exact ⟨(cC, iS), fun q' h' => by cases h'; exact h⟩
  obtain ⟨dd, hdd⟩ := Classical.axiomOfChoice hKn
  obtain ⟨cI, kI, compI, hI1, hI2, hI3⟩ := Cond.arrayClass_spec (hgd (.arrayClass .int) zw164)
  obtain ⟨cZ, kZ, compZ, hZ1, hZ2, hZ3⟩ := Cond.arrayClass_spec (hgd (.arrayClass .boolean) zw1188)
  have hAO : va_AO "HotSprings$Order" s := hts (.arrayOver (.object "HotSprings$Order")) (List.mem_of_getElem? (i := 188) (by decide +kernel))
  obtain ⟨compO, cO, kO, hO1, hO2, hO3, hO4, hO5⟩ := Cond.arrayOver_spec hAO
  obtain ⟨adK, adV, hSt, htm⟩ := vk_Sof (args := #[Value.ref b]) (s := s) (N := 12) (tm := zTm) (len := zTl) (byt := zTb) (A := kA s.heap.size) (by decide +kernel) (fun i hi => hs _ (zn1 i hi)) (fun i hi => hs _ (zn2 i hi)) (fun i hi => hs _ (zn3 i hi)) (fun i hi => hs _ (zn4 i hi)) (fun i hi j hj => hs _ (zn5 i hi j hj)) (fun i j hi hj hij => (zn6 i hi j hj hij).imp (hs _) (hs _)) hA
  have hTT : ∀ i : Nat, ∃ t : Nat, i < 3 → (zSt3 i).eval #[Value.ref b] s none [] s = some (.ref t) ∧ va_T .int t (zSV.getD i ("", [])).2.length (fun j => .int ((zSV.getD i ("", [])).2.getD j 0)) (kA s.heap.size) s s.heap := by
    intro i
    by_cases hi : i < 3
    · obtain ⟨t, h1, h2⟩ := va_Tof (args := #[Value.ref b]) (s := s) (tm := zSt3 i) (ty := .int) (N := (zSV.getD i ("", [])).2.length) (f := fun j => .int ((zSV.getD i ("", [])).2.getD j 0)) (A := kA s.heap.size) (zn13 i hi) (hs _ (zn7 i hi).1) (va_eqt (hs _ (zn7 i hi).2)) (fun j hj => va_eqt (hs _ (zn8 i hi j hj))) hA
      exact ⟨t, fun _ => ⟨h1, h2⟩⟩
    · exact ⟨0, fun h => absurd h hi⟩
  obtain ⟨at', hat⟩ := Classical.axiomOfChoice hTT
  have hiniH : (Cond.initialized "HotSprings").before #[Value.ref b] s = true := hgd _ zw77
  have hCS : va_Z "java/lang/String" "COMPACT_STRINGS" "Z" (.int 1) (kA s.heap.size) s s.heap := va_Zof (args := #[Value.ref b]) (hts (.laysStatic "java/lang/String" "COMPACT_STRINGS" "Z") (List.mem_of_getElem? (i := 686) (by decide +kernel))) (hgd _ zw92) (va_eqi (hs (.eq (.static "java/lang/String" "COMPACT_STRINGS" "Z") (.int 1)) (by decide +kernel))) hA
  have hFq : va_Zq "jdk/internal/util/Preconditions" "SIOOBE_FORMATTER" "Ljava/util/function/BiFunction;" (kA s.heap.size) s s.heap := va_Zqof (args := #[Value.ref b]) (hts (.laysStatic "jdk/internal/util/Preconditions" "SIOOBE_FORMATTER" "Ljava/util/function/BiFunction;") (List.mem_of_getElem? (i := 702) (by decide +kernel))) (hgd _ zw94) (hs (.isRef (.static "jdk/internal/util/Preconditions" "SIOOBE_FORMATTER" "Ljava/util/function/BiFunction;")) (by decide +kernel)) hA
  obtain ⟨f0, f1, hF⟩ : ∃ f0 f1 : Nat, va_Z "jdk/internal/util/Preconditions" "SIOOBE_FORMATTER" "Ljava/util/function/BiFunction;" (if f0 = 0 then .null else .ref f1) (kA s.heap.size) s s.heap := by
    rcases hFq with h | ⟨t, h⟩
    · exact ⟨0, 0, by simpa using h⟩
    · exact ⟨1, t, by simpa using h⟩
  obtain ⟨ad, had⟩ : ∃ ad : Nat → Nat, ad = fun k => if k < 250 then s.heap.size + k else if k < 253 then at' (k - 250) else if k < 265 then adK (k - 253) else if k < 270 then 0 else if k < 282 then adV (k - 270) else if k = 288 then f0 else if k = 289 then f1 else if k = 290 then b else 0 := ⟨_, rfl⟩
  refine ⟨(fun c => (dd c).1, fun c => (dd c).2), cI, cZ, cO, ad, fun k hk => by rw [had]; simp [hk], by rw [had]; simp, ⟨⟨fun c q hq => hdd c q hq, fun k q hq => ?_⟩, ?_, ?_, ?_, ?_, ?_, hCS, ?_⟩, hAO⟩
  · match k, hq with
    | 0, hq => cases hq; exact ⟨fun n z => ⟨(fun k h => by cases h), kI, hI2, compI, hI3⟩, hI1⟩
    | 1, hq => cases hq; exact ⟨fun n z => ⟨(fun k h => by cases h), kZ, hZ2, compZ, hZ3⟩, hZ1⟩
    | 2, hq => cases hq; exact ⟨fun n z => ⟨(fun k h => by cases h), kO, hO3, compO, hO4⟩, kO, compO, hO3, hO4, hO1, hO5⟩
    | n + 3, hq => simp at hq
  · exact fun q hq => va_Nw.of rfl (hts _ (zn11 q hq))
  · exact fun q hq => va_Nw.of rfl (hts _ (zn12 q hq))
  · intro i q hq
    have hi : i < 3 := (List.getElem?_eq_some_iff.mp hq).1
    have hq2 : zSV.getD i ("", []) = q := by rw [List.getD_eq_getElem?_getD, hq]; rfl
    obtain ⟨h1, h2⟩ := hat i hi
    have e1 : ad (250 + i) = at' i := by
      rw [had]
      simp only [show ¬ 250 + i < 250 by omega, if_false, show 250 + i < 253 by omega, if_true, show 250 + i - 250 = i by omega]
    rw [hq2] at h2
    have h3 : (Term.static "HotSprings" q.1 "[I").eval #[Value.ref b] s none [] s = some (.ref (at' i)) := by
      have h4 := h1
      unfold zSt3 at h4
      rw [hq2] at h4
      exact h4
    have h5 : Cond.laysStatic "HotSprings" q.1 "[I" ∈ lw_tbl := by rw [← hq2]; exact zn9 i hi
    rw [e1]
    exact ⟨va_Zof (args := #[Value.ref b]) (hts _ h5) hiniH h3 hA, h2⟩
  · have e1 : ∀ i : Nat, i < 12 → ad (253 + i) = adK i := fun i hi => by
      rw [had]
      simp only [show ¬ 253 + i < 250 by omega, if_false, show ¬ 253 + i < 253 by omega, show 253 + i < 265 by omega, if_true, show 253 + i - 253 = i by omega]
    have e2 : ∀ i : Nat, i < 12 → ad (270 + i) = adV i := fun i hi => by
      rw [had]
      simp only [show ¬ 270 + i < 250 by omega, if_false, show ¬ 270 + i < 253 by omega, show ¬ 270 + i < 265 by omega, show ¬ 270 + i < 270 by omega, show 270 + i < 282 by omega, if_true, show 270 + i - 270 = i by omega]
    refine ⟨fun i hi => ?_, fun i j hi hj h => ?_⟩
    · show va_O _ (ad (253 + i)) _ _ _ ∧ va_OF _ _ _ _ (ad (253 + i)) _ _ _ ∧ va_OF _ _ _ (.ref (ad (270 + i))) (ad (253 + i)) _ _ _ ∧ va_T _ (ad (270 + i)) _ _ _ _ _
      rw [e1 i hi, e2 i hi]
      exact hSt.1 i hi
    · have h' : ad (253 + i) = ad (253 + j) := h
      rw [e1 i hi, e1 j hj] at h'
      exact hSt.2 i j hi hj h'
  · intro i q hq
    have hi : i < 12 := (List.getElem?_eq_some_iff.mp hq).1
    have hq2 : zTx.getD i ("", 0, "", []) = q := by rw [List.getD_eq_getElem?_getD, hq]; rfl
    have e1 : ad (253 + i) = adK i := by
      rw [had]
      simp only [show ¬ 253 + i < 250 by omega, if_false, show ¬ 253 + i < 253 by omega, show 253 + i < 265 by omega, if_true, show 253 + i - 253 = i by omega]
    have h1 := htm i hi
    have h2 := hts _ (zn10 i hi)
    unfold zTm at h1
    rw [hq2] at h1 h2
    rw [e1]
    exact vk_R.of h2 h1
  · have e1 : zFm ad = (if f0 = 0 then .null else .ref f1) := by
      unfold zFm
      rw [had]
      simp
    rw [e1]
    exact hF
abbrev gKlaw : kMth := (⟨"HotSpringsLaw", "law", "([I)Z"⟩, code, 4, 1000, 250, 81410)
set_option maxHeartbeats 4000000 in
set_option maxRecDepth 100000 in
theorem zLawMakes (E : kE) : zR gKlaw (0, E, 0, 0, 0, [(0, .ref 290)], []) (250, kFin (kFin E 0 231) 231 250, 250, 81410, 18, [(3, .int 0), (2, .ref 231), (1, .ref 0), (0, .ref 290)], []) := by
  refine zR_newobj 7 rfl (n := 0) (fs := [.null, .null, .int 0, .null, .null, .null, .null, .null, .null, .null, .null]) (E1 := kup E 0 (fun _ _ _ _ => .inr (11, [.null, .null, .int 0, .null, .null, .null, .null, .null, .null, .null, .null]))) (E2 := kFin E 0 231) (n2 := 231) (g' := gK11) zC11 rfl rfl (by decide) (by decide) (fun cI cZ cO ad j hj => absurd hj (Nat.not_lt_zero j)) (fun cI cZ cO ad => by simp [kup]) (mk11 E) dL_law_0 dL_law_3 dL_law_4 zw97 zw98 zw77 (Or.inl zw99) zw100 zw101 kHd11 (by decide) (Nat.le_of_ble_eq_true rfl) (Nat.le_of_ble_eq_true rfl) (Nat.le_of_ble_eq_true rfl) ?_
  refine zR_astore_n 8 rfl dL_law_7 (by decide) (show _ = [(1, .ref _), (0, .ref _)] from rfl) ?_
  refine zR_newobj 15 rfl (n := 231) (fs := [.int 0, .null, .null, .int 0, .null, .null, .null, .null, .null, .null, .int 0, .int 0, .int 0, .int 0, .int 0, .null, .null, .null, .null, .null, .null, .null, .null, .null, .null]) (E1 := kup (kFin E 0 231) 231 (fun _ _ _ _ => .inr (12, [.int 0, .null, .null, .int 0, .null, .null, .null, .null, .null, .null, .int 0, .int 0, .int 0, .int 0, .int 0, .null, .null, .null, .null, .null, .null, .null, .null, .null, .null]))) (E2 := kFin (kFin E 0 231) 231 250) (n2 := 250) (g' := gK12) zC12 rfl rfl (by decide) (by decide) (fun cI cZ cO ad j hj => by unfold kup; rw [if_neg (by omega)]) (fun cI cZ cO ad => by simp [kup]) (mk12 _) dL_law_8 dL_law_11 dL_law_12 zw1107 zw1108 zw89 (Or.inl zw1109) zw1110 zw1111 kHd12 (by decide) (Nat.le_of_ble_eq_true rfl) (Nat.le_of_ble_eq_true rfl) (Nat.le_of_ble_eq_true rfl) ?_
  refine zR_astore_n 16 rfl dL_law_15 (by decide) (show _ = [(2, .ref _), (1, .ref _), (0, .ref _)] from rfl) ?_
  refine zR_iconst 17 rfl (0 : Int32) (by decide) dL_law_16 ?_
  refine zR_istore_n 18 rfl dL_law_17 (by decide) (show _ = [(3, .int _), (2, .ref _), (1, .ref _), (0, .ref _)] from rfl) ?_
  exact zR_rf

