/-! ===== the law's start ===== -/
theorem st_X {b L : Nat} {xs : Nat → Int32} {s : State} {B : Nat → Prop} (hX : va_X b L xs s s.heap) (hB : ¬ B b) : va_T .int b L (fun i => .int (xs i)) B s s.heap := by
  obtain ⟨scr, h1, h2, h3, h4, h5⟩ := hX
  exact ⟨scr, h1, h2, h3, Nat.le_of_eq h4.symm, by rw [h4] <;> rfl, h5, hB⟩
theorem st_G {l : Launch} (hl : l.stackTraces = false) {s : State} {b L : Nat} {xs : Nat → Int32} (hts : ∀ w ∈ lw_tbl, w.before #[Value.ref b] s = true) (hw : ∀ c ∈ stW, c.before #[Value.ref b] s = true) (hX : va_X b L xs s s.heap) (hbl : b < s.heap.size) : ∃ G : gT, G.l = l ∧ G.s0 = s ∧ G.sad 6 = .ref b ∧ G.L = L ∧ G.xs = xs ∧ gOK G := by
  have hA : ∀ q : Nat, q < s.heap.size → ¬ (fun q : Nat => s.heap.size ≤ q) q := fun q h1 h2 => absurd h1 (Nat.not_lt.mpr h2)
  obtain ⟨D, tys, hK, hty⟩ := st_K hts
  obtain ⟨t0, e0, T0⟩ := st_row (C := "BellCores") (nm := "STEPS") (d := "[I") (ty := .int) (n := 8) (a := 6) (f := stepsF) (by decide) hw (List.mem_of_getElem? (i := 4) (by decide +kernel)) (List.mem_of_getElem? (i := 5) (by decide +kernel)) stvL0 hA
  obtain ⟨t1, e1, T1⟩ := st_row (C := "java/lang/Integer") (nm := "DigitOnes") (d := "[B") (ty := .byte) (n := 100) (a := 23) (f := onesF) (by decide) hw (List.mem_of_getElem? (i := 21) (by decide +kernel)) (List.mem_of_getElem? (i := 22) (by decide +kernel)) stvL1 hA
  obtain ⟨t2, e2, T2⟩ := st_row (C := "java/lang/Integer") (nm := "DigitTens") (d := "[B") (ty := .byte) (n := 100) (a := 126) (f := tensF) (by decide) hw (List.mem_of_getElem? (i := 124) (by decide +kernel)) (List.mem_of_getElem? (i := 125) (by decide +kernel)) stvL2 hA
  obtain ⟨o4, f4⟩ := st_ex (hw (.exactly (.static "BellCores$Outcome" "WRONG" "LBellCores$Outcome;") "BellCores$Outcome") (List.mem_of_getElem? (i := 226) (by decide +kernel)))
  obtain ⟨o5, f5⟩ := st_ex (hw (.exactly (.static "BellCores$Outcome" "REFUSED" "LBellCores$Outcome;") "BellCores$Outcome") (List.mem_of_getElem? (i := 228) (by decide +kernel)))
  obtain ⟨o3, f3⟩ := st_ex (hw (.exactly (.static "BellCores$Outcome" "FINE" "LBellCores$Outcome;") "BellCores$Outcome") (List.mem_of_getElem? (i := 231) (by decide +kernel)))
  have n45 : o4 ≠ o5 := st_ne (hw (.not (.eq (.static "BellCores$Outcome" "WRONG" "LBellCores$Outcome;") (.static "BellCores$Outcome" "REFUSED" "LBellCores$Outcome;"))) (List.mem_of_getElem? (i := 230) (by decide +kernel))) f4 f5
  have n43 : o4 ≠ o3 := st_ne (hw (.not (.eq (.static "BellCores$Outcome" "WRONG" "LBellCores$Outcome;") (.static "BellCores$Outcome" "FINE" "LBellCores$Outcome;"))) (List.mem_of_getElem? (i := 233) (by decide +kernel))) f4 f3
  have n53 : o5 ≠ o3 := st_ne (hw (.not (.eq (.static "BellCores$Outcome" "REFUSED" "LBellCores$Outcome;") (.static "BellCores$Outcome" "FINE" "LBellCores$Outcome;"))) (List.mem_of_getElem? (i := 234) (by decide +kernel))) f5 f3
  obtain ⟨v7, f7, r7⟩ := st_rf (hw (.isRef (.static "jdk/internal/util/Preconditions" "SIOOBE_FORMATTER" "Ljava/util/function/BiFunction;")) (List.mem_of_getElem? (i := 16) (by decide +kernel)))
  have c1 := va_eqi (hw (.eq (.static "java/lang/String" "COMPACT_STRINGS" "Z") (.int 1)) (List.mem_of_getElem? (i := 2) (by decide +kernel)))
  refine ⟨(l, s, (#[Value.ref b], D), tys, (fun j => match j with
    | 0 => .ref t0
    | 1 => .ref t1
    | 2 => .ref t2
    | 3 => .ref o3
    | 4 => .ref o4
    | 5 => .ref o5
    | 6 => .ref b
    | 7 => v7
    | _ => .null), L, xs), rfl, rfl, rfl, rfl, rfl, hts, hK, hty, ?_, ?_, ?_, ?_, ?_, ?_, ?_, hl, fun own text k h => st_sr (hts _ h), ?_⟩
  · intro j t n f h
    match j, h with
    | 0, h =>
      have h : some (0, 8, stepsF) = some (t, n, f) := h
      cases h
      exact ⟨t0, .int, rfl, rfl, T0⟩
    | 1, h =>
      have h : some (3, 100, onesF) = some (t, n, f) := h
      cases h
      exact ⟨t1, .byte, rfl, rfl, T1⟩
    | 2, h =>
      have h : some (3, 100, tensF) = some (t, n, f) := h
      cases h
      exact ⟨t2, .byte, rfl, rfl, T2⟩
    | 3, h => exact nomatch (show (none : Option (Nat × Nat × (Nat → Int32))) = some (t, n, f) from h)
    | 4, h => exact nomatch (show (none : Option (Nat × Nat × (Nat → Int32))) = some (t, n, f) from h)
    | 5, h => exact nomatch (show (none : Option (Nat × Nat × (Nat → Int32))) = some (t, n, f) from h)
    | 6, h =>
      have h : some (0, L, xs) = some (t, n, f) := h
      cases h
      exact ⟨b, .int, rfl, rfl, st_X hX (hA b hbl)⟩
    | j + 7, h => exact nomatch (show (none : Option (Nat × Nat × (Nat → Int32))) = some (t, n, f) from h)
  · intro j
    match j with
    | 0 => exact Or.inr ⟨_, rfl⟩
    | 1 => exact Or.inr ⟨_, rfl⟩
    | 2 => exact Or.inr ⟨_, rfl⟩
    | 3 => exact Or.inr ⟨_, rfl⟩
    | 4 => exact Or.inr ⟨_, rfl⟩
    | 5 => exact Or.inr ⟨_, rfl⟩
    | 6 => exact Or.inr ⟨_, rfl⟩
    | 7 => exact r7
    | j + 8 => exact Or.inl rfl
  · intro i h1 h2
    have : i = 3 ∨ i = 4 ∨ i = 5 := by omega
    rcases this with rfl | rfl | rfl
    · exact ⟨_, rfl⟩
    · exact ⟨_, rfl⟩
    · exact ⟨_, rfl⟩
  · intro i j h1 h2 h3 h4 h
    have hi : i = 3 ∨ i = 4 ∨ i = 5 := by omega
    have hj : j = 3 ∨ j = 4 ∨ j = 5 := by omega
    rcases hi with rfl | rfl | rfl <;> rcases hj with rfl | rfl | rfl
    · rfl
    · exact absurd (Value.ref.inj (show Value.ref o3 = .ref o4 from h)).symm n43
    · exact absurd (Value.ref.inj (show Value.ref o3 = .ref o5 from h)).symm n53
    · exact absurd (Value.ref.inj (show Value.ref o4 = .ref o3 from h)) n43
    · rfl
    · exact absurd (Value.ref.inj (show Value.ref o4 = .ref o5 from h)) n45
    · exact absurd (Value.ref.inj (show Value.ref o5 = .ref o3 from h)) n53
    · exact absurd (Value.ref.inj (show Value.ref o5 = .ref o4 from h)).symm n45
    · rfl
  · exact fa_cons ⟨.ref t0, rfl, va_Zof (hts (.laysStatic "BellCores" "STEPS" "[I") (List.mem_append_right _ (List.mem_of_getElem? (i := 366) (by decide +kernel)))) (hts (.initialized "BellCores") (List.mem_append_right _ (List.mem_of_getElem? (i := 1) (by decide +kernel)))) e0 hA⟩
      (fa_cons ⟨.ref t1, rfl, va_Zof (hts (.laysStatic "java/lang/Integer" "DigitOnes" "[B") (List.mem_append_right _ (List.mem_of_getElem? (i := 1074) (by decide +kernel)))) (hts (.initialized "java/lang/Integer") (List.mem_append_right _ (List.mem_of_getElem? (i := 30) (by decide +kernel)))) e1 hA⟩
      (fa_cons ⟨.ref t2, rfl, va_Zof (hts (.laysStatic "java/lang/Integer" "DigitTens" "[B") (List.mem_append_right _ (List.mem_of_getElem? (i := 1076) (by decide +kernel)))) (hts (.initialized "java/lang/Integer") (List.mem_append_right _ (List.mem_of_getElem? (i := 30) (by decide +kernel)))) e2 hA⟩
      (fa_cons ⟨.ref o3, rfl, va_Zof (hts (.laysStatic "BellCores$Outcome" "FINE" "LBellCores$Outcome;") (List.mem_append_right _ (List.mem_of_getElem? (i := 1339) (by decide +kernel)))) (hts (.initialized "BellCores$Outcome") (List.mem_append_right _ (List.mem_of_getElem? (i := 33) (by decide +kernel)))) f3 hA⟩
      (fa_cons ⟨.ref o4, rfl, va_Zof (hts (.laysStatic "BellCores$Outcome" "WRONG" "LBellCores$Outcome;") (List.mem_append_right _ (List.mem_of_getElem? (i := 1331) (by decide +kernel)))) (hts (.initialized "BellCores$Outcome") (List.mem_append_right _ (List.mem_of_getElem? (i := 33) (by decide +kernel)))) f4 hA⟩
      (fa_cons ⟨.ref o5, rfl, va_Zof (hts (.laysStatic "BellCores$Outcome" "REFUSED" "LBellCores$Outcome;") (List.mem_append_right _ (List.mem_of_getElem? (i := 1337) (by decide +kernel)))) (hts (.initialized "BellCores$Outcome") (List.mem_append_right _ (List.mem_of_getElem? (i := 33) (by decide +kernel)))) f5 hA⟩
      (fa_cons ⟨.int 1, rfl, va_Zof (hts (.laysStatic "java/lang/String" "COMPACT_STRINGS" "Z") (List.mem_append_right _ (List.mem_of_getElem? (i := 217) (by decide +kernel)))) (hts (.initialized "java/lang/String") (List.mem_append_right _ (List.mem_of_getElem? (i := 12) (by decide +kernel)))) c1 hA⟩
      (fa_cons ⟨v7, rfl, va_Zof (hts (.laysStatic "jdk/internal/util/Preconditions" "SIOOBE_FORMATTER" "Ljava/util/function/BiFunction;") (List.mem_append_right _ (List.mem_of_getElem? (i := 1004) (by decide +kernel)))) (hts (.initialized "jdk/internal/util/Preconditions") (List.mem_append_right _ (List.mem_of_getElem? (i := 27) (by decide +kernel)))) f7 hA⟩ fa_nil)))))))
  · exact vx_Zqof (hts (.laysStatic "java/lang/Throwable" "UNASSIGNED_STACK" "[Ljava/lang/StackTraceElement;") (List.mem_append_right _ (List.mem_of_getElem? (i := 449) (by decide +kernel)))) (hts (.initialized "java/lang/Throwable") (List.mem_append_right _ (List.mem_of_getElem? (i := 15) (by decide +kernel)))) (hw (.isRef (.static "java/lang/Throwable" "UNASSIGNED_STACK" "[Ljava/lang/StackTraceElement;")) (List.mem_of_getElem? (i := 14) (by decide +kernel))) hA
  · exact vx_Zqof (hts (.laysStatic "java/lang/Throwable" "SUPPRESSED_SENTINEL" "Ljava/util/List;") (List.mem_append_right _ (List.mem_of_getElem? (i := 451) (by decide +kernel)))) (hts (.initialized "java/lang/Throwable") (List.mem_append_right _ (List.mem_of_getElem? (i := 15) (by decide +kernel)))) (hw (.isRef (.static "java/lang/Throwable" "SUPPRESSED_SENTINEL" "Ljava/util/List;")) (List.mem_of_getElem? (i := 15) (by decide +kernel))) hA
  · exact fa_cons (va_Nc.of (hw (.not (.castable "java/lang/UnsupportedOperationException" "java/lang/IllegalArgumentException")) (List.mem_of_getElem? (i := 245) (by decide +kernel)))) (fa_cons (va_Nc.of (hw (.not (.castable "java/lang/IllegalArgumentException" "java/lang/IndexOutOfBoundsException")) (List.mem_of_getElem? (i := 283) (by decide +kernel)))) (fa_cons (va_Nc.of (hw (.not (.castable "java/lang/UnsupportedOperationException" "java/lang/IndexOutOfBoundsException")) (List.mem_of_getElem? (i := 284) (by decide +kernel)))) fa_nil))
