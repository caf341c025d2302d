/-! ===== what the law is given at its start ===== -/
theorem clm0 : ∀ w ∈ u_ws RJ0 TJ0 4, w ∈ lw_tbl := (fa_cons (List.mem_append_right _ (List.mem_of_getElem? (i := 594) (by decide +kernel))) (fa_cons (List.mem_append_right _ (List.mem_of_getElem? (i := 596) (by decide +kernel))) (fa_cons (List.mem_append_right _ (List.mem_of_getElem? (i := 1143) (by decide +kernel))) (fa_cons (List.mem_append_right _ (List.mem_of_getElem? (i := 1145) (by decide +kernel))) fa_nil))))
theorem clm2 : ∀ w ∈ u_ws RJx00060 TJx00060 6, w ∈ lw_tbl := (fa_cons (List.mem_append_right _ (List.mem_of_getElem? (i := 582) (by decide +kernel))) (fa_cons (List.mem_append_right _ (List.mem_of_getElem? (i := 583) (by decide +kernel))) (fa_cons (List.mem_append_right _ (List.mem_of_getElem? (i := 584) (by decide +kernel))) (fa_cons (List.mem_append_right _ (List.mem_of_getElem? (i := 585) (by decide +kernel))) (fa_cons (List.mem_append_right _ (List.mem_of_getElem? (i := 586) (by decide +kernel))) (fa_cons (List.mem_append_right _ (List.mem_of_getElem? (i := 587) (by decide +kernel))) fa_nil))))))
theorem clm3 : ∀ w ∈ u_ws RJx7c733 TJx7c733 6, w ∈ lw_tbl := (fa_cons (List.mem_append_right _ (List.mem_of_getElem? (i := 1149) (by decide +kernel))) (fa_cons (List.mem_append_right _ (List.mem_of_getElem? (i := 1150) (by decide +kernel))) (fa_cons (List.mem_append_right _ (List.mem_of_getElem? (i := 1151) (by decide +kernel))) (fa_cons (List.mem_append_right _ (List.mem_of_getElem? (i := 1152) (by decide +kernel))) (fa_cons (List.mem_append_right _ (List.mem_of_getElem? (i := 1153) (by decide +kernel))) (fa_cons (List.mem_append_right _ (List.mem_of_getElem? (i := 1154) (by decide +kernel))) fa_nil))))))
theorem st_cl {A : Array Value} {s : State} (hts : ∀ w ∈ lw_tbl, w.before A s = true) : ∀ c : Nat, ∃ r : ClassId × (Nat → Nat), ∀ q, vwCl[c]? = some q → u_Kn s q.1 q.2.1 q.2.2 r.1 r.2 := by
  intro c
  match c with
  | 0 =>
    obtain ⟨cC, iS, h⟩ := u_known (C := RJ0) (T := TJ0) (N := 4) (n := 4) hts clm0 (hts _ (List.mem_append_right _ (List.mem_of_getElem? (i := 593) (by decide +kernel))))
    exact ⟨(cC, iS), fun q hq => by cases hq; exact h⟩
  | 1 =>
    obtain ⟨cC, iS, h⟩ := u_known (C := RJ4) (T := TJ4) (N := 4) (n := 4) hts clm1 (hts _ (List.mem_append_right _ (List.mem_of_getElem? (i := 208) (by decide +kernel))))
    exact ⟨(cC, iS), fun q hq => by cases hq; exact h⟩
  | 2 =>
    obtain ⟨cC, iS, h⟩ := u_known (C := RJx00060) (T := TJx00060) (N := 6) (n := 6) hts clm2 (hts _ (List.mem_append_right _ (List.mem_of_getElem? (i := 575) (by decide +kernel))))
    exact ⟨(cC, iS), fun q hq => by cases hq; exact h⟩
  | 3 =>
    obtain ⟨cC, iS, h⟩ := u_known (C := RJx7c733) (T := TJx7c733) (N := 6) (n := 6) hts clm3 (hts _ (List.mem_append_right _ (List.mem_of_getElem? (i := 937) (by decide +kernel))))
    exact ⟨(cC, iS), fun q hq => by cases hq; exact h⟩
  | 4 =>
    obtain ⟨cC, iS, h⟩ := u_known (C := RX0) (T := TX0) (N := 10) (n := 10) hts clm4 (hts _ (List.mem_append_right _ (List.mem_of_getElem? (i := 44) (by decide +kernel))))
    exact ⟨(cC, iS), fun q hq => by cases hq; exact h⟩
  | 5 =>
    obtain ⟨cC, iS, h⟩ := u_known (C := RX1) (T := TX1) (N := 1) (n := 1) hts clm5 (hts _ (List.mem_append_right _ (List.mem_of_getElem? (i := 169) (by decide +kernel))))
    exact ⟨(cC, iS), fun q hq => by cases hq; exact h⟩
  | 6 =>
    obtain ⟨cC, iS, h⟩ := u_known (C := RX2) (T := TX2) (N := 3) (n := 3) hts clm6 (hts _ (List.mem_append_right _ (List.mem_of_getElem? (i := 113) (by decide +kernel))))
    exact ⟨(cC, iS), fun q hq => by cases hq; exact h⟩
  | 7 =>
    obtain ⟨cC, iS, h⟩ := u_known (C := RX4) (T := TX4) (N := 7) (n := 7) hts clm7 (hts _ (List.mem_append_right _ (List.mem_of_getElem? (i := 180) (by decide +kernel))))
    exact ⟨(cC, iS), fun q hq => by cases hq; exact h⟩
  | 8 =>
    obtain ⟨cC, iS, h⟩ := u_known (C := RX5) (T := TX5) (N := 2) (n := 2) hts clm8 (hts _ (List.mem_append_right _ (List.mem_of_getElem? (i := 131) (by decide +kernel))))
    exact ⟨(cC, iS), fun q hq => by cases hq; exact h⟩
  | 9 =>
    obtain ⟨cC, iS, h⟩ := u_known (C := RX6) (T := TX6) (N := 4) (n := 4) hts clm9 (hts _ (List.mem_append_right _ (List.mem_of_getElem? (i := 50) (by decide +kernel))))
    exact ⟨(cC, iS), fun q hq => by cases hq; exact h⟩
  | 10 =>
    obtain ⟨cC, iS, h⟩ := u_known (C := RX7) (T := TX7) (N := 4) (n := 4) hts clm10 (hts _ (List.mem_append_right _ (List.mem_of_getElem? (i := 146) (by decide +kernel))))
    exact ⟨(cC, iS), fun q hq => by cases hq; exact h⟩
  | 11 =>
    obtain ⟨cC, iS, h⟩ := u_known (C := RX8) (T := TX8) (N := 10) (n := 10) hts clm11 (hts _ (List.mem_append_right _ (List.mem_of_getElem? (i := 36) (by decide +kernel))))
    exact ⟨(cC, iS), fun q hq => by cases hq; exact h⟩
  | 12 =>
    obtain ⟨cC, iS, h⟩ := u_known (C := RX9) (T := TX9) (N := 19) (n := 19) hts clm12 (hts _ (List.mem_append_right _ (List.mem_of_getElem? (i := 1435) (by decide +kernel))))
    exact ⟨(cC, iS), fun q hq => by cases hq; exact h⟩
  | n + 13 => exact ⟨(0, fun _ => 0), fun q hq => by simp at hq⟩
theorem st_ar {A : Array Value} {s : State} {ty : FieldType} (h : (Cond.arrayClass ty).before A s = true) : ∃ cA : ClassId, s.vm.findClass ("[" ++ ty.toString) = some cA ∧ ((∀ C, ty ≠ .object C) → ArrOfT s cA ty) ∧ ArrOfT s cA ty := by
  obtain ⟨cA, kA, comp, h1, h2, h3⟩ := Cond.arrayClass_spec h
  have e : ArrOfT s cA ty := fun n z => ⟨(fun k h => by cases h), kA, h2, comp, h3⟩
  exact ⟨cA, h1, fun _ => e, e⟩
theorem st_ao {A : Array Value} {s : State} {C : String} (h : (Cond.arrayOver (.object C)).before A s = true) : ∃ cA : ClassId, ArrOfT s cA (.object C) ∧ va_RA s cA (.object C) := by
  obtain ⟨comp, cA, kA, h1, -, h2, h3, h4⟩ := Cond.arrayOver_spec h
  exact ⟨cA, fun n z => ⟨(fun k h => by cases h), kA, h2, comp, h3⟩, kA, comp, h2, h3, h1, h4⟩
theorem st_K {A : Array Value} {s : State} (hts : ∀ w ∈ lw_tbl, w.before A s = true) : ∃ (D : va_G) (tys : List (ClassId × FieldType)), va_K D vwCl tys s ∧ tys.map (·.2) = kTy := by
  obtain ⟨c0, nc0, -, ec0⟩ := st_ar (hts (.arrayClass .int) (List.mem_append_right _ (List.mem_of_getElem? (i := 71) (by decide +kernel))))
  obtain ⟨c1, nc1, -, ec1⟩ := st_ar (hts (.arrayClass .boolean) (List.mem_append_right _ (List.mem_of_getElem? (i := 178) (by decide +kernel))))
  obtain ⟨c2, nc2, -, ec2⟩ := st_ar (hts (.arrayClass .char) (List.mem_append_right _ (List.mem_of_getElem? (i := 167) (by decide +kernel))))
  obtain ⟨c3, nc3, -, ec3⟩ := st_ar (hts (.arrayClass .byte) (List.mem_append_right _ (List.mem_of_getElem? (i := 239) (by decide +kernel))))
  obtain ⟨c4, nc4, -, ec4⟩ := st_ar (hts (.arrayClass .long) (List.mem_append_right _ (List.mem_of_getElem? (i := 1821) (by decide +kernel))))
  obtain ⟨c5, nc5, -, ec5⟩ := st_ar (hts (.arrayClass .double) (List.mem_append_right _ (List.mem_of_getElem? (i := 1822) (by decide +kernel))))
  obtain ⟨c6, e6, n6⟩ := st_ao (hts (.arrayOver (.object RX0)) (List.mem_append_right _ (List.mem_of_getElem? (i := 119) (by decide +kernel))))
  refine ⟨(fun c => (Classical.choose (st_cl hts c)).1, fun c => (Classical.choose (st_cl hts c)).2), [(c0, .int), (c1, .boolean), (c2, .char), (c3, .byte), (c4, .long), (c5, .double), (c6, .object RX0)], ⟨fun c q hq => Classical.choose_spec (st_cl hts c) q hq, fun k q hq => ?_⟩, rfl⟩
  match k, hq with
  | 0, hq => cases hq; exact ⟨ec0, nc0⟩
  | 1, hq => cases hq; exact ⟨ec1, nc1⟩
  | 2, hq => cases hq; exact ⟨ec2, nc2⟩
  | 3, hq => cases hq; exact ⟨ec3, nc3⟩
  | 4, hq => cases hq; exact ⟨ec4, nc4⟩
  | 5, hq => cases hq; exact ⟨ec5, nc5⟩
  | 6, hq => cases hq; exact ⟨e6, n6⟩
  | k + 7, hq => simp at hq
theorem st_ne {A : Array Value} {s : State} {t u : Term} {a c : Nat} (h : (Cond.not (.eq t u)).before A s = true) (h1 : t.eval A s none [] s = some (.ref a)) (h2 : u.eval A s none [] s = some (.ref c)) : a ≠ c := by
  intro e
  subst e
  simp [Cond.before, Cond.holds, Cond.value, h1, h2] at h
theorem st_rf {A : Array Value} {s : State} {t : Term} (h : (Cond.isRef t).before A s = true) : ∃ v, t.eval A s none [] s = some v ∧ (v = .null ∨ ∃ a, v = .ref a) := by
  cases hv : t.eval A s none [] s with
  | none => simp [Cond.before, Cond.holds, Cond.value, hv] at h
  | some w =>
    simp only [Cond.before, Cond.holds, Cond.value, hv] at h
    cases w with
    | null => exact ⟨_, rfl, Or.inl rfl⟩
    | ref t => exact ⟨_, rfl, Or.inr ⟨t, rfl⟩⟩
    | _ => simp at h
theorem st_ex {A : Array Value} {s : State} {t : Term} {nm : String} (h : (Cond.exactly t nm).before A s = true) : ∃ a, t.eval A s none [] s = some (.ref a) := by
  obtain ⟨a, c, cA, kA, q1, -⟩ := Cond.exactly_spec (args := A) (first := s) (o := none) (s := s) (idx := []) (t := t) (cls := nm) h
  exact ⟨a, q1⟩
theorem st_sr {A : Array Value} {s : State} {own text : String} {k : Nat} (h : (Cond.stringRef own k text).before A s = true) : ∃ sa, vk_R own k text sa s := by
  cases hc : s.vm.findClass own with
  | none => simp [Cond.before, Cond.holds, Cond.value, State.names, State.poolOf?, hc] at h
  | some cur =>
    obtain ⟨-, -, -, a, -, -, -, -, -, he⟩ := Cond.stringRef_spec (args := A) (first := s) (o := none) (s := s) (idx := []) hc h
    exact ⟨a, vk_R.of h he⟩
abbrev stW : List Cond := flatC narrow_1_1
def stvC (C n d : String) (f : Nat → Int32) (j : Nat) : Cond := Cond.eq (.elem (.static C n d) (.int (Int32.ofNat j))) (.int (f j))
theorem stvL0 : (stW.drop 6).take 8 = (List.range 8).map (stvC "BellCores" "STEPS" "[I" stepsF) := by decide +kernel
theorem stvL1 : (stW.drop 23).take 100 = (List.range 100).map (stvC "java/lang/Integer" "DigitOnes" "[B" onesF) := by decide +kernel
theorem stvL2 : (stW.drop 126).take 100 = (List.range 100).map (stvC "java/lang/Integer" "DigitTens" "[B" tensF) := by decide +kernel
theorem stv_in {l : List Cond} {a n : Nat} {C nm d : String} {f : Nat → Int32} (h : (l.drop a).take n = (List.range n).map (stvC C nm d f)) {j : Nat} (hj : j < n) : stvC C nm d f j ∈ l :=
  List.mem_of_mem_drop (List.mem_of_mem_take (by rw [h]; exact List.mem_map.mpr ⟨j, List.mem_range.mpr hj, rfl⟩))
/-- a static row of numbers -/
theorem st_row {A : Array Value} {s : State} {C nm d : String} {ty : FieldType} {n a : Nat} {f : Nat → Int32} {B : Nat → Prop} (hn : n < 2 ^ 31) (hw : ∀ c ∈ stW, c.before A s = true) (harr : Cond.arrayOf (.static C nm d) ty ∈ stW) (hlen : Cond.eq (.length (.static C nm d)) (.int (Int32.ofNat n)) ∈ stW) (h : (stW.drop a).take n = (List.range n).map (stvC C nm d f)) (hA : ∀ q : Nat, q < s.heap.size → ¬ B q) :
    ∃ t : Nat, (Term.static C nm d).eval A s none [] s = some (.ref t) ∧ va_T ty t n (fun j => .int (f j)) B s s.heap :=
  va_Tof (f := fun j => .int (f j)) hn (hw _ harr) (va_eqt (hw _ hlen)) (fun j hj => va_eqt (hw _ (stv_in h hj))) hA
