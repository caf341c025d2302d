/-! ===== Foundry: its world; methods without loops ===== -/
abbrev tT : Type := Nat × (Nat → Int32)
abbrev fT : Type := tT × tT × tT × Int32 × Int32 × Int32 × Int32 × Int32 × Int32 × Int32
abbrev fT.M (F : fT) : tT := F.1
abbrev fT.R (F : fT) : tT := F.2.1
abbrev fT.B (F : fT) : tT := F.2.2.1
abbrev fT.h (F : fT) : Int32 := F.2.2.2.1
abbrev fT.p (F : fT) : Int32 := F.2.2.2.2.1
abbrev fT.br (F : fT) : Int32 := F.2.2.2.2.2.1
abbrev fT.lo (F : fT) : Int32 := F.2.2.2.2.2.2.1
abbrev fT.ld (F : fT) : Int32 := F.2.2.2.2.2.2.2.1
abbrev fT.hr (F : fT) : Int32 := F.2.2.2.2.2.2.2.2.1
abbrev fT.po (F : fT) : Int32 := F.2.2.2.2.2.2.2.2.2
abbrev fmk (M R B : tT) (h p br lo ld hr po : Int32) : fT := (M, R, B, h, p, br, lo, ld, hr, po)
/-- a bell's column, a mould's, a rack's -/
abbrev fT.b (F : fT) (i j : Nat) : Int32 := F.B.2 (i * 8 + j)
abbrev fT.m (F : fT) (i j : Nat) : Int32 := F.M.2 (i * 2 + j)
abbrev fT.r (F : fT) (i : Nat) : Int32 := F.R.2 (i * 1 + 0)
def fB (F : fT) : Prop := F.M.1 ≤ 8 ∧ F.R.1 ≤ 4 ∧ F.B.1 ≤ 12
def fw (F : fT) : xW := [.inr (4, [.ref 1, .ref 3, .ref 5, .int F.h, .int F.p, .int F.br, .int F.lo, .int F.ld, .int F.hr, .int F.po]), .inr (9, [.int (nI 8), .int (nI 2), .ref 2, .int (nI F.M.1)]), .inl (0, 8 * 2, .inl F.M.2), .inr (9, [.int (nI 4), .int (nI 1), .ref 4, .int (nI F.R.1)]), .inl (0, 4 * 1, .inl F.R.2), .inr (9, [.int (nI 12), .int (nI 8), .ref 6, .int (nI F.B.1)]), .inl (0, 12 * 8, .inl F.B.2)]
/-- with a refusal behind it -/
def fwr (F : fT) (a b : Int32) : xW := [.inr (4, [.ref 1, .ref 3, .ref 5, .int F.h, .int F.p, .int F.br, .int F.lo, .int F.ld, .int F.hr, .int F.po]), .inr (9, [.int (nI 8), .int (nI 2), .ref 2, .int (nI F.M.1)]), .inl (0, 8 * 2, .inl F.M.2), .inr (9, [.int (nI 4), .int (nI 1), .ref 4, .int (nI F.R.1)]), .inl (0, 4 * 1, .inl F.R.2), .inr (9, [.int (nI 12), .int (nI 8), .ref 6, .int (nI F.B.1)]), .inl (0, 12 * 8, .inl F.B.2), .inr (8, [.int a, .int b])]
/-- two of them -/
def fw2 (F E : fT) : xW := [.inr (4, [.ref 1, .ref 3, .ref 5, .int F.h, .int F.p, .int F.br, .int F.lo, .int F.ld, .int F.hr, .int F.po]), .inr (9, [.int (nI 8), .int (nI 2), .ref 2, .int (nI F.M.1)]), .inl (0, 8 * 2, .inl F.M.2), .inr (9, [.int (nI 4), .int (nI 1), .ref 4, .int (nI F.R.1)]), .inl (0, 4 * 1, .inl F.R.2), .inr (9, [.int (nI 12), .int (nI 8), .ref 6, .int (nI F.B.1)]), .inl (0, 12 * 8, .inl F.B.2),
  .inr (4, [.ref 8, .ref 10, .ref 12, .int E.h, .int E.p, .int E.br, .int E.lo, .int E.ld, .int E.hr, .int E.po]), .inr (9, [.int (nI 8), .int (nI 2), .ref 9, .int (nI E.M.1)]), .inl (0, 8 * 2, .inl E.M.2), .inr (9, [.int (nI 4), .int (nI 1), .ref 11, .int (nI E.R.1)]), .inl (0, 4 * 1, .inl E.R.2), .inr (9, [.int (nI 12), .int (nI 8), .ref 13, .int (nI E.B.1)]), .inl (0, 12 * 8, .inl E.B.2)]
abbrev fcp (F E : fT) : fT := fmk (E.M.1, cpf F.M.2 E.M.2 (E.M.1 * 2)) (E.R.1, cpf F.R.2 E.R.2 (E.R.1 * 1)) (E.B.1, cpf F.B.2 E.B.2 (E.B.1 * 8)) E.h E.p E.br E.lo E.ld E.hr E.po
section FF
variable {G : gT}
set_option maxRecDepth 20000 in
theorem fd_copy (hg : gOK G) (F E : fT) (hE : fB E) : Spec G 2 0 0 m_X0_copyFrom [.ref 0, .ref 7] (fw2 F E) (fun v w' => v = none ∧ w' = fw2 (fcp F E) E) NX := by
  obtain ⟨h1, h2, h3⟩ := hE
  refine wp_spec (M := M_X0_copyFrom) hg ok_X0_copyFrom cut0 90 rfl rfl ?_
  repeat' (first | refine And.intro ?_ ?_ | (with_reducible intro h9; exact absurd h9 (by simp only [cI, cN]; decide +kernel)) | with_reducible intro _ | exact (rfl : narrow _ _ = _) | decide)
  refine cc0 [1, 2, 8, 9] (tb_copy hg 8 2 F.M.1 E.M.1 F.M.2 E.M.2 h1 (by omega) (by omega) (by omega)) (by decide) (by decide) (by decide) rfl (by repeat' (first | exact trivial | refine And.intro ?_ ?_ | rfl)) (by first | rfl | (simp (discharger := omega) only [renVs, renV, rnI, cI, cN, ← nI_0, nI_ltI, nI_leI, nI_eq, nI_add, pk_mul, pk_sub, nI_clamp, vinI, not_true_eq_false, not_false_eq_true, iK0, iK1, iK2, iK3, iK4, iK5, iKm1, bK6, bK7, bK8, bK9, bK10, bK12, bK14, bK15, bK16, bK20, bK21, bK26, bK30, bK32, bK33, bK45, bK48, bK57, bK59, bK60, bK62, bK63, bK64, bK80, bK93, bK98, bK99, bK100, bK104, bK107, bK109, bK110, bK112, bK113, bK114, bK115, bK116, bK119, sK255, sK256, sK500, sK700, sK798, sK912, sK1400, sK2000])) ?_
  (rintro _ _ ⟨rfl, rfl⟩) <;> (repeat' (first | refine And.intro ?_ ?_ | (with_reducible intro h9; exact absurd h9 (by simp only [cI, cN]; decide +kernel)) | with_reducible intro _ | exact (rfl : narrow _ _ = _) | decide))
  refine cc0 [3, 4, 10, 11] (tb_copy hg 4 1 F.R.1 E.R.1 F.R.2 E.R.2 h2 (by omega) (by omega) (by omega)) (by decide) (by decide) (by decide) rfl (by repeat' (first | exact trivial | refine And.intro ?_ ?_ | rfl)) (by first | rfl | (simp (discharger := omega) only [renVs, renV, rnI, cI, cN, ← nI_0, nI_ltI, nI_leI, nI_eq, nI_add, pk_mul, pk_sub, nI_clamp, vinI, not_true_eq_false, not_false_eq_true, iK0, iK1, iK2, iK3, iK4, iK5, iKm1, bK6, bK7, bK8, bK9, bK10, bK12, bK14, bK15, bK16, bK20, bK21, bK26, bK30, bK32, bK33, bK45, bK48, bK57, bK59, bK60, bK62, bK63, bK64, bK80, bK93, bK98, bK99, bK100, bK104, bK107, bK109, bK110, bK112, bK113, bK114, bK115, bK116, bK119, sK255, sK256, sK500, sK700, sK798, sK912, sK1400, sK2000])) ?_
  (rintro _ _ ⟨rfl, rfl⟩) <;> (repeat' (first | refine And.intro ?_ ?_ | (with_reducible intro h9; exact absurd h9 (by simp only [cI, cN]; decide +kernel)) | with_reducible intro _ | exact (rfl : narrow _ _ = _) | decide))
  refine cc0 [5, 6, 12, 13] (tb_copy hg 12 8 F.B.1 E.B.1 F.B.2 E.B.2 h3 (by omega) (by omega) (by omega)) (by decide) (by decide) (by decide) rfl (by repeat' (first | exact trivial | refine And.intro ?_ ?_ | rfl)) (by first | rfl | (simp (discharger := omega) only [renVs, renV, rnI, cI, cN, ← nI_0, nI_ltI, nI_leI, nI_eq, nI_add, pk_mul, pk_sub, nI_clamp, vinI, not_true_eq_false, not_false_eq_true, iK0, iK1, iK2, iK3, iK4, iK5, iKm1, bK6, bK7, bK8, bK9, bK10, bK12, bK14, bK15, bK16, bK20, bK21, bK26, bK30, bK32, bK33, bK45, bK48, bK57, bK59, bK60, bK62, bK63, bK64, bK80, bK93, bK98, bK99, bK100, bK104, bK107, bK109, bK110, bK112, bK113, bK114, bK115, bK116, bK119, sK255, sK256, sK500, sK700, sK798, sK912, sK1400, sK2000])) ?_
  (rintro _ _ ⟨rfl, rfl⟩) <;> (repeat' (first | refine And.intro ?_ ?_ | (with_reducible intro h9; exact absurd h9 (by simp only [cI, cN]; decide +kernel)) | with_reducible intro _ | exact (rfl : narrow _ _ = _) | decide))
  all_goals rfl
set_option maxRecDepth 20000 in
theorem fd_coal (hg : gOK G) (F : fT) (x : Int32) : Spec G 2 0 0 m_X0_burnCoal [.ref 0, .int x] (fw F) (fun v w' => v = none ∧ w' = fw (fmk F.M F.R F.B (if F.h + nI 30 * x < nI 1400 then F.h + nI 30 * x else nI 1400) F.p F.br F.lo (F.ld + x) F.hr F.po)) NX := by
  refine wp_spec (M := M_X0_burnCoal) hg ok_X0_burnCoal cut0 60 rfl rfl ?_
  repeat' (first | refine And.intro ?_ ?_ | (with_reducible intro h9; exact absurd h9 (by simp only [cI, cN]; decide +kernel)) | with_reducible intro _ | exact (rfl : narrow _ _ = _) | decide)
  all_goals first | rfl | decide
set_option maxRecDepth 20000 in
theorem fd_refP (hg : gOK G) (F : fT) (x a b : Int32) : Spec G 2 0 0 m_X0_refusesPounds [.ref 0, .int x, .ref 7] (fwr F a b) (fun v w' => (¬ F.p + x ≤ nI 2000 ∧ v = some (.int (nI 1)) ∧ w' = fwr F (nI 1) (nI 2000)) ∨ (F.p + x ≤ nI 2000 ∧ v = some (.int (nI 0)) ∧ w' = fwr F a b)) NX := by
  refine wp_spec (M := M_X0_refusesPounds) hg ok_X0_refusesPounds cut0 60 rfl rfl ?_
  repeat' (first | refine And.intro ?_ ?_ | (with_reducible intro h9; exact absurd h9 (by simp only [cI, cN]; decide +kernel)) | with_reducible intro _ | exact (rfl : narrow _ _ = _) | decide)
  · rename_i h; refine Or.inr ?_; exact ⟨h, rfl, rfl⟩
  · rename_i h
    refine cc0 [7] (rf_keep hg a b _ _) (by decide) (by decide) (by decide) rfl (by repeat' (first | exact trivial | refine And.intro ?_ ?_ | rfl)) (by first | rfl | (simp (discharger := omega) only [renVs, renV, rnI, cI, cN, ← nI_0, nI_ltI, nI_leI, nI_eq, nI_add, pk_mul, pk_sub, nI_clamp, vinI, not_true_eq_false, not_false_eq_true, iK0, iK1, iK2, iK3, iK4, iK5, iKm1, bK6, bK7, bK8, bK9, bK10, bK12, bK14, bK15, bK16, bK20, bK21, bK26, bK30, bK32, bK33, bK45, bK48, bK57, bK59, bK60, bK62, bK63, bK64, bK80, bK93, bK98, bK99, bK100, bK104, bK107, bK109, bK110, bK112, bK113, bK114, bK115, bK116, bK119, sK255, sK256, sK500, sK700, sK798, sK912, sK1400, sK2000])) ?_
    (rintro _ _ ⟨rfl, rfl⟩) <;> (repeat' (first | refine And.intro ?_ ?_ | (with_reducible intro h9; exact absurd h9 (by simp only [cI, cN]; decide +kernel)) | with_reducible intro _ | exact (rfl : narrow _ _ = _) | decide))
    · refine Or.inl ?_; exact ⟨h, rfl, rfl⟩
set_option maxRecDepth 20000 in
theorem fd_bronze (hg : gOK G) (F : fT) (x : Int32) : Spec G 1 0 0 m_X0_bringBronze [.ref 0, .int x] (fw F) (fun v w' => v = none ∧ w' = fw (fmk F.M F.R F.B F.h (F.p + x) (F.br + x) F.lo F.ld F.hr F.po)) NX := by
  refine wp_spec (M := M_X0_bringBronze) hg ok_X0_bringBronze cut0 60 rfl rfl ?_
  repeat' (first | refine And.intro ?_ ?_ | (with_reducible intro h9; exact absurd h9 (by simp only [cI, cN]; decide +kernel)) | with_reducible intro _ | exact (rfl : narrow _ _ = _) | decide)
  all_goals rfl
set_option maxRecDepth 20000 in
theorem fd_refM (hg : gOK G) (F : fT) (hF : fB F) (a b : Int32) : Spec G 2 0 0 m_X0_refusesMould [.ref 0, .ref 7] (fwr F a b) (fun v w' => (F.M.1 = 8 ∧ v = some (.int (nI 1)) ∧ w' = fwr F (nI 1) (nI 8)) ∨ (F.M.1 < 8 ∧ v = some (.int (nI 0)) ∧ w' = fwr F a b)) NX := by
  obtain ⟨h1, h2, h3⟩ := hF
  refine wp_spec (M := M_X0_refusesMould) hg ok_X0_refusesMould cut0 60 rfl rfl ?_
  repeat' (first | refine And.intro ?_ ?_ | (with_reducible intro h9; exact absurd h9 (by simp only [cI, cN]; decide +kernel)) | with_reducible intro _ | exact (rfl : narrow _ _ = _) | decide)
  refine cc0 [1, 2] (tb_size hg 8 2 F.M.1 F.M.2) (by decide) (by decide) (by decide) rfl (by repeat' (first | exact trivial | refine And.intro ?_ ?_ | rfl)) (by first | rfl | (simp (discharger := omega) only [renVs, renV, rnI, cI, cN, ← nI_0, nI_ltI, nI_leI, nI_eq, nI_add, pk_mul, pk_sub, nI_clamp, vinI, not_true_eq_false, not_false_eq_true, iK0, iK1, iK2, iK3, iK4, iK5, iKm1, bK6, bK7, bK8, bK9, bK10, bK12, bK14, bK15, bK16, bK20, bK21, bK26, bK30, bK32, bK33, bK45, bK48, bK57, bK59, bK60, bK62, bK63, bK64, bK80, bK93, bK98, bK99, bK100, bK104, bK107, bK109, bK110, bK112, bK113, bK114, bK115, bK116, bK119, sK255, sK256, sK500, sK700, sK798, sK912, sK1400, sK2000])) ?_
  (rintro _ _ ⟨rfl, rfl⟩) <;> (repeat' (first | refine And.intro ?_ ?_ | (with_reducible intro h9; exact absurd h9 (by simp only [cI, cN]; decide +kernel)) | with_reducible intro _ | exact (rfl : narrow _ _ = _) | decide))
  · rename_i h; refine Or.inr ?_; exact ⟨by simpa (discharger := omega) only [cI, bK8, nI_ltI] using h, rfl, rfl⟩
  · rename_i h
    refine cc0 [7] (rf_keep hg a b _ _) (by decide) (by decide) (by decide) rfl (by repeat' (first | exact trivial | refine And.intro ?_ ?_ | rfl)) (by first | rfl | (simp (discharger := omega) only [renVs, renV, rnI, cI, cN, ← nI_0, nI_ltI, nI_leI, nI_eq, nI_add, pk_mul, pk_sub, nI_clamp, vinI, not_true_eq_false, not_false_eq_true, iK0, iK1, iK2, iK3, iK4, iK5, iKm1, bK6, bK7, bK8, bK9, bK10, bK12, bK14, bK15, bK16, bK20, bK21, bK26, bK30, bK32, bK33, bK45, bK48, bK57, bK59, bK60, bK62, bK63, bK64, bK80, bK93, bK98, bK99, bK100, bK104, bK107, bK109, bK110, bK112, bK113, bK114, bK115, bK116, bK119, sK255, sK256, sK500, sK700, sK798, sK912, sK1400, sK2000])) ?_
    (rintro _ _ ⟨rfl, rfl⟩) <;> (repeat' (first | refine And.intro ?_ ?_ | (with_reducible intro h9; exact absurd h9 (by simp only [cI, cN]; decide +kernel)) | with_reducible intro _ | exact (rfl : narrow _ _ = _) | decide))
    · exact Or.inl ⟨by have : ¬ F.M.1 < 8 := by simpa (discharger := omega) only [cN, bK8, nI_ltI] using h
                       omega, rfl, rfl⟩
set_option maxRecDepth 20000 in
theorem fd_refR (hg : gOK G) (F : fT) (hF : fB F) (a b : Int32) : Spec G 2 0 0 m_X0_refusesRack [.ref 0, .ref 7] (fwr F a b) (fun v w' => (F.R.1 = 4 ∧ v = some (.int (nI 1)) ∧ w' = fwr F (nI 1) (nI 4)) ∨ (F.R.1 < 4 ∧ v = some (.int (nI 0)) ∧ w' = fwr F a b)) NX := by
  obtain ⟨h1, h2, h3⟩ := hF
  refine wp_spec (M := M_X0_refusesRack) hg ok_X0_refusesRack cut0 60 rfl rfl ?_
  repeat' (first | refine And.intro ?_ ?_ | (with_reducible intro h9; exact absurd h9 (by simp only [cI, cN]; decide +kernel)) | with_reducible intro _ | exact (rfl : narrow _ _ = _) | decide)
  refine cc0 [3, 4] (tb_size hg 4 1 F.R.1 F.R.2) (by decide) (by decide) (by decide) rfl (by repeat' (first | exact trivial | refine And.intro ?_ ?_ | rfl)) (by first | rfl | (simp (discharger := omega) only [renVs, renV, rnI, cI, cN, ← nI_0, nI_ltI, nI_leI, nI_eq, nI_add, pk_mul, pk_sub, nI_clamp, vinI, not_true_eq_false, not_false_eq_true, iK0, iK1, iK2, iK3, iK4, iK5, iKm1, bK6, bK7, bK8, bK9, bK10, bK12, bK14, bK15, bK16, bK20, bK21, bK26, bK30, bK32, bK33, bK45, bK48, bK57, bK59, bK60, bK62, bK63, bK64, bK80, bK93, bK98, bK99, bK100, bK104, bK107, bK109, bK110, bK112, bK113, bK114, bK115, bK116, bK119, sK255, sK256, sK500, sK700, sK798, sK912, sK1400, sK2000])) ?_
  (rintro _ _ ⟨rfl, rfl⟩) <;> (repeat' (first | refine And.intro ?_ ?_ | (with_reducible intro h9; exact absurd h9 (by simp only [cI, cN]; decide +kernel)) | with_reducible intro _ | exact (rfl : narrow _ _ = _) | decide))
  · rename_i h; refine Or.inr ?_; exact ⟨by simpa (discharger := omega) only [cI, iK4, nI_ltI] using h, rfl, rfl⟩
  · rename_i h
    refine cc0 [7] (rf_keep hg a b _ _) (by decide) (by decide) (by decide) rfl (by repeat' (first | exact trivial | refine And.intro ?_ ?_ | rfl)) (by first | rfl | (simp (discharger := omega) only [renVs, renV, rnI, cI, cN, ← nI_0, nI_ltI, nI_leI, nI_eq, nI_add, pk_mul, pk_sub, nI_clamp, vinI, not_true_eq_false, not_false_eq_true, iK0, iK1, iK2, iK3, iK4, iK5, iKm1, bK6, bK7, bK8, bK9, bK10, bK12, bK14, bK15, bK16, bK20, bK21, bK26, bK30, bK32, bK33, bK45, bK48, bK57, bK59, bK60, bK62, bK63, bK64, bK80, bK93, bK98, bK99, bK100, bK104, bK107, bK109, bK110, bK112, bK113, bK114, bK115, bK116, bK119, sK255, sK256, sK500, sK700, sK798, sK912, sK1400, sK2000])) ?_
    (rintro _ _ ⟨rfl, rfl⟩) <;> (repeat' (first | refine And.intro ?_ ?_ | (with_reducible intro h9; exact absurd h9 (by simp only [cI, cN]; decide +kernel)) | with_reducible intro _ | exact (rfl : narrow _ _ = _) | decide))
    · exact Or.inl ⟨by have : ¬ F.R.1 < 4 := by simpa (discharger := omega) only [cN, iK4, nI_ltI] using h
                       omega, rfl, rfl⟩
set_option maxRecDepth 20000 in
theorem fd_mould (hg : gOK G) (F : fT) (hF : F.M.1 < 8) (x y : Int32) : Spec G 2 0 0 m_X0_makeMould [.ref 0, .int x, .int y] (fw F) (fun v w' => v = some (.int (nI F.M.1)) ∧ w' = fw (fmk (F.M.1 + 1, upd (upd (zer F.M.2 (F.M.1 * 2) ((F.M.1 + 1) * 2)) (F.M.1 * 2 + 0) x) (F.M.1 * 2 + 1) y) F.R F.B F.h F.p F.br F.lo F.ld F.hr F.po)) NX := by
  refine wp_spec (M := M_X0_makeMould) hg ok_X0_makeMould cut0 60 rfl rfl ?_
  repeat' (first | refine And.intro ?_ ?_ | (with_reducible intro h9; exact absurd h9 (by simp only [cI, cN]; decide +kernel)) | with_reducible intro _ | exact (rfl : narrow _ _ = _) | decide)
  refine cc0 [1, 2] (tb_add hg 8 2 F.M.1 F.M.2 hF (by omega) (by omega) (by omega)) (by decide) (by decide) (by decide) rfl (by repeat' (first | exact trivial | refine And.intro ?_ ?_ | rfl)) (by first | rfl | (simp (discharger := omega) only [renVs, renV, rnI, cI, cN, ← nI_0, nI_ltI, nI_leI, nI_eq, nI_add, pk_mul, pk_sub, nI_clamp, vinI, not_true_eq_false, not_false_eq_true, iK0, iK1, iK2, iK3, iK4, iK5, iKm1, bK6, bK7, bK8, bK9, bK10, bK12, bK14, bK15, bK16, bK20, bK21, bK26, bK30, bK32, bK33, bK45, bK48, bK57, bK59, bK60, bK62, bK63, bK64, bK80, bK93, bK98, bK99, bK100, bK104, bK107, bK109, bK110, bK112, bK113, bK114, bK115, bK116, bK119, sK255, sK256, sK500, sK700, sK798, sK912, sK1400, sK2000])) ?_
  (rintro _ _ ⟨rfl, rfl⟩) <;> (repeat' (first | refine And.intro ?_ ?_ | (with_reducible intro h9; exact absurd h9 (by simp only [cI, cN]; decide +kernel)) | with_reducible intro _ | exact (rfl : narrow _ _ = _) | decide))
  refine cc0 [1, 2] (tb_put hg 8 2 (F.M.1 + 1) F.M.1 0 _ x (by omega) (by omega) (by omega) (by omega) (by omega) (by omega)) (by decide) (by decide) (by decide) rfl (by repeat' (first | exact trivial | refine And.intro ?_ ?_ | rfl)) (by first | rfl | (simp (discharger := omega) only [renVs, renV, rnI, cI, cN, ← nI_0, nI_ltI, nI_leI, nI_eq, nI_add, pk_mul, pk_sub, nI_clamp, vinI, not_true_eq_false, not_false_eq_true, iK0, iK1, iK2, iK3, iK4, iK5, iKm1, bK6, bK7, bK8, bK9, bK10, bK12, bK14, bK15, bK16, bK20, bK21, bK26, bK30, bK32, bK33, bK45, bK48, bK57, bK59, bK60, bK62, bK63, bK64, bK80, bK93, bK98, bK99, bK100, bK104, bK107, bK109, bK110, bK112, bK113, bK114, bK115, bK116, bK119, sK255, sK256, sK500, sK700, sK798, sK912, sK1400, sK2000])) ?_
  (rintro _ _ ⟨rfl, rfl⟩) <;> (repeat' (first | refine And.intro ?_ ?_ | (with_reducible intro h9; exact absurd h9 (by simp only [cI, cN]; decide +kernel)) | with_reducible intro _ | exact (rfl : narrow _ _ = _) | decide))
  refine cc0 [1, 2] (tb_put hg 8 2 (F.M.1 + 1) F.M.1 1 _ y (by omega) (by omega) (by omega) (by omega) (by omega) (by omega)) (by decide) (by decide) (by decide) rfl (by repeat' (first | exact trivial | refine And.intro ?_ ?_ | rfl)) (by first | rfl | (simp (discharger := omega) only [renVs, renV, rnI, cI, cN, ← nI_0, nI_ltI, nI_leI, nI_eq, nI_add, pk_mul, pk_sub, nI_clamp, vinI, not_true_eq_false, not_false_eq_true, iK0, iK1, iK2, iK3, iK4, iK5, iKm1, bK6, bK7, bK8, bK9, bK10, bK12, bK14, bK15, bK16, bK20, bK21, bK26, bK30, bK32, bK33, bK45, bK48, bK57, bK59, bK60, bK62, bK63, bK64, bK80, bK93, bK98, bK99, bK100, bK104, bK107, bK109, bK110, bK112, bK113, bK114, bK115, bK116, bK119, sK255, sK256, sK500, sK700, sK798, sK912, sK1400, sK2000])) ?_
  (rintro _ _ ⟨rfl, rfl⟩) <;> (repeat' (first | refine And.intro ?_ ?_ | (with_reducible intro h9; exact absurd h9 (by simp only [cI, cN]; decide +kernel)) | with_reducible intro _ | exact (rfl : narrow _ _ = _) | decide))
  all_goals rfl
set_option maxRecDepth 20000 in
theorem fd_rack (hg : gOK G) (F : fT) (hF : F.R.1 < 4) (x : Int32) : Spec G 2 0 0 m_X0_setRack [.ref 0, .int x] (fw F) (fun v w' => v = some (.int (nI F.R.1)) ∧ w' = fw (fmk F.M (F.R.1 + 1, upd (zer F.R.2 (F.R.1 * 1) ((F.R.1 + 1) * 1)) (F.R.1 * 1 + 0) x) F.B F.h F.p F.br F.lo F.ld F.hr F.po)) NX := by
  refine wp_spec (M := M_X0_setRack) hg ok_X0_setRack cut0 60 rfl rfl ?_
  repeat' (first | refine And.intro ?_ ?_ | (with_reducible intro h9; exact absurd h9 (by simp only [cI, cN]; decide +kernel)) | with_reducible intro _ | exact (rfl : narrow _ _ = _) | decide)
  refine cc0 [3, 4] (tb_add hg 4 1 F.R.1 F.R.2 hF (by omega) (by omega) (by omega)) (by decide) (by decide) (by decide) rfl (by repeat' (first | exact trivial | refine And.intro ?_ ?_ | rfl)) (by first | rfl | (simp (discharger := omega) only [renVs, renV, rnI, cI, cN, ← nI_0, nI_ltI, nI_leI, nI_eq, nI_add, pk_mul, pk_sub, nI_clamp, vinI, not_true_eq_false, not_false_eq_true, iK0, iK1, iK2, iK3, iK4, iK5, iKm1, bK6, bK7, bK8, bK9, bK10, bK12, bK14, bK15, bK16, bK20, bK21, bK26, bK30, bK32, bK33, bK45, bK48, bK57, bK59, bK60, bK62, bK63, bK64, bK80, bK93, bK98, bK99, bK100, bK104, bK107, bK109, bK110, bK112, bK113, bK114, bK115, bK116, bK119, sK255, sK256, sK500, sK700, sK798, sK912, sK1400, sK2000])) ?_
  (rintro _ _ ⟨rfl, rfl⟩) <;> (repeat' (first | refine And.intro ?_ ?_ | (with_reducible intro h9; exact absurd h9 (by simp only [cI, cN]; decide +kernel)) | with_reducible intro _ | exact (rfl : narrow _ _ = _) | decide))
  refine cc0 [3, 4] (tb_put hg 4 1 (F.R.1 + 1) F.R.1 0 _ x (by omega) (by omega) (by omega) (by omega) (by omega) (by omega)) (by decide) (by decide) (by decide) rfl (by repeat' (first | exact trivial | refine And.intro ?_ ?_ | rfl)) (by first | rfl | (simp (discharger := omega) only [renVs, renV, rnI, cI, cN, ← nI_0, nI_ltI, nI_leI, nI_eq, nI_add, pk_mul, pk_sub, nI_clamp, vinI, not_true_eq_false, not_false_eq_true, iK0, iK1, iK2, iK3, iK4, iK5, iKm1, bK6, bK7, bK8, bK9, bK10, bK12, bK14, bK15, bK16, bK20, bK21, bK26, bK30, bK32, bK33, bK45, bK48, bK57, bK59, bK60, bK62, bK63, bK64, bK80, bK93, bK98, bK99, bK100, bK104, bK107, bK109, bK110, bK112, bK113, bK114, bK115, bK116, bK119, sK255, sK256, sK500, sK700, sK798, sK912, sK1400, sK2000])) ?_
  (rintro _ _ ⟨rfl, rfl⟩) <;> (repeat' (first | refine And.intro ?_ ?_ | (with_reducible intro h9; exact absurd h9 (by simp only [cI, cN]; decide +kernel)) | with_reducible intro _ | exact (rfl : narrow _ _ = _) | decide))
  all_goals rfl
/-- how many bells have this rack -/
abbrev fT.on (F : fT) (x : Int32) : Nat := cnt (fun i => decide (F.B.2 (i * 8 + 3) = x)) F.B.1
set_option maxRecDepth 20000 in
theorem fd_on (hg : gOK G) (F : fT) (hF : fB F) (x : Int32) : Spec G 2 0 0 m_X0_bellsOn [.ref 0, .int x] (fw F) (fun v w' => v = some (.int (nI (F.on x))) ∧ w' = fw F) NX := by
  obtain ⟨h1, h2, h3⟩ := hF
  refine wp_spec (M := M_X0_bellsOn) hg ok_X0_bellsOn cut0 60 rfl rfl ?_
  repeat' (first | refine And.intro ?_ ?_ | (with_reducible intro h9; exact absurd h9 (by simp only [cI, cN]; decide +kernel)) | with_reducible intro _ | exact (rfl : narrow _ _ = _) | decide)
  refine cc0 [5, 6] (tb_count hg 12 8 F.B.1 3 F.B.2 x h3 (by omega) (by omega) (by omega) (by omega)) (by decide) (by decide) (by decide) rfl (by repeat' (first | exact trivial | refine And.intro ?_ ?_ | rfl)) (by first | rfl | (simp (discharger := omega) only [renVs, renV, rnI, cI, cN, ← nI_0, nI_ltI, nI_leI, nI_eq, nI_add, pk_mul, pk_sub, nI_clamp, vinI, not_true_eq_false, not_false_eq_true, iK0, iK1, iK2, iK3, iK4, iK5, iKm1, bK6, bK7, bK8, bK9, bK10, bK12, bK14, bK15, bK16, bK20, bK21, bK26, bK30, bK32, bK33, bK45, bK48, bK57, bK59, bK60, bK62, bK63, bK64, bK80, bK93, bK98, bK99, bK100, bK104, bK107, bK109, bK110, bK112, bK113, bK114, bK115, bK116, bK119, sK255, sK256, sK500, sK700, sK798, sK912, sK1400, sK2000])) ?_
  (rintro _ _ ⟨rfl, rfl⟩) <;> (repeat' (first | refine And.intro ?_ ?_ | (with_reducible intro h9; exact absurd h9 (by simp only [cI, cN]; decide +kernel)) | with_reducible intro _ | exact (rfl : narrow _ _ = _) | decide))
  all_goals rfl
abbrev fT.loss (F : fT) (r : Nat) : Int32 := F.r r + nI 2 * (nI 3 - nI (F.on (nI r)))
set_option maxRecDepth 20000 in
theorem fd_loss (hg : gOK G) (F : fT) (hF : fB F) (r : Nat) (hr : r < F.R.1) : Spec G 2 0 0 m_X0_lossOn [.ref 0, .int (nI r)] (fw F) (fun v w' => v = some (.int (F.loss r)) ∧ w' = fw F) NX := by
  obtain ⟨h1, h2, h3⟩ := hF
  refine wp_spec (M := M_X0_lossOn) hg ok_X0_lossOn cut0 60 rfl rfl ?_
  repeat' (first | refine And.intro ?_ ?_ | (with_reducible intro h9; exact absurd h9 (by simp only [cI, cN]; decide +kernel)) | with_reducible intro _ | exact (rfl : narrow _ _ = _) | decide)
  refine cc0 [3, 4] (tb_get hg 4 1 F.R.1 r 0 F.R.2 h2 hr (by omega) (by omega) (by omega) (by omega)) (by decide) (by decide) (by decide) rfl (by repeat' (first | exact trivial | refine And.intro ?_ ?_ | rfl)) (by first | rfl | (simp (discharger := omega) only [renVs, renV, rnI, cI, cN, ← nI_0, nI_ltI, nI_leI, nI_eq, nI_add, pk_mul, pk_sub, nI_clamp, vinI, not_true_eq_false, not_false_eq_true, iK0, iK1, iK2, iK3, iK4, iK5, iKm1, bK6, bK7, bK8, bK9, bK10, bK12, bK14, bK15, bK16, bK20, bK21, bK26, bK30, bK32, bK33, bK45, bK48, bK57, bK59, bK60, bK62, bK63, bK64, bK80, bK93, bK98, bK99, bK100, bK104, bK107, bK109, bK110, bK112, bK113, bK114, bK115, bK116, bK119, sK255, sK256, sK500, sK700, sK798, sK912, sK1400, sK2000])) ?_
  (rintro _ _ ⟨rfl, rfl⟩) <;> (repeat' (first | refine And.intro ?_ ?_ | (with_reducible intro h9; exact absurd h9 (by simp only [cI, cN]; decide +kernel)) | with_reducible intro _ | exact (rfl : narrow _ _ = _) | decide))
  refine cc0 [5, 6] (tb_count hg 12 8 F.B.1 3 F.B.2 _ h3 (by omega) (by omega) (by omega) (by omega)) (by decide) (by decide) (by decide) rfl (by repeat' (first | exact trivial | refine And.intro ?_ ?_ | rfl)) (by first | rfl | (simp (discharger := omega) only [renVs, renV, rnI, cI, cN, ← nI_0, nI_ltI, nI_leI, nI_eq, nI_add, pk_mul, pk_sub, nI_clamp, vinI, not_true_eq_false, not_false_eq_true, iK0, iK1, iK2, iK3, iK4, iK5, iKm1, bK6, bK7, bK8, bK9, bK10, bK12, bK14, bK15, bK16, bK20, bK21, bK26, bK30, bK32, bK33, bK45, bK48, bK57, bK59, bK60, bK62, bK63, bK64, bK80, bK93, bK98, bK99, bK100, bK104, bK107, bK109, bK110, bK112, bK113, bK114, bK115, bK116, bK119, sK255, sK256, sK500, sK700, sK798, sK912, sK1400, sK2000])) ?_
  (rintro _ _ ⟨rfl, rfl⟩) <;> (repeat' (first | refine And.intro ?_ ?_ | (with_reducible intro h9; exact absurd h9 (by simp only [cI, cN]; decide +kernel)) | with_reducible intro _ | exact (rfl : narrow _ _ = _) | decide))
  all_goals rfl
set_option maxRecDepth 20000 in
theorem fd_both (hg : gOK G) (F : fT) (hF : fB F) (x y : Int32) : Spec G 2 0 0 m_X0_hasBoth [.ref 0, .int x, .int y] (fw F) (fun v w' => ((v = some (.int (nI 1)) ∧ hasP x F.M.1 ∧ hasP y F.R.1) ∨ (v = some (.int (nI 0)) ∧ ¬ (hasP x F.M.1 ∧ hasP y F.R.1))) ∧ w' = fw F) NX := by
  obtain ⟨h1, h2, h3⟩ := hF
  refine wp_spec (M := M_X0_hasBoth) hg ok_X0_hasBoth cut0 60 rfl rfl ?_
  repeat' (first | refine And.intro ?_ ?_ | (with_reducible intro h9; exact absurd h9 (by simp only [cI, cN]; decide +kernel)) | with_reducible intro _ | exact (rfl : narrow _ _ = _) | decide)
  refine cc0 [1, 2] (tb_has hg 8 2 F.M.1 F.M.2 x (by omega)) (by decide) (by decide) (by decide) rfl (by repeat' (first | exact trivial | refine And.intro ?_ ?_ | rfl)) (by first | rfl | (simp (discharger := omega) only [renVs, renV, rnI, cI, cN, ← nI_0, nI_ltI, nI_leI, nI_eq, nI_add, pk_mul, pk_sub, nI_clamp, vinI, not_true_eq_false, not_false_eq_true, iK0, iK1, iK2, iK3, iK4, iK5, iKm1, bK6, bK7, bK8, bK9, bK10, bK12, bK14, bK15, bK16, bK20, bK21, bK26, bK30, bK32, bK33, bK45, bK48, bK57, bK59, bK60, bK62, bK63, bK64, bK80, bK93, bK98, bK99, bK100, bK104, bK107, bK109, bK110, bK112, bK113, bK114, bK115, bK116, bK119, sK255, sK256, sK500, sK700, sK798, sK912, sK1400, sK2000])) ?_
  (rintro _ _ ⟨⟨rfl, q1⟩ | ⟨rfl, q1⟩, rfl⟩) <;> (repeat' (first | refine And.intro ?_ ?_ | (with_reducible intro h9; exact absurd h9 (by simp only [cI, cN]; decide +kernel)) | with_reducible intro _ | exact (rfl : narrow _ _ = _) | decide))
  · refine cc0 [3, 4] (tb_has hg 4 1 F.R.1 F.R.2 y (by omega)) (by decide) (by decide) (by decide) rfl (by repeat' (first | exact trivial | refine And.intro ?_ ?_ | rfl)) (by first | rfl | (simp (discharger := omega) only [renVs, renV, rnI, cI, cN, ← nI_0, nI_ltI, nI_leI, nI_eq, nI_add, pk_mul, pk_sub, nI_clamp, vinI, not_true_eq_false, not_false_eq_true, iK0, iK1, iK2, iK3, iK4, iK5, iKm1, bK6, bK7, bK8, bK9, bK10, bK12, bK14, bK15, bK16, bK20, bK21, bK26, bK30, bK32, bK33, bK45, bK48, bK57, bK59, bK60, bK62, bK63, bK64, bK80, bK93, bK98, bK99, bK100, bK104, bK107, bK109, bK110, bK112, bK113, bK114, bK115, bK116, bK119, sK255, sK256, sK500, sK700, sK798, sK912, sK1400, sK2000])) ?_
    (rintro _ _ ⟨⟨rfl, q2⟩ | ⟨rfl, q2⟩, rfl⟩) <;> (repeat' (first | refine And.intro ?_ ?_ | (with_reducible intro h9; exact absurd h9 (by simp only [cI, cN]; decide +kernel)) | with_reducible intro _ | exact (rfl : narrow _ _ = _) | decide))
    all_goals first | rfl | refine Or.inl ?_; exact ⟨rfl, q1, q2⟩ | exact Or.inr ⟨rfl, fun z => q2 z.2⟩
  all_goals first | rfl | refine Or.inr ?_; exact ⟨rfl, fun z => q1 z.1⟩
end FF
