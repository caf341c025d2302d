/-! ===== one order of a text, on both sides ===== -/
noncomputable def oOrd (N : nT) (nm nr nb : Nat) (o : orT) : oA3 :=
  if o.1 = nI 99 then oCoal N (nI o.2.1) else if o.1 = nI 98 then oBronze N (nI o.2.1) else if o.1 = nI 109 then oMould N nm (nI o.2.1) (nI o.2.2) else if o.1 = nI 114 then oRack N nr (nI o.2.1) else
  if o.1 = nI 112 then oPour N nm nr nb (nI o.2.1) (nI o.2.2) else if o.1 = nI 104 then oPass N nb (nI o.2.1) else if o.1 = nI 116 then oTake N nb (nI o.2.1) else oRecast N nb (nI o.2.1)

theorem oOrd_coal {N : nT} {nm nr nb v w : Nat} : oOrd N nm nr nb (nI 99, v, w) = oCoal N (nI v) := by
  unfold oOrd
  simp (discharger := omega) only [nI_eq]
  rfl

theorem oOrd_bronze {N : nT} {nm nr nb v w : Nat} : oOrd N nm nr nb (nI 98, v, w) = oBronze N (nI v) := by
  unfold oOrd
  simp (discharger := omega) only [nI_eq]
  rfl

theorem oOrd_mould {N : nT} {nm nr nb v w : Nat} : oOrd N nm nr nb (nI 109, v, w) = oMould N nm (nI v) (nI w) := by
  unfold oOrd
  simp (discharger := omega) only [nI_eq]
  rfl

theorem oOrd_rack {N : nT} {nm nr nb v w : Nat} : oOrd N nm nr nb (nI 114, v, w) = oRack N nr (nI v) := by
  unfold oOrd
  simp (discharger := omega) only [nI_eq]
  rfl

theorem oOrd_pour {N : nT} {nm nr nb v w : Nat} : oOrd N nm nr nb (nI 112, v, w) = oPour N nm nr nb (nI v) (nI w) := by
  unfold oOrd
  simp (discharger := omega) only [nI_eq]
  rfl

theorem oOrd_pass {N : nT} {nm nr nb v w : Nat} : oOrd N nm nr nb (nI 104, v, w) = oPass N nb (nI v) := by
  unfold oOrd
  simp (discharger := omega) only [nI_eq]
  rfl

theorem oOrd_take {N : nT} {nm nr nb v w : Nat} : oOrd N nm nr nb (nI 116, v, w) = oTake N nb (nI v) := by
  unfold oOrd
  simp (discharger := omega) only [nI_eq]
  rfl

theorem oOrd_recast {N : nT} {nm nr nb v w : Nat} : oOrd N nm nr nb (nI 107, v, w) = oRecast N nb (nI v) := by
  unfold oOrd
  simp (discharger := omega) only [nI_eq]
  rfl

def possC (N : nT) (o : oA3) (b : Int32) : Prop := (b = nI 1 ∧ ¬ o.1 = 1) ∨ (b = nI 0 ∧ o = (1, 0, N.s_co (nI 1)))
section OR
variable {G : gT} {F E : fT} {H : hT} {r : Int32 × Int32} {X : xT} {ht : Nat → Int32} {P : pT7} {S : sT4} {sd : Value} {er : Int32} {t : xW} {N : nT}

set_option maxRecDepth 20000 in
theorem jp_coal (hg : gOK G) (iE : fI E) (v w : Nat) : Spec G 4 0 0 m_X8_isPossible [.ref 0, .int (nI 99), .int (nI v), .int (nI w)] (ww F E H r X ht P S sd er t) (fun b w' => ∃ y, b = some (.int y) ∧ w' = ww F E H r X ht P S sd er t ∧ possC N (oCoal N (nI v)) y) NX := by
  have h8 := iE.2.2.1.1
  have h4 := iE.2.2.2.1.1
  have h12 := iE.2.2.2.2.1
  refine wp_spec (M := M_X8_isPossible) hg ok_X8_isPossible cut0 60 rfl rfl ?_
  repeat' (first | refine And.intro ?_ ?_ | (with_reducible intro h9; exact absurd h9 (by simp only [cI, cN]; decide +kernel)) | with_reducible intro _ | exact (rfl : narrow _ _ = _) | decide | (unfold vp_in; decide) | refine Eq.mpr (fL_eq _ _) ?_ | refine Eq.mpr (fW_eq _ _) ?_ | refine Eq.mpr (fN_eq _ _) ?_)
  refine sw_at 84 1 (by decide) rfl ?_
  repeat' (first | refine And.intro ?_ ?_ | (with_reducible intro h9; exact absurd h9 (by simp only [cI, cN]; decide +kernel)) | with_reducible intro _ | exact (rfl : narrow _ _ = _) | decide | (unfold vp_in; decide) | refine Eq.mpr (fL_eq _ _) ?_ | refine Eq.mpr (fW_eq _ _) ?_ | refine Eq.mpr (fN_eq _ _) ?_)
  refine ccn 31 [] (bc_within hg (nI v) (nI 1) (nI 20)) (by decide) (by decide) (by decide) rfl (by repeat' (first | exact trivial | refine And.intro ?_ ?_ | rfl)) (by first | rfl | (simp (discharger := omega) only [renVs, renV, rnI, cI, cN, ← nI_0, nI_ltI, nI_leI, nI_eq, nI_add, pk_mul, pk_sub, nI_clamp, vinI, not_true_eq_false, not_false_eq_true, iK0, iK1, iK2, iK3, iK4, iK5, iKm1, bK6, bK7, bK8, bK9, bK10, bK12, bK14, bK15, bK16, bK20, bK21, bK26, bK30, bK32, bK33, bK45, bK48, bK57, bK59, bK60, bK62, bK63, bK64, bK80, bK93, bK98, bK99, bK100, bK104, bK107, bK109, bK110, bK112, bK113, bK114, bK115, bK116, bK119, sK255, sK256, sK500, sK700, sK798, sK912, sK1400, sK2000])) ?_
  (rintro _ _ ⟨⟨rfl, q⟩ | ⟨rfl, q⟩, rfl⟩) <;> (repeat' (first | refine And.intro ?_ ?_ | (with_reducible intro h9; exact absurd h9 (by simp only [cI, cN]; decide +kernel)) | with_reducible intro _ | exact (rfl : narrow _ _ = _) | decide | (unfold vp_in; decide) | refine Eq.mpr (fL_eq _ _) ?_ | refine Eq.mpr (fW_eq _ _) ?_ | refine Eq.mpr (fN_eq _ _) ?_))
  · refine ⟨_, rfl, rfl, Or.inl ⟨rfl, ?_⟩⟩
    unfold oCoal
    rw [if_pos q]
    (repeat' split) <;> first | (show ¬ (0 : Nat) = 1; omega) | (show ¬ (2 : Nat) = 1; omega)
  · exact ⟨_, rfl, rfl, Or.inr ⟨rfl, (if_neg q)⟩⟩

set_option maxRecDepth 20000 in
theorem jp_bronze (hg : gOK G) (iE : fI E) (v w : Nat) : Spec G 4 0 0 m_X8_isPossible [.ref 0, .int (nI 98), .int (nI v), .int (nI w)] (ww F E H r X ht P S sd er t) (fun b w' => ∃ y, b = some (.int y) ∧ w' = ww F E H r X ht P S sd er t ∧ possC N (oBronze N (nI v)) y) NX := by
  have h8 := iE.2.2.1.1
  have h4 := iE.2.2.2.1.1
  have h12 := iE.2.2.2.2.1
  refine wp_spec (M := M_X8_isPossible) hg ok_X8_isPossible cut0 60 rfl rfl ?_
  repeat' (first | refine And.intro ?_ ?_ | (with_reducible intro h9; exact absurd h9 (by simp only [cI, cN]; decide +kernel)) | with_reducible intro _ | exact (rfl : narrow _ _ = _) | decide | (unfold vp_in; decide) | refine Eq.mpr (fL_eq _ _) ?_ | refine Eq.mpr (fW_eq _ _) ?_ | refine Eq.mpr (fN_eq _ _) ?_)
  refine sw_at 92 0 (by decide) rfl ?_
  repeat' (first | refine And.intro ?_ ?_ | (with_reducible intro h9; exact absurd h9 (by simp only [cI, cN]; decide +kernel)) | with_reducible intro _ | exact (rfl : narrow _ _ = _) | decide | (unfold vp_in; decide) | refine Eq.mpr (fL_eq _ _) ?_ | refine Eq.mpr (fW_eq _ _) ?_ | refine Eq.mpr (fN_eq _ _) ?_)
  refine ccn 31 [] (bc_within hg (nI v) (nI 1) (nI 500)) (by decide) (by decide) (by decide) rfl (by repeat' (first | exact trivial | refine And.intro ?_ ?_ | rfl)) (by first | rfl | (simp (discharger := omega) only [renVs, renV, rnI, cI, cN, ← nI_0, nI_ltI, nI_leI, nI_eq, nI_add, pk_mul, pk_sub, nI_clamp, vinI, not_true_eq_false, not_false_eq_true, iK0, iK1, iK2, iK3, iK4, iK5, iKm1, bK6, bK7, bK8, bK9, bK10, bK12, bK14, bK15, bK16, bK20, bK21, bK26, bK30, bK32, bK33, bK45, bK48, bK57, bK59, bK60, bK62, bK63, bK64, bK80, bK93, bK98, bK99, bK100, bK104, bK107, bK109, bK110, bK112, bK113, bK114, bK115, bK116, bK119, sK255, sK256, sK500, sK700, sK798, sK912, sK1400, sK2000])) ?_
  (rintro _ _ ⟨⟨rfl, q⟩ | ⟨rfl, q⟩, rfl⟩) <;> (repeat' (first | refine And.intro ?_ ?_ | (with_reducible intro h9; exact absurd h9 (by simp only [cI, cN]; decide +kernel)) | with_reducible intro _ | exact (rfl : narrow _ _ = _) | decide | (unfold vp_in; decide) | refine Eq.mpr (fL_eq _ _) ?_ | refine Eq.mpr (fW_eq _ _) ?_ | refine Eq.mpr (fN_eq _ _) ?_))
  · refine ⟨_, rfl, rfl, Or.inl ⟨rfl, ?_⟩⟩
    unfold oBronze
    rw [if_pos q]
    (repeat' split) <;> first | (show ¬ (0 : Nat) = 1; omega) | (show ¬ (2 : Nat) = 1; omega)
  · exact ⟨_, rfl, rfl, Or.inr ⟨rfl, (if_neg q)⟩⟩

set_option maxRecDepth 20000 in
theorem jp_mould (hg : gOK G) (iE : fI E) (v w : Nat) : Spec G 4 0 0 m_X8_isPossible [.ref 0, .int (nI 109), .int (nI v), .int (nI w)] (ww F E H r X ht P S sd er t) (fun b w' => ∃ y, b = some (.int y) ∧ w' = ww F E H r X ht P S sd er t ∧ possC N (oMould N E.M.1 (nI v) (nI w)) y) NX := by
  have h8 := iE.2.2.1.1
  have h4 := iE.2.2.2.1.1
  have h12 := iE.2.2.2.2.1
  refine wp_spec (M := M_X8_isPossible) hg ok_X8_isPossible cut0 60 rfl rfl ?_
  repeat' (first | refine And.intro ?_ ?_ | (with_reducible intro h9; exact absurd h9 (by simp only [cI, cN]; decide +kernel)) | with_reducible intro _ | exact (rfl : narrow _ _ = _) | decide | (unfold vp_in; decide) | refine Eq.mpr (fL_eq _ _) ?_ | refine Eq.mpr (fW_eq _ _) ?_ | refine Eq.mpr (fN_eq _ _) ?_)
  refine sw_at 101 11 (by decide) rfl ?_
  repeat' (first | refine And.intro ?_ ?_ | (with_reducible intro h9; exact absurd h9 (by simp only [cI, cN]; decide +kernel)) | with_reducible intro _ | exact (rfl : narrow _ _ = _) | decide | (unfold vp_in; decide) | refine Eq.mpr (fL_eq _ _) ?_ | refine Eq.mpr (fW_eq _ _) ?_ | refine Eq.mpr (fN_eq _ _) ?_)
  refine ccn 31 [] (bc_isMould hg (nI v) (nI w)) (by decide) (by decide) (by decide) rfl (by repeat' (first | exact trivial | refine And.intro ?_ ?_ | rfl)) (by first | rfl | (simp (discharger := omega) only [renVs, renV, rnI, cI, cN, ← nI_0, nI_ltI, nI_leI, nI_eq, nI_add, pk_mul, pk_sub, nI_clamp, vinI, not_true_eq_false, not_false_eq_true, iK0, iK1, iK2, iK3, iK4, iK5, iKm1, bK6, bK7, bK8, bK9, bK10, bK12, bK14, bK15, bK16, bK20, bK21, bK26, bK30, bK32, bK33, bK45, bK48, bK57, bK59, bK60, bK62, bK63, bK64, bK80, bK93, bK98, bK99, bK100, bK104, bK107, bK109, bK110, bK112, bK113, bK114, bK115, bK116, bK119, sK255, sK256, sK500, sK700, sK798, sK912, sK1400, sK2000])) ?_
  (rintro _ _ ⟨⟨rfl, q⟩ | ⟨rfl, q⟩, rfl⟩) <;> (repeat' (first | refine And.intro ?_ ?_ | (with_reducible intro h9; exact absurd h9 (by simp only [cI, cN]; decide +kernel)) | with_reducible intro _ | exact (rfl : narrow _ _ = _) | decide | (unfold vp_in; decide) | refine Eq.mpr (fL_eq _ _) ?_ | refine Eq.mpr (fW_eq _ _) ?_ | refine Eq.mpr (fN_eq _ _) ?_))
  · refine ⟨_, rfl, rfl, Or.inl ⟨rfl, ?_⟩⟩
    unfold oMould
    rw [if_pos q]
    (repeat' split) <;> first | (show ¬ (0 : Nat) = 1; omega) | (show ¬ (2 : Nat) = 1; omega)
  · exact ⟨_, rfl, rfl, Or.inr ⟨rfl, (if_neg q)⟩⟩

set_option maxRecDepth 20000 in
theorem jp_rack (hg : gOK G) (iE : fI E) (v w : Nat) : Spec G 4 0 0 m_X8_isPossible [.ref 0, .int (nI 114), .int (nI v), .int (nI w)] (ww F E H r X ht P S sd er t) (fun b w' => ∃ y, b = some (.int y) ∧ w' = ww F E H r X ht P S sd er t ∧ possC N (oRack N E.R.1 (nI v)) y) NX := by
  have h8 := iE.2.2.1.1
  have h4 := iE.2.2.2.1.1
  have h12 := iE.2.2.2.2.1
  refine wp_spec (M := M_X8_isPossible) hg ok_X8_isPossible cut0 60 rfl rfl ?_
  repeat' (first | refine And.intro ?_ ?_ | (with_reducible intro h9; exact absurd h9 (by simp only [cI, cN]; decide +kernel)) | with_reducible intro _ | exact (rfl : narrow _ _ = _) | decide | (unfold vp_in; decide) | refine Eq.mpr (fL_eq _ _) ?_ | refine Eq.mpr (fW_eq _ _) ?_ | refine Eq.mpr (fN_eq _ _) ?_)
  refine sw_at 107 16 (by decide) rfl ?_
  repeat' (first | refine And.intro ?_ ?_ | (with_reducible intro h9; exact absurd h9 (by simp only [cI, cN]; decide +kernel)) | with_reducible intro _ | exact (rfl : narrow _ _ = _) | decide | (unfold vp_in; decide) | refine Eq.mpr (fL_eq _ _) ?_ | refine Eq.mpr (fW_eq _ _) ?_ | refine Eq.mpr (fN_eq _ _) ?_)
  refine ccn 31 [] (bc_within hg (nI v) (nI 1) (nI 9)) (by decide) (by decide) (by decide) rfl (by repeat' (first | exact trivial | refine And.intro ?_ ?_ | rfl)) (by first | rfl | (simp (discharger := omega) only [renVs, renV, rnI, cI, cN, ← nI_0, nI_ltI, nI_leI, nI_eq, nI_add, pk_mul, pk_sub, nI_clamp, vinI, not_true_eq_false, not_false_eq_true, iK0, iK1, iK2, iK3, iK4, iK5, iKm1, bK6, bK7, bK8, bK9, bK10, bK12, bK14, bK15, bK16, bK20, bK21, bK26, bK30, bK32, bK33, bK45, bK48, bK57, bK59, bK60, bK62, bK63, bK64, bK80, bK93, bK98, bK99, bK100, bK104, bK107, bK109, bK110, bK112, bK113, bK114, bK115, bK116, bK119, sK255, sK256, sK500, sK700, sK798, sK912, sK1400, sK2000])) ?_
  (rintro _ _ ⟨⟨rfl, q⟩ | ⟨rfl, q⟩, rfl⟩) <;> (repeat' (first | refine And.intro ?_ ?_ | (with_reducible intro h9; exact absurd h9 (by simp only [cI, cN]; decide +kernel)) | with_reducible intro _ | exact (rfl : narrow _ _ = _) | decide | (unfold vp_in; decide) | refine Eq.mpr (fL_eq _ _) ?_ | refine Eq.mpr (fW_eq _ _) ?_ | refine Eq.mpr (fN_eq _ _) ?_))
  · refine ⟨_, rfl, rfl, Or.inl ⟨rfl, ?_⟩⟩
    unfold oRack
    rw [if_pos q]
    (repeat' split) <;> first | (show ¬ (0 : Nat) = 1; omega) | (show ¬ (2 : Nat) = 1; omega)
  · exact ⟨_, rfl, rfl, Or.inr ⟨rfl, (if_neg q)⟩⟩

set_option maxRecDepth 20000 in
theorem jp_pour (hg : gOK G) (iE : fI E) (v w : Nat) : Spec G 4 0 0 m_X8_isPossible [.ref 0, .int (nI 112), .int (nI v), .int (nI w)] (ww F E H r X ht P S sd er t) (fun b w' => ∃ y, b = some (.int y) ∧ w' = ww F E H r X ht P S sd er t ∧ possC N (oPour N E.M.1 E.R.1 E.B.1 (nI v) (nI w)) y) NX := by
  have h8 := iE.2.2.1.1
  have h4 := iE.2.2.2.1.1
  have h12 := iE.2.2.2.2.1
  refine wp_spec (M := M_X8_isPossible) hg ok_X8_isPossible cut0 60 rfl rfl ?_
  repeat' (first | refine And.intro ?_ ?_ | (with_reducible intro h9; exact absurd h9 (by simp only [cI, cN]; decide +kernel)) | with_reducible intro _ | exact (rfl : narrow _ _ = _) | decide | (unfold vp_in; decide) | refine Eq.mpr (fL_eq _ _) ?_ | refine Eq.mpr (fW_eq _ _) ?_ | refine Eq.mpr (fN_eq _ _) ?_)
  refine sw_at 115 14 (by decide) rfl ?_
  repeat' (first | refine And.intro ?_ ?_ | (with_reducible intro h9; exact absurd h9 (by simp only [cI, cN]; decide +kernel)) | with_reducible intro _ | exact (rfl : narrow _ _ = _) | decide | (unfold vp_in; decide) | refine Eq.mpr (fL_eq _ _) ?_ | refine Eq.mpr (fW_eq _ _) ?_ | refine Eq.mpr (fN_eq _ _) ?_)
  refine ccn 31 [8, 9, 10, 11, 12, 13, 14] (fd_both hg E iE.B (nI v) (nI w)) (by decide) (by decide) (by decide) rfl (by repeat' (first | exact trivial | refine And.intro ?_ ?_ | rfl)) (by first | rfl | (simp (discharger := omega) only [renVs, renV, rnI, cI, cN, ← nI_0, nI_ltI, nI_leI, nI_eq, nI_add, pk_mul, pk_sub, nI_clamp, vinI, not_true_eq_false, not_false_eq_true, iK0, iK1, iK2, iK3, iK4, iK5, iKm1, bK6, bK7, bK8, bK9, bK10, bK12, bK14, bK15, bK16, bK20, bK21, bK26, bK30, bK32, bK33, bK45, bK48, bK57, bK59, bK60, bK62, bK63, bK64, bK80, bK93, bK98, bK99, bK100, bK104, bK107, bK109, bK110, bK112, bK113, bK114, bK115, bK116, bK119, sK255, sK256, sK500, sK700, sK798, sK912, sK1400, sK2000])) ?_
  (rintro _ _ ⟨⟨rfl, q⟩ | ⟨rfl, q⟩, rfl⟩) <;> (repeat' (first | refine And.intro ?_ ?_ | (with_reducible intro h9; exact absurd h9 (by simp only [cI, cN]; decide +kernel)) | with_reducible intro _ | exact (rfl : narrow _ _ = _) | decide | (unfold vp_in; decide) | refine Eq.mpr (fL_eq _ _) ?_ | refine Eq.mpr (fW_eq _ _) ?_ | refine Eq.mpr (fN_eq _ _) ?_))
  · refine ⟨_, rfl, rfl, Or.inl ⟨rfl, ?_⟩⟩
    unfold oPour
    rw [if_pos ⟨hasP_D q.1 (by omega), hasP_D q.2 (by omega)⟩]
    (repeat' split) <;> first | (show ¬ (0 : Nat) = 1; omega) | (show ¬ (2 : Nat) = 1; omega)
  · exact ⟨_, rfl, rfl, Or.inr ⟨rfl, (if_neg (fun z => q ⟨hasD_P z.1, hasD_P z.2⟩))⟩⟩

set_option maxRecDepth 20000 in
theorem jp_pass (hg : gOK G) (iE : fI E) (v w : Nat) : Spec G 4 0 0 m_X8_isPossible [.ref 0, .int (nI 104), .int (nI v), .int (nI w)] (ww F E H r X ht P S sd er t) (fun b w' => ∃ y, b = some (.int y) ∧ w' = ww F E H r X ht P S sd er t ∧ possC N (oPass N E.B.1 (nI v)) y) NX := by
  have h8 := iE.2.2.1.1
  have h4 := iE.2.2.2.1.1
  have h12 := iE.2.2.2.2.1
  refine wp_spec (M := M_X8_isPossible) hg ok_X8_isPossible cut0 60 rfl rfl ?_
  repeat' (first | refine And.intro ?_ ?_ | (with_reducible intro h9; exact absurd h9 (by simp only [cI, cN]; decide +kernel)) | with_reducible intro _ | exact (rfl : narrow _ _ = _) | decide | (unfold vp_in; decide) | refine Eq.mpr (fL_eq _ _) ?_ | refine Eq.mpr (fW_eq _ _) ?_ | refine Eq.mpr (fN_eq _ _) ?_)
  refine sw_at 125 6 (by decide) rfl ?_
  repeat' (first | refine And.intro ?_ ?_ | (with_reducible intro h9; exact absurd h9 (by simp only [cI, cN]; decide +kernel)) | with_reducible intro _ | exact (rfl : narrow _ _ = _) | decide | (unfold vp_in; decide) | refine Eq.mpr (fL_eq _ _) ?_ | refine Eq.mpr (fW_eq _ _) ?_ | refine Eq.mpr (fN_eq _ _) ?_)
  refine ccn 31 [] (bc_within hg (nI v) (nI 1) (nI 48)) (by decide) (by decide) (by decide) rfl (by repeat' (first | exact trivial | refine And.intro ?_ ?_ | rfl)) (by first | rfl | (simp (discharger := omega) only [renVs, renV, rnI, cI, cN, ← nI_0, nI_ltI, nI_leI, nI_eq, nI_add, pk_mul, pk_sub, nI_clamp, vinI, not_true_eq_false, not_false_eq_true, iK0, iK1, iK2, iK3, iK4, iK5, iKm1, bK6, bK7, bK8, bK9, bK10, bK12, bK14, bK15, bK16, bK20, bK21, bK26, bK30, bK32, bK33, bK45, bK48, bK57, bK59, bK60, bK62, bK63, bK64, bK80, bK93, bK98, bK99, bK100, bK104, bK107, bK109, bK110, bK112, bK113, bK114, bK115, bK116, bK119, sK255, sK256, sK500, sK700, sK798, sK912, sK1400, sK2000])) ?_
  (rintro _ _ ⟨⟨rfl, q⟩ | ⟨rfl, q⟩, rfl⟩) <;> (repeat' (first | refine And.intro ?_ ?_ | (with_reducible intro h9; exact absurd h9 (by simp only [cI, cN]; decide +kernel)) | with_reducible intro _ | exact (rfl : narrow _ _ = _) | decide | (unfold vp_in; decide) | refine Eq.mpr (fL_eq _ _) ?_ | refine Eq.mpr (fW_eq _ _) ?_ | refine Eq.mpr (fN_eq _ _) ?_))
  · refine ⟨_, rfl, rfl, Or.inl ⟨rfl, ?_⟩⟩
    unfold oPass
    rw [if_pos q]
    (repeat' split) <;> first | (show ¬ (0 : Nat) = 1; omega) | (show ¬ (2 : Nat) = 1; omega)
  · exact ⟨_, rfl, rfl, Or.inr ⟨rfl, (if_neg q)⟩⟩

set_option maxRecDepth 20000 in
theorem jp_take (hg : gOK G) (iE : fI E) (v w : Nat) : Spec G 4 0 0 m_X8_isPossible [.ref 0, .int (nI 116), .int (nI v), .int (nI w)] (ww F E H r X ht P S sd er t) (fun b w' => ∃ y, b = some (.int y) ∧ w' = ww F E H r X ht P S sd er t ∧ possC N (oTake N E.B.1 (nI v)) y) NX := by
  have h8 := iE.2.2.1.1
  have h4 := iE.2.2.2.1.1
  have h12 := iE.2.2.2.2.1
  refine wp_spec (M := M_X8_isPossible) hg ok_X8_isPossible cut0 60 rfl rfl ?_
  repeat' (first | refine And.intro ?_ ?_ | (with_reducible intro h9; exact absurd h9 (by simp only [cI, cN]; decide +kernel)) | with_reducible intro _ | exact (rfl : narrow _ _ = _) | decide | (unfold vp_in; decide) | refine Eq.mpr (fL_eq _ _) ?_ | refine Eq.mpr (fW_eq _ _) ?_ | refine Eq.mpr (fN_eq _ _) ?_)
  refine sw_df (by decide) ?_
  repeat' (first | refine And.intro ?_ ?_ | (with_reducible intro h9; exact absurd h9 (by simp only [cI, cN]; decide +kernel)) | with_reducible intro _ | exact (rfl : narrow _ _ = _) | decide | (unfold vp_in; decide) | refine Eq.mpr (fL_eq _ _) ?_ | refine Eq.mpr (fW_eq _ _) ?_ | refine Eq.mpr (fN_eq _ _) ?_)
  refine ccn 31 [13, 14] (tb_has hg 12 8 E.B.1 E.B.2 (nI v) (by omega)) (by decide) (by decide) (by decide) rfl (by repeat' (first | exact trivial | refine And.intro ?_ ?_ | rfl)) (by first | rfl | (simp (discharger := omega) only [renVs, renV, rnI, cI, cN, ← nI_0, nI_ltI, nI_leI, nI_eq, nI_add, pk_mul, pk_sub, nI_clamp, vinI, not_true_eq_false, not_false_eq_true, iK0, iK1, iK2, iK3, iK4, iK5, iKm1, bK6, bK7, bK8, bK9, bK10, bK12, bK14, bK15, bK16, bK20, bK21, bK26, bK30, bK32, bK33, bK45, bK48, bK57, bK59, bK60, bK62, bK63, bK64, bK80, bK93, bK98, bK99, bK100, bK104, bK107, bK109, bK110, bK112, bK113, bK114, bK115, bK116, bK119, sK255, sK256, sK500, sK700, sK798, sK912, sK1400, sK2000])) ?_
  (rintro _ _ ⟨⟨rfl, q⟩ | ⟨rfl, q⟩, rfl⟩) <;> (repeat' (first | refine And.intro ?_ ?_ | (with_reducible intro h9; exact absurd h9 (by simp only [cI, cN]; decide +kernel)) | with_reducible intro _ | exact (rfl : narrow _ _ = _) | decide | (unfold vp_in; decide) | refine Eq.mpr (fL_eq _ _) ?_ | refine Eq.mpr (fW_eq _ _) ?_ | refine Eq.mpr (fN_eq _ _) ?_))
  · refine ⟨_, rfl, rfl, Or.inl ⟨rfl, ?_⟩⟩
    unfold oTake
    rw [if_pos (hasP_D q (by omega))]
    (repeat' split) <;> first | (show ¬ (0 : Nat) = 1; omega) | (show ¬ (2 : Nat) = 1; omega)
  · exact ⟨_, rfl, rfl, Or.inr ⟨rfl, (if_neg (fun z => q (hasD_P z)))⟩⟩

set_option maxRecDepth 20000 in
theorem jp_recast (hg : gOK G) (iE : fI E) (v w : Nat) : Spec G 4 0 0 m_X8_isPossible [.ref 0, .int (nI 107), .int (nI v), .int (nI w)] (ww F E H r X ht P S sd er t) (fun b w' => ∃ y, b = some (.int y) ∧ w' = ww F E H r X ht P S sd er t ∧ possC N (oRecast N E.B.1 (nI v)) y) NX := by
  have h8 := iE.2.2.1.1
  have h4 := iE.2.2.2.1.1
  have h12 := iE.2.2.2.2.1
  refine wp_spec (M := M_X8_isPossible) hg ok_X8_isPossible cut0 60 rfl rfl ?_
  repeat' (first | refine And.intro ?_ ?_ | (with_reducible intro h9; exact absurd h9 (by simp only [cI, cN]; decide +kernel)) | with_reducible intro _ | exact (rfl : narrow _ _ = _) | decide | (unfold vp_in; decide) | refine Eq.mpr (fL_eq _ _) ?_ | refine Eq.mpr (fW_eq _ _) ?_ | refine Eq.mpr (fN_eq _ _) ?_)
  refine sw_at 133 9 (by decide) rfl ?_
  repeat' (first | refine And.intro ?_ ?_ | (with_reducible intro h9; exact absurd h9 (by simp only [cI, cN]; decide +kernel)) | with_reducible intro _ | exact (rfl : narrow _ _ = _) | decide | (unfold vp_in; decide) | refine Eq.mpr (fL_eq _ _) ?_ | refine Eq.mpr (fW_eq _ _) ?_ | refine Eq.mpr (fN_eq _ _) ?_)
  refine ccn 31 [13, 14] (tb_has hg 12 8 E.B.1 E.B.2 (nI v) (by omega)) (by decide) (by decide) (by decide) rfl (by repeat' (first | exact trivial | refine And.intro ?_ ?_ | rfl)) (by first | rfl | (simp (discharger := omega) only [renVs, renV, rnI, cI, cN, ← nI_0, nI_ltI, nI_leI, nI_eq, nI_add, pk_mul, pk_sub, nI_clamp, vinI, not_true_eq_false, not_false_eq_true, iK0, iK1, iK2, iK3, iK4, iK5, iKm1, bK6, bK7, bK8, bK9, bK10, bK12, bK14, bK15, bK16, bK20, bK21, bK26, bK30, bK32, bK33, bK45, bK48, bK57, bK59, bK60, bK62, bK63, bK64, bK80, bK93, bK98, bK99, bK100, bK104, bK107, bK109, bK110, bK112, bK113, bK114, bK115, bK116, bK119, sK255, sK256, sK500, sK700, sK798, sK912, sK1400, sK2000])) ?_
  (rintro _ _ ⟨⟨rfl, q⟩ | ⟨rfl, q⟩, rfl⟩) <;> (repeat' (first | refine And.intro ?_ ?_ | (with_reducible intro h9; exact absurd h9 (by simp only [cI, cN]; decide +kernel)) | with_reducible intro _ | exact (rfl : narrow _ _ = _) | decide | (unfold vp_in; decide) | refine Eq.mpr (fL_eq _ _) ?_ | refine Eq.mpr (fW_eq _ _) ?_ | refine Eq.mpr (fN_eq _ _) ?_))
  · refine ⟨_, rfl, rfl, Or.inl ⟨rfl, ?_⟩⟩
    unfold oRecast
    rw [if_pos (hasP_D q (by omega))]
    (repeat' split) <;> first | (show ¬ (0 : Nat) = 1; omega) | (show ¬ (2 : Nat) = 1; omega)
  · exact ⟨_, rfl, rfl, Or.inr ⟨rfl, (if_neg (fun z => q (hasD_P z)))⟩⟩

end OR
