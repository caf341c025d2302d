/-! ===== one order of a text: refused, or carried out ===== -/
section OR
variable {G : gT} {F E : fT} {H : hT} {r : Int32 × Int32} {X : xT} {ht : Nat → Int32} {P : pT7} {S : sT4} {sd : Value} {er : Int32} {t : xW} {N : nT}
theorem n1_if {c : Prop} [Decidable c] {a b : oA3} (h : ¬ (if c then a else b).1 = 1) (hb : b.1 = 1) : c := Classical.byContradiction fun z => h (by rw [if_neg z]; exact hb)
theorem z_if {c : Prop} [Decidable c] {a b : oA3} (h : (if c then a else b).1 = 0) (hb : ¬ b.1 = 0) : c := Classical.byContradiction fun z => hb (by rw [if_neg z] at h; exact h)
theorem z_ifn {c : Prop} [Decidable c] {a b : oA3} (h : (if c then a else b).1 = 0) (ha : ¬ a.1 = 0) : ¬ c := fun z => ha (by rw [if_pos z] at h; exact h)

set_option maxRecDepth 20000 in
theorem jr_coal (hg : gOK G) (hE : cpl E N.g) (iE : fI E) (v w : Nat) (h : ¬ (oCoal N (nI v)).1 = 1) : Spec G 5 0 0 m_X8_isRefused [.ref 0, .int (nI 99), .int (nI v), .int (nI w)] (ww F E H r X ht P S sd er t) (fun b w' => ∃ y, b = some (.int y) ∧ ((y = nI 1 ∧ ∃ a c, oCoal N (nI v) = (2, 0, N.ref (nI 2) a c) ∧ w' = ww F E H (a, c) X ht P S sd er t) ∨ (y = nI 0 ∧ (oCoal N (nI v)).1 = 0 ∧ w' = ww F E H r X ht P S sd er t))) NX := by
  have h8 := iE.2.2.1.1
  have h4 := iE.2.2.2.1.1
  have h12 := iE.2.2.2.2.1
  have e0 : N.g 0 = E.h := hE.1.1
  have e1 : N.g 1 = E.p := hE.1.2.1
  have q := n1_if h rfl
  refine wp_spec (M := M_X8_isRefused) hg ok_X8_isRefused cut0 60 rfl rfl ?_
  repeat' (first | refine And.intro ?_ ?_ | (with_reducible intro h9; exact absurd h9 (by simp only [cI, cN]; decide +kernel)) | with_reducible intro _ | exact (rfl : narrow _ _ = _) | decide | (unfold vp_in; decide) | refine Eq.mpr (fL_eq _ _) ?_ | refine Eq.mpr (fW_eq _ _) ?_ | refine Eq.mpr (fN_eq _ _) ?_)
  refine sw_at 169 1 (by decide) rfl ?_
  repeat' (first | refine And.intro ?_ ?_ | (with_reducible intro h9; exact absurd h9 (by simp only [cI, cN]; decide +kernel)) | with_reducible intro _ | exact (rfl : narrow _ _ = _) | decide | (unfold vp_in; decide) | refine Eq.mpr (fL_eq _ _) ?_ | refine Eq.mpr (fW_eq _ _) ?_ | refine Eq.mpr (fN_eq _ _) ?_)
  refine ⟨_, rfl, Or.inr ⟨rfl, ?_, rfl⟩⟩
  unfold oCoal
  rw [if_pos q]

set_option maxRecDepth 20000 in
theorem jr_pass (hg : gOK G) (hE : cpl E N.g) (iE : fI E) (v w : Nat) (h : ¬ (oPass N E.B.1 (nI v)).1 = 1) : Spec G 5 0 0 m_X8_isRefused [.ref 0, .int (nI 104), .int (nI v), .int (nI w)] (ww F E H r X ht P S sd er t) (fun b w' => ∃ y, b = some (.int y) ∧ ((y = nI 1 ∧ ∃ a c, oPass N E.B.1 (nI v) = (2, 0, N.ref (nI 2) a c) ∧ w' = ww F E H (a, c) X ht P S sd er t) ∨ (y = nI 0 ∧ (oPass N E.B.1 (nI v)).1 = 0 ∧ w' = ww F E H r X ht P S sd er t))) NX := by
  have h8 := iE.2.2.1.1
  have h4 := iE.2.2.2.1.1
  have h12 := iE.2.2.2.2.1
  have e0 : N.g 0 = E.h := hE.1.1
  have e1 : N.g 1 = E.p := hE.1.2.1
  have q := n1_if h rfl
  refine wp_spec (M := M_X8_isRefused) hg ok_X8_isRefused cut0 60 rfl rfl ?_
  repeat' (first | refine And.intro ?_ ?_ | (with_reducible intro h9; exact absurd h9 (by simp only [cI, cN]; decide +kernel)) | with_reducible intro _ | exact (rfl : narrow _ _ = _) | decide | (unfold vp_in; decide) | refine Eq.mpr (fL_eq _ _) ?_ | refine Eq.mpr (fW_eq _ _) ?_ | refine Eq.mpr (fN_eq _ _) ?_)
  refine sw_at 169 6 (by decide) rfl ?_
  repeat' (first | refine And.intro ?_ ?_ | (with_reducible intro h9; exact absurd h9 (by simp only [cI, cN]; decide +kernel)) | with_reducible intro _ | exact (rfl : narrow _ _ = _) | decide | (unfold vp_in; decide) | refine Eq.mpr (fL_eq _ _) ?_ | refine Eq.mpr (fW_eq _ _) ?_ | refine Eq.mpr (fN_eq _ _) ?_)
  refine ⟨_, rfl, Or.inr ⟨rfl, ?_, rfl⟩⟩
  unfold oPass
  rw [if_pos q]

set_option maxRecDepth 20000 in
theorem jr_bronze (hg : gOK G) (hE : cpl E N.g) (iE : fI E) (v w : Nat) (h : ¬ (oBronze N (nI v)).1 = 1) : Spec G 5 0 0 m_X8_isRefused [.ref 0, .int (nI 98), .int (nI v), .int (nI w)] (ww F E H r X ht P S sd er t) (fun b w' => ∃ y, b = some (.int y) ∧ ((y = nI 1 ∧ ∃ a c, oBronze N (nI v) = (2, 0, N.ref (nI 2) a c) ∧ w' = ww F E H (a, c) X ht P S sd er t) ∨ (y = nI 0 ∧ (oBronze N (nI v)).1 = 0 ∧ w' = ww F E H r X ht P S sd er t))) NX := by
  have h8 := iE.2.2.1.1
  have h4 := iE.2.2.2.1.1
  have h12 := iE.2.2.2.2.1
  have e0 : N.g 0 = E.h := hE.1.1
  have e1 : N.g 1 = E.p := hE.1.2.1
  have q := n1_if h rfl
  refine wp_spec (M := M_X8_isRefused) hg ok_X8_isRefused cut0 60 rfl rfl ?_
  repeat' (first | refine And.intro ?_ ?_ | (with_reducible intro h9; exact absurd h9 (by simp only [cI, cN]; decide +kernel)) | with_reducible intro _ | exact (rfl : narrow _ _ = _) | decide | (unfold vp_in; decide) | refine Eq.mpr (fL_eq _ _) ?_ | refine Eq.mpr (fW_eq _ _) ?_ | refine Eq.mpr (fN_eq _ _) ?_)
  refine sw_at 92 0 (by decide) rfl ?_
  repeat' (first | refine And.intro ?_ ?_ | (with_reducible intro h9; exact absurd h9 (by simp only [cI, cN]; decide +kernel)) | with_reducible intro _ | exact (rfl : narrow _ _ = _) | decide | (unfold vp_in; decide) | refine Eq.mpr (fL_eq _ _) ?_ | refine Eq.mpr (fW_eq _ _) ?_ | refine Eq.mpr (fN_eq _ _) ?_)
  refine ccn 31 [8, 9, 10, 11, 12, 13, 14, 17] (fd_refP hg E (nI v) r.1 r.2) (by decide) (by decide) (by decide) rfl (by repeat' (first | exact trivial | refine And.intro ?_ ?_ | rfl)) (by first | rfl | (simp (discharger := omega) only [renVs, renV, rnI, cI, cN, ← nI_0, nI_ltI, nI_leI, nI_eq, nI_add, pk_mul, pk_sub, nI_clamp, vinI, not_true_eq_false, not_false_eq_true, iK0, iK1, iK2, iK3, iK4, iK5, iKm1, bK6, bK7, bK8, bK9, bK10, bK12, bK14, bK15, bK16, bK20, bK21, bK26, bK30, bK32, bK33, bK45, bK48, bK57, bK59, bK60, bK62, bK63, bK64, bK80, bK93, bK98, bK99, bK100, bK104, bK107, bK109, bK110, bK112, bK113, bK114, bK115, bK116, bK119, sK255, sK256, sK500, sK700, sK798, sK912, sK1400, sK2000])) ?_
  (rintro _ _ (⟨q2, rfl, rfl⟩ | ⟨q2, rfl, rfl⟩)) <;> (repeat' (first | refine And.intro ?_ ?_ | (with_reducible intro h9; exact absurd h9 (by simp only [cI, cN]; decide +kernel)) | with_reducible intro _ | exact (rfl : narrow _ _ = _) | decide | (unfold vp_in; decide) | refine Eq.mpr (fL_eq _ _) ?_ | refine Eq.mpr (fW_eq _ _) ?_ | refine Eq.mpr (fN_eq _ _) ?_))
  · refine ⟨_, rfl, Or.inl ⟨rfl, nI 1, nI 2000, ?_, rfl⟩⟩
    unfold oBronze
    rw [if_pos q, if_neg (by rw [e1]; exact q2)]
  · refine ⟨_, rfl, Or.inr ⟨rfl, ?_, rfl⟩⟩
    unfold oBronze
    rw [if_pos q, if_pos (by rw [e1]; exact q2)]

set_option maxRecDepth 20000 in
theorem jr_mould (hg : gOK G) (hE : cpl E N.g) (iE : fI E) (v w : Nat) (h : ¬ (oMould N E.M.1 (nI v) (nI w)).1 = 1) : Spec G 5 0 0 m_X8_isRefused [.ref 0, .int (nI 109), .int (nI v), .int (nI w)] (ww F E H r X ht P S sd er t) (fun b w' => ∃ y, b = some (.int y) ∧ ((y = nI 1 ∧ ∃ a c, oMould N E.M.1 (nI v) (nI w) = (2, 0, N.ref (nI 2) a c) ∧ w' = ww F E H (a, c) X ht P S sd er t) ∨ (y = nI 0 ∧ (oMould N E.M.1 (nI v) (nI w)).1 = 0 ∧ w' = ww F E H r X ht P S sd er t))) NX := by
  have h8 := iE.2.2.1.1
  have h4 := iE.2.2.2.1.1
  have h12 := iE.2.2.2.2.1
  have e0 : N.g 0 = E.h := hE.1.1
  have e1 : N.g 1 = E.p := hE.1.2.1
  have q := n1_if h rfl
  refine wp_spec (M := M_X8_isRefused) hg ok_X8_isRefused cut0 60 rfl rfl ?_
  repeat' (first | refine And.intro ?_ ?_ | (with_reducible intro h9; exact absurd h9 (by simp only [cI, cN]; decide +kernel)) | with_reducible intro _ | exact (rfl : narrow _ _ = _) | decide | (unfold vp_in; decide) | refine Eq.mpr (fL_eq _ _) ?_ | refine Eq.mpr (fW_eq _ _) ?_ | refine Eq.mpr (fN_eq _ _) ?_)
  refine sw_at 105 11 (by decide) rfl ?_
  repeat' (first | refine And.intro ?_ ?_ | (with_reducible intro h9; exact absurd h9 (by simp only [cI, cN]; decide +kernel)) | with_reducible intro _ | exact (rfl : narrow _ _ = _) | decide | (unfold vp_in; decide) | refine Eq.mpr (fL_eq _ _) ?_ | refine Eq.mpr (fW_eq _ _) ?_ | refine Eq.mpr (fN_eq _ _) ?_)
  refine ccn 31 [8, 9, 10, 11, 12, 13, 14, 17] (fd_refM hg E iE.B r.1 r.2) (by decide) (by decide) (by decide) rfl (by repeat' (first | exact trivial | refine And.intro ?_ ?_ | rfl)) (by first | rfl | (simp (discharger := omega) only [renVs, renV, rnI, cI, cN, ← nI_0, nI_ltI, nI_leI, nI_eq, nI_add, pk_mul, pk_sub, nI_clamp, vinI, not_true_eq_false, not_false_eq_true, iK0, iK1, iK2, iK3, iK4, iK5, iKm1, bK6, bK7, bK8, bK9, bK10, bK12, bK14, bK15, bK16, bK20, bK21, bK26, bK30, bK32, bK33, bK45, bK48, bK57, bK59, bK60, bK62, bK63, bK64, bK80, bK93, bK98, bK99, bK100, bK104, bK107, bK109, bK110, bK112, bK113, bK114, bK115, bK116, bK119, sK255, sK256, sK500, sK700, sK798, sK912, sK1400, sK2000])) ?_
  (rintro _ _ (⟨q2, rfl, rfl⟩ | ⟨q2, rfl, rfl⟩)) <;> (repeat' (first | refine And.intro ?_ ?_ | (with_reducible intro h9; exact absurd h9 (by simp only [cI, cN]; decide +kernel)) | with_reducible intro _ | exact (rfl : narrow _ _ = _) | decide | (unfold vp_in; decide) | refine Eq.mpr (fL_eq _ _) ?_ | refine Eq.mpr (fW_eq _ _) ?_ | refine Eq.mpr (fN_eq _ _) ?_))
  · refine ⟨_, rfl, Or.inl ⟨rfl, nI 1, nI 8, ?_, rfl⟩⟩
    unfold oMould
    rw [if_pos q, if_pos q2]
  · refine ⟨_, rfl, Or.inr ⟨rfl, ?_, rfl⟩⟩
    unfold oMould
    rw [if_pos q, if_neg (by omega)]

set_option maxRecDepth 20000 in
theorem jr_rack (hg : gOK G) (hE : cpl E N.g) (iE : fI E) (v w : Nat) (h : ¬ (oRack N E.R.1 (nI v)).1 = 1) : Spec G 5 0 0 m_X8_isRefused [.ref 0, .int (nI 114), .int (nI v), .int (nI w)] (ww F E H r X ht P S sd er t) (fun b w' => ∃ y, b = some (.int y) ∧ ((y = nI 1 ∧ ∃ a c, oRack N E.R.1 (nI v) = (2, 0, N.ref (nI 2) a c) ∧ w' = ww F E H (a, c) X ht P S sd er t) ∨ (y = nI 0 ∧ (oRack N E.R.1 (nI v)).1 = 0 ∧ w' = ww F E H r X ht P S sd er t))) NX := by
  have h8 := iE.2.2.1.1
  have h4 := iE.2.2.2.1.1
  have h12 := iE.2.2.2.2.1
  have e0 : N.g 0 = E.h := hE.1.1
  have e1 : N.g 1 = E.p := hE.1.2.1
  have q := n1_if h rfl
  refine wp_spec (M := M_X8_isRefused) hg ok_X8_isRefused cut0 60 rfl rfl ?_
  repeat' (first | refine And.intro ?_ ?_ | (with_reducible intro h9; exact absurd h9 (by simp only [cI, cN]; decide +kernel)) | with_reducible intro _ | exact (rfl : narrow _ _ = _) | decide | (unfold vp_in; decide) | refine Eq.mpr (fL_eq _ _) ?_ | refine Eq.mpr (fW_eq _ _) ?_ | refine Eq.mpr (fN_eq _ _) ?_)
  refine sw_at 117 16 (by decide) rfl ?_
  repeat' (first | refine And.intro ?_ ?_ | (with_reducible intro h9; exact absurd h9 (by simp only [cI, cN]; decide +kernel)) | with_reducible intro _ | exact (rfl : narrow _ _ = _) | decide | (unfold vp_in; decide) | refine Eq.mpr (fL_eq _ _) ?_ | refine Eq.mpr (fW_eq _ _) ?_ | refine Eq.mpr (fN_eq _ _) ?_)
  refine ccn 31 [8, 9, 10, 11, 12, 13, 14, 17] (fd_refR hg E iE.B r.1 r.2) (by decide) (by decide) (by decide) rfl (by repeat' (first | exact trivial | refine And.intro ?_ ?_ | rfl)) (by first | rfl | (simp (discharger := omega) only [renVs, renV, rnI, cI, cN, ← nI_0, nI_ltI, nI_leI, nI_eq, nI_add, pk_mul, pk_sub, nI_clamp, vinI, not_true_eq_false, not_false_eq_true, iK0, iK1, iK2, iK3, iK4, iK5, iKm1, bK6, bK7, bK8, bK9, bK10, bK12, bK14, bK15, bK16, bK20, bK21, bK26, bK30, bK32, bK33, bK45, bK48, bK57, bK59, bK60, bK62, bK63, bK64, bK80, bK93, bK98, bK99, bK100, bK104, bK107, bK109, bK110, bK112, bK113, bK114, bK115, bK116, bK119, sK255, sK256, sK500, sK700, sK798, sK912, sK1400, sK2000])) ?_
  (rintro _ _ (⟨q2, rfl, rfl⟩ | ⟨q2, rfl, rfl⟩)) <;> (repeat' (first | refine And.intro ?_ ?_ | (with_reducible intro h9; exact absurd h9 (by simp only [cI, cN]; decide +kernel)) | with_reducible intro _ | exact (rfl : narrow _ _ = _) | decide | (unfold vp_in; decide) | refine Eq.mpr (fL_eq _ _) ?_ | refine Eq.mpr (fW_eq _ _) ?_ | refine Eq.mpr (fN_eq _ _) ?_))
  · refine ⟨_, rfl, Or.inl ⟨rfl, nI 1, nI 4, ?_, rfl⟩⟩
    unfold oRack
    rw [if_pos q, if_pos q2]
  · refine ⟨_, rfl, Or.inr ⟨rfl, ?_, rfl⟩⟩
    unfold oRack
    rw [if_pos q, if_neg (by omega)]

set_option maxRecDepth 20000 in
theorem jr_take (hg : gOK G) (hE : cpl E N.g) (iE : fI E) (v w : Nat) (h : ¬ (oTake N E.B.1 (nI v)).1 = 1) : Spec G 5 0 0 m_X8_isRefused [.ref 0, .int (nI 116), .int (nI v), .int (nI w)] (ww F E H r X ht P S sd er t) (fun b w' => ∃ y, b = some (.int y) ∧ ((y = nI 1 ∧ ∃ a c, oTake N E.B.1 (nI v) = (2, 0, N.ref (nI 2) a c) ∧ w' = ww F E H (a, c) X ht P S sd er t) ∨ (y = nI 0 ∧ (oTake N E.B.1 (nI v)).1 = 0 ∧ w' = ww F E H r X ht P S sd er t))) NX := by
  have h8 := iE.2.2.1.1
  have h4 := iE.2.2.2.1.1
  have h12 := iE.2.2.2.2.1
  have e0 : N.g 0 = E.h := hE.1.1
  have e1 : N.g 1 = E.p := hE.1.2.1
  have q := n1_if h rfl
  obtain ⟨i, hi, ei⟩ := hasD_P q
  rw [ei] at q ⊢
  have eN : (nI i).toNatClampNeg = i := nI_clamp (by omega)
  have e3 : N.b i 3 = E.b i 3 := b_of hE hi (by omega)
  have e4 : N.b i 4 = E.b i 4 := b_of hE hi (by omega)
  have e5 : E.b i 3 < nI 0 ↔ E.b i 3 = -1 := hall_lt (rk4 iE hi)
  refine wp_spec (M := M_X8_isRefused) hg ok_X8_isRefused cut0 60 rfl rfl ?_
  repeat' (first | refine And.intro ?_ ?_ | (with_reducible intro h9; exact absurd h9 (by simp only [cI, cN]; decide +kernel)) | with_reducible intro _ | exact (rfl : narrow _ _ = _) | decide | (unfold vp_in; decide) | refine Eq.mpr (fL_eq _ _) ?_ | refine Eq.mpr (fW_eq _ _) ?_ | refine Eq.mpr (fN_eq _ _) ?_)
  refine sw_at 143 18 (by decide) rfl ?_
  repeat' (first | refine And.intro ?_ ?_ | (with_reducible intro h9; exact absurd h9 (by simp only [cI, cN]; decide +kernel)) | with_reducible intro _ | exact (rfl : narrow _ _ = _) | decide | (unfold vp_in; decide) | refine Eq.mpr (fL_eq _ _) ?_ | refine Eq.mpr (fW_eq _ _) ?_ | refine Eq.mpr (fN_eq _ _) ?_)
  refine ccn 31 [8, 9, 10, 11, 12, 13, 14, 17] (fd_refT hg E iE.B i hi r.1 r.2) (by decide) (by decide) (by decide) rfl (by repeat' (first | exact trivial | refine And.intro ?_ ?_ | rfl)) (by first | rfl | (simp (discharger := omega) only [renVs, renV, rnI, cI, cN, ← nI_0, nI_ltI, nI_leI, nI_eq, nI_add, pk_mul, pk_sub, nI_clamp, vinI, not_true_eq_false, not_false_eq_true, iK0, iK1, iK2, iK3, iK4, iK5, iKm1, bK6, bK7, bK8, bK9, bK10, bK12, bK14, bK15, bK16, bK20, bK21, bK26, bK30, bK32, bK33, bK45, bK48, bK57, bK59, bK60, bK62, bK63, bK64, bK80, bK93, bK98, bK99, bK100, bK104, bK107, bK109, bK110, bK112, bK113, bK114, bK115, bK116, bK119, sK255, sK256, sK500, sK700, sK798, sK912, sK1400, sK2000])) ?_
  (rintro _ _ (⟨q2, rfl, rfl⟩ | ⟨q2, q3, rfl, rfl⟩ | ⟨q2, q3, rfl, rfl⟩)) <;> (repeat' (first | refine And.intro ?_ ?_ | (with_reducible intro h9; exact absurd h9 (by simp only [cI, cN]; decide +kernel)) | with_reducible intro _ | exact (rfl : narrow _ _ = _) | decide | (unfold vp_in; decide) | refine Eq.mpr (fL_eq _ _) ?_ | refine Eq.mpr (fW_eq _ _) ?_ | refine Eq.mpr (fN_eq _ _) ?_))
  · refine ⟨_, rfl, Or.inl ⟨rfl, nI 5, -1, ?_, rfl⟩⟩
    unfold oTake
    rw [if_pos q, eN, e3, if_pos (e5.mpr q2)]
  · refine ⟨_, rfl, Or.inl ⟨rfl, nI 4, E.b i 4, ?_, rfl⟩⟩
    unfold oTake
    rw [if_pos q, eN, e3, if_neg (fun z => q2 (e5.mp z)), e4, if_neg q3]
  · refine ⟨_, rfl, Or.inr ⟨rfl, ?_, rfl⟩⟩
    unfold oTake
    rw [if_pos q, eN, e3, if_neg (fun z => q2 (e5.mp z)), e4, if_pos q3]

set_option maxRecDepth 20000 in
theorem jr_recast (hg : gOK G) (hE : cpl E N.g) (iE : fI E) (v w : Nat) (h : ¬ (oRecast N E.B.1 (nI v)).1 = 1) : Spec G 5 0 0 m_X8_isRefused [.ref 0, .int (nI 107), .int (nI v), .int (nI w)] (ww F E H r X ht P S sd er t) (fun b w' => ∃ y, b = some (.int y) ∧ ((y = nI 1 ∧ ∃ a c, oRecast N E.B.1 (nI v) = (2, 0, N.ref (nI 2) a c) ∧ w' = ww F E H (a, c) X ht P S sd er t) ∨ (y = nI 0 ∧ (oRecast N E.B.1 (nI v)).1 = 0 ∧ w' = ww F E H r X ht P S sd er t))) NX := by
  have h8 := iE.2.2.1.1
  have h4 := iE.2.2.2.1.1
  have h12 := iE.2.2.2.2.1
  have e0 : N.g 0 = E.h := hE.1.1
  have e1 : N.g 1 = E.p := hE.1.2.1
  have q := n1_if h rfl
  obtain ⟨i, hi, ei⟩ := hasD_P q
  rw [ei] at q ⊢
  have eN : (nI i).toNatClampNeg = i := nI_clamp (by omega)
  have e3 : N.b i 3 = E.b i 3 := b_of hE hi (by omega)
  have e4 : N.b i 4 = E.b i 4 := b_of hE hi (by omega)
  have e5 : E.b i 3 < nI 0 ↔ E.b i 3 = -1 := hall_lt (rk4 iE hi)
  obtain ⟨_, _, _, _, _, _, _, _, ek, ek2, _⟩ := gbk_F hE iE hi
  have e6 : gbk N.g i = E.back i := ek.trans ek2.symm
  refine wp_spec (M := M_X8_isRefused) hg ok_X8_isRefused cut0 60 rfl rfl ?_
  repeat' (first | refine And.intro ?_ ?_ | (with_reducible intro h9; exact absurd h9 (by simp only [cI, cN]; decide +kernel)) | with_reducible intro _ | exact (rfl : narrow _ _ = _) | decide | (unfold vp_in; decide) | refine Eq.mpr (fL_eq _ _) ?_ | refine Eq.mpr (fW_eq _ _) ?_ | refine Eq.mpr (fN_eq _ _) ?_)
  refine sw_at 156 9 (by decide) rfl ?_
  repeat' (first | refine And.intro ?_ ?_ | (with_reducible intro h9; exact absurd h9 (by simp only [cI, cN]; decide +kernel)) | with_reducible intro _ | exact (rfl : narrow _ _ = _) | decide | (unfold vp_in; decide) | refine Eq.mpr (fL_eq _ _) ?_ | refine Eq.mpr (fW_eq _ _) ?_ | refine Eq.mpr (fN_eq _ _) ?_)
  refine ccn 31 [8, 9, 10, 11, 12, 13, 14, 17] (fd_refK hg E iE.B i hi r.1 r.2) (by decide) (by decide) (by decide) rfl (by repeat' (first | exact trivial | refine And.intro ?_ ?_ | rfl)) (by first | rfl | (simp (discharger := omega) only [renVs, renV, rnI, cI, cN, ← nI_0, nI_ltI, nI_leI, nI_eq, nI_add, pk_mul, pk_sub, nI_clamp, vinI, not_true_eq_false, not_false_eq_true, iK0, iK1, iK2, iK3, iK4, iK5, iKm1, bK6, bK7, bK8, bK9, bK10, bK12, bK14, bK15, bK16, bK20, bK21, bK26, bK30, bK32, bK33, bK45, bK48, bK57, bK59, bK60, bK62, bK63, bK64, bK80, bK93, bK98, bK99, bK100, bK104, bK107, bK109, bK110, bK112, bK113, bK114, bK115, bK116, bK119, sK255, sK256, sK500, sK700, sK798, sK912, sK1400, sK2000])) ?_
  (rintro _ _ (⟨q2, rfl, rfl⟩ | ⟨q2, q3, rfl, rfl⟩ | ⟨q2, q3, rfl, rfl⟩)) <;> (repeat' (first | refine And.intro ?_ ?_ | (with_reducible intro h9; exact absurd h9 (by simp only [cI, cN]; decide +kernel)) | with_reducible intro _ | exact (rfl : narrow _ _ = _) | decide | (unfold vp_in; decide) | refine Eq.mpr (fL_eq _ _) ?_ | refine Eq.mpr (fW_eq _ _) ?_ | refine Eq.mpr (fN_eq _ _) ?_))
  · refine ⟨_, rfl, Or.inl ⟨rfl, nI 5, E.b i 3, ?_, rfl⟩⟩
    unfold oRecast
    rw [if_pos q, eN, e3, if_neg (fun z => q2 (e5.mp z))]
  · refine ⟨_, rfl, Or.inl ⟨rfl, nI 1, nI 2000, ?_, rfl⟩⟩
    unfold oRecast
    rw [if_pos q, eN, e3, if_pos (e5.mpr q2), e1, e6, if_neg q3]
  · refine ⟨_, rfl, Or.inr ⟨rfl, ?_, rfl⟩⟩
    unfold oRecast
    rw [if_pos q, eN, e3, if_pos (e5.mpr q2), e1, e6, if_pos q3]

set_option maxRecDepth 20000 in
theorem jr_pour (hg : gOK G) (hE : cpl E N.g) (iE : fI E) (v w : Nat) (h : ¬ (oPour N E.M.1 E.R.1 E.B.1 (nI v) (nI w)).1 = 1) : Spec G 5 0 0 m_X8_isRefused [.ref 0, .int (nI 112), .int (nI v), .int (nI w)] (ww F E H r X ht P S sd er t) (fun b w' => ∃ y, b = some (.int y) ∧ ((y = nI 1 ∧ ∃ a c, oPour N E.M.1 E.R.1 E.B.1 (nI v) (nI w) = (2, 0, N.ref (nI 2) a c) ∧ w' = ww F E H (a, c) X ht P S sd er t) ∨ (y = nI 0 ∧ (oPour N E.M.1 E.R.1 E.B.1 (nI v) (nI w)).1 = 0 ∧ w' = ww F E H r X ht P S sd er t))) NX := by
  have h8 := iE.2.2.1.1
  have h4 := iE.2.2.2.1.1
  have h12 := iE.2.2.2.2.1
  have e0 : N.g 0 = E.h := hE.1.1
  have e1 : N.g 1 = E.p := hE.1.2.1
  have q := n1_if h rfl
  obtain ⟨i, hi, ei⟩ := hasD_P q.1
  obtain ⟨j, hj, ej⟩ := hasD_P q.2
  rw [ei, ej] at q ⊢
  have eN : (nI i).toNatClampNeg = i := nI_clamp (by omega)
  have eo : ∀ z, gon N.g z E.B.1 = E.on z := fun z => gon_B hE.2.2.2 z
  have ec : N.g (10 + 2 * i) = E.m i 0 := hE.2.1 i 0 hi (by omega)
  have h3 : E.on (nI j) ≤ 3 := iE.2.2.2.2.2.2 j hj
  refine wp_spec (M := M_X8_isRefused) hg ok_X8_isRefused cut0 60 rfl rfl ?_
  repeat' (first | refine And.intro ?_ ?_ | (with_reducible intro h9; exact absurd h9 (by simp only [cI, cN]; decide +kernel)) | with_reducible intro _ | exact (rfl : narrow _ _ = _) | decide | (unfold vp_in; decide) | refine Eq.mpr (fL_eq _ _) ?_ | refine Eq.mpr (fW_eq _ _) ?_ | refine Eq.mpr (fN_eq _ _) ?_)
  refine sw_at 129 14 (by decide) rfl ?_
  repeat' (first | refine And.intro ?_ ?_ | (with_reducible intro h9; exact absurd h9 (by simp only [cI, cN]; decide +kernel)) | with_reducible intro _ | exact (rfl : narrow _ _ = _) | decide | (unfold vp_in; decide) | refine Eq.mpr (fL_eq _ _) ?_ | refine Eq.mpr (fW_eq _ _) ?_ | refine Eq.mpr (fN_eq _ _) ?_)
  refine ccn 31 [8, 9, 10, 11, 12, 13, 14, 17] (fd_refPo hg E iE.B i j hi (nI j) r.1 r.2) (by decide) (by decide) (by decide) rfl (by repeat' (first | exact trivial | refine And.intro ?_ ?_ | rfl)) (by first | rfl | (simp (discharger := omega) only [renVs, renV, rnI, cI, cN, ← nI_0, nI_ltI, nI_leI, nI_eq, nI_add, pk_mul, pk_sub, nI_clamp, vinI, not_true_eq_false, not_false_eq_true, iK0, iK1, iK2, iK3, iK4, iK5, iKm1, bK6, bK7, bK8, bK9, bK10, bK12, bK14, bK15, bK16, bK20, bK21, bK26, bK30, bK32, bK33, bK45, bK48, bK57, bK59, bK60, bK62, bK63, bK64, bK80, bK93, bK98, bK99, bK100, bK104, bK107, bK109, bK110, bK112, bK113, bK114, bK115, bK116, bK119, sK255, sK256, sK500, sK700, sK798, sK912, sK1400, sK2000])) ?_
  (rintro _ _ (⟨q2, rfl, rfl⟩ | ⟨q2, q3, rfl, rfl⟩ | ⟨q2, q3, q4, rfl, rfl⟩ | ⟨q2, q3, q4, q5, rfl, rfl⟩ | ⟨q2, q3, q4, q5, rfl, rfl⟩)) <;> (repeat' (first | refine And.intro ?_ ?_ | (with_reducible intro h9; exact absurd h9 (by simp only [cI, cN]; decide +kernel)) | with_reducible intro _ | exact (rfl : narrow _ _ = _) | decide | (unfold vp_in; decide) | refine Eq.mpr (fL_eq _ _) ?_ | refine Eq.mpr (fW_eq _ _) ?_ | refine Eq.mpr (fN_eq _ _) ?_))
  · refine ⟨_, rfl, Or.inl ⟨rfl, nI 1, nI 12, ?_, rfl⟩⟩
    unfold oPour
    rw [if_pos q, if_pos q2]
  · refine ⟨_, rfl, Or.inl ⟨rfl, nI 1, nI 3, ?_, rfl⟩⟩
    unfold oPour
    rw [if_pos q, if_neg (by omega), if_pos (by rw [eo]; omega)]
  · refine ⟨_, rfl, Or.inl ⟨rfl, nI 2, nI 5 * E.m i 0 + nI 10 - E.p, ?_, rfl⟩⟩
    unfold oPour
    rw [if_pos q, if_neg (by omega), if_neg (by rw [eo]; omega), eN, ec, e1, if_neg q4]
  · refine ⟨_, rfl, Or.inl ⟨rfl, nI 3, nI 700 + nI 8 * E.m i 0 - E.h, ?_, rfl⟩⟩
    unfold oPour
    rw [if_pos q, if_neg (by omega), if_neg (by rw [eo]; omega), eN, ec, e1, if_pos q4, e0, if_neg q5]
  · refine ⟨_, rfl, Or.inr ⟨rfl, ?_, rfl⟩⟩
    unfold oPour
    rw [if_pos q, if_neg (by omega), if_neg (by rw [eo]; omega), eN, ec, e1, if_pos q4, e0, if_pos q5]

set_option maxRecDepth 20000 in
theorem jc_coal (hg : gOK G) (hE : cpl E N.g) (iE : fI E) (v w : Nat) (h : (oCoal N (nI v)).1 = 0) : Spec G 6 0 0 m_X8_carryOut [.ref 0, .int (nI 99), .int (nI v), .int (nI w)] (ww F E H r X ht P S sd er t) (fun b w' => b = none ∧ ∃ E', w' = ww F E' H r X ht P S sd er t ∧ cpl E' (oCoal N (nI v)).2.2.g ∧ fI E') NX := by
  have h8 := iE.2.2.1.1
  have h4 := iE.2.2.2.1.1
  have h12 := iE.2.2.2.2.1
  have e0 : N.g 0 = E.h := hE.1.1
  have e1 : N.g 1 = E.p := hE.1.2.1
  have q := z_if h (by show ¬ (1 : Nat) = 0; omega)
  have eo9 : oCoal N (nI v) = (0, mni (nI 1400) (N.g 0 + nI 30 * nI v), (N.kps N.g).s_g (upd (upd N.g 0 (mni (nI 1400) (N.g 0 + nI 30 * nI v))) 7 (N.g 7 + nI v))) := by
    unfold oCoal
    rw [if_pos q]
  rw [eo9]
  refine wp_spec (M := M_X8_carryOut) hg ok_X8_carryOut cut0 60 rfl rfl ?_
  repeat' (first | refine And.intro ?_ ?_ | (with_reducible intro h9; exact absurd h9 (by simp only [cI, cN]; decide +kernel)) | with_reducible intro _ | exact (rfl : narrow _ _ = _) | decide | (unfold vp_in; decide) | refine Eq.mpr (fL_eq _ _) ?_ | refine Eq.mpr (fW_eq _ _) ?_ | refine Eq.mpr (fN_eq _ _) ?_)
  refine sw_at 92 1 (by decide) rfl ?_
  repeat' (first | refine And.intro ?_ ?_ | (with_reducible intro h9; exact absurd h9 (by simp only [cI, cN]; decide +kernel)) | with_reducible intro _ | exact (rfl : narrow _ _ = _) | decide | (unfold vp_in; decide) | refine Eq.mpr (fL_eq _ _) ?_ | refine Eq.mpr (fW_eq _ _) ?_ | refine Eq.mpr (fN_eq _ _) ?_)
  refine ccn 31 [8, 9, 10, 11, 12, 13, 14] (fd_coal hg E (nI v)) (by decide) (by decide) (by decide) rfl (by repeat' (first | exact trivial | refine And.intro ?_ ?_ | rfl)) (by first | rfl | (simp (discharger := omega) only [renVs, renV, rnI, cI, cN, ← nI_0, nI_ltI, nI_leI, nI_eq, nI_add, pk_mul, pk_sub, nI_clamp, vinI, not_true_eq_false, not_false_eq_true, iK0, iK1, iK2, iK3, iK4, iK5, iKm1, bK6, bK7, bK8, bK9, bK10, bK12, bK14, bK15, bK16, bK20, bK21, bK26, bK30, bK32, bK33, bK45, bK48, bK57, bK59, bK60, bK62, bK63, bK64, bK80, bK93, bK98, bK99, bK100, bK104, bK107, bK109, bK110, bK112, bK113, bK114, bK115, bK116, bK119, sK255, sK256, sK500, sK700, sK798, sK912, sK1400, sK2000])) ?_
  (rintro _ _ ⟨rfl, rfl⟩) <;> (repeat' (first | refine And.intro ?_ ?_ | (with_reducible intro h9; exact absurd h9 (by simp only [cI, cN]; decide +kernel)) | with_reducible intro _ | exact (rfl : narrow _ _ = _) | decide | (unfold vp_in; decide) | refine Eq.mpr (fL_eq _ _) ?_ | refine Eq.mpr (fW_eq _ _) ?_ | refine Eq.mpr (fN_eq _ _) ?_))
  exact ⟨_, rfl, (lc_coal hE iE q).1, (lc_coal hE iE q).2⟩

set_option maxRecDepth 20000 in
theorem jc_bronze (hg : gOK G) (hE : cpl E N.g) (iE : fI E) (v w : Nat) (h : (oBronze N (nI v)).1 = 0) : Spec G 6 0 0 m_X8_carryOut [.ref 0, .int (nI 98), .int (nI v), .int (nI w)] (ww F E H r X ht P S sd er t) (fun b w' => b = none ∧ ∃ E', w' = ww F E' H r X ht P S sd er t ∧ cpl E' (oBronze N (nI v)).2.2.g ∧ fI E') NX := by
  have h8 := iE.2.2.1.1
  have h4 := iE.2.2.2.1.1
  have h12 := iE.2.2.2.2.1
  have e0 : N.g 0 = E.h := hE.1.1
  have e1 : N.g 1 = E.p := hE.1.2.1
  have q := z_if h (by show ¬ (1 : Nat) = 0; omega)
  have q2 : E.p + nI v ≤ nI 2000 := by
    unfold oBronze at h
    rw [if_pos q] at h
    rw [← e1]
    exact z_if h (by show ¬ (2 : Nat) = 0; omega)
  have eo9 : oBronze N (nI v) = (0, N.g 1 + nI v, (N.kps N.g).s_g (upd (upd N.g 1 (N.g 1 + nI v)) 5 (N.g 5 + nI v))) := by
    unfold oBronze
    rw [if_pos q, if_pos (by rw [e1]; exact q2)]
  rw [eo9]
  refine wp_spec (M := M_X8_carryOut) hg ok_X8_carryOut cut0 60 rfl rfl ?_
  repeat' (first | refine And.intro ?_ ?_ | (with_reducible intro h9; exact absurd h9 (by simp only [cI, cN]; decide +kernel)) | with_reducible intro _ | exact (rfl : narrow _ _ = _) | decide | (unfold vp_in; decide) | refine Eq.mpr (fL_eq _ _) ?_ | refine Eq.mpr (fW_eq _ _) ?_ | refine Eq.mpr (fN_eq _ _) ?_)
  refine sw_at 103 0 (by decide) rfl ?_
  repeat' (first | refine And.intro ?_ ?_ | (with_reducible intro h9; exact absurd h9 (by simp only [cI, cN]; decide +kernel)) | with_reducible intro _ | exact (rfl : narrow _ _ = _) | decide | (unfold vp_in; decide) | refine Eq.mpr (fL_eq _ _) ?_ | refine Eq.mpr (fW_eq _ _) ?_ | refine Eq.mpr (fN_eq _ _) ?_)
  refine ccn 31 [8, 9, 10, 11, 12, 13, 14] (fd_bronze hg E (nI v)) (by decide) (by decide) (by decide) rfl (by repeat' (first | exact trivial | refine And.intro ?_ ?_ | rfl)) (by first | rfl | (simp (discharger := omega) only [renVs, renV, rnI, cI, cN, ← nI_0, nI_ltI, nI_leI, nI_eq, nI_add, pk_mul, pk_sub, nI_clamp, vinI, not_true_eq_false, not_false_eq_true, iK0, iK1, iK2, iK3, iK4, iK5, iKm1, bK6, bK7, bK8, bK9, bK10, bK12, bK14, bK15, bK16, bK20, bK21, bK26, bK30, bK32, bK33, bK45, bK48, bK57, bK59, bK60, bK62, bK63, bK64, bK80, bK93, bK98, bK99, bK100, bK104, bK107, bK109, bK110, bK112, bK113, bK114, bK115, bK116, bK119, sK255, sK256, sK500, sK700, sK798, sK912, sK1400, sK2000])) ?_
  (rintro _ _ ⟨rfl, rfl⟩) <;> (repeat' (first | refine And.intro ?_ ?_ | (with_reducible intro h9; exact absurd h9 (by simp only [cI, cN]; decide +kernel)) | with_reducible intro _ | exact (rfl : narrow _ _ = _) | decide | (unfold vp_in; decide) | refine Eq.mpr (fL_eq _ _) ?_ | refine Eq.mpr (fW_eq _ _) ?_ | refine Eq.mpr (fN_eq _ _) ?_))
  exact ⟨_, rfl, (lc_bronze hE iE q q2).1, (lc_bronze hE iE q q2).2⟩

set_option maxRecDepth 20000 in
theorem jc_mould (hg : gOK G) (hE : cpl E N.g) (iE : fI E) (v w : Nat) (h : (oMould N E.M.1 (nI v) (nI w)).1 = 0) : Spec G 6 0 0 m_X8_carryOut [.ref 0, .int (nI 109), .int (nI v), .int (nI w)] (ww F E H r X ht P S sd er t) (fun b w' => b = none ∧ ∃ E', w' = ww F E' H r X ht P S sd er t ∧ cpl E' (oMould N E.M.1 (nI v) (nI w)).2.2.g ∧ fI E') NX := by
  have h8 := iE.2.2.1.1
  have h4 := iE.2.2.2.1.1
  have h12 := iE.2.2.2.2.1
  have e0 : N.g 0 = E.h := hE.1.1
  have e1 : N.g 1 = E.p := hE.1.2.1
  have q := z_if h (by show ¬ (1 : Nat) = 0; omega)
  have q2 : E.M.1 < 8 := by
    unfold oMould at h
    rw [if_pos q] at h
    have := z_ifn h (by show ¬ (2 : Nat) = 0; omega)
    omega
  have eo9 : oMould N E.M.1 (nI v) (nI w) = (0, nI E.M.1, (N.kps N.g).s_g (upd (upd (upd N.g (10 + 2 * E.M.1) (nI v)) (10 + 2 * E.M.1 + 1) (nI w)) 2 (nI (E.M.1 + 1)))) := by
    unfold oMould
    rw [if_pos q, if_neg (by omega)]
  rw [eo9]
  refine wp_spec (M := M_X8_carryOut) hg ok_X8_carryOut cut0 60 rfl rfl ?_
  repeat' (first | refine And.intro ?_ ?_ | (with_reducible intro h9; exact absurd h9 (by simp only [cI, cN]; decide +kernel)) | with_reducible intro _ | exact (rfl : narrow _ _ = _) | decide | (unfold vp_in; decide) | refine Eq.mpr (fL_eq _ _) ?_ | refine Eq.mpr (fW_eq _ _) ?_ | refine Eq.mpr (fN_eq _ _) ?_)
  refine sw_at 114 11 (by decide) rfl ?_
  repeat' (first | refine And.intro ?_ ?_ | (with_reducible intro h9; exact absurd h9 (by simp only [cI, cN]; decide +kernel)) | with_reducible intro _ | exact (rfl : narrow _ _ = _) | decide | (unfold vp_in; decide) | refine Eq.mpr (fL_eq _ _) ?_ | refine Eq.mpr (fW_eq _ _) ?_ | refine Eq.mpr (fN_eq _ _) ?_)
  refine ccn 31 [8, 9, 10, 11, 12, 13, 14] (fd_mould hg E q2 (nI v) (nI w)) (by decide) (by decide) (by decide) rfl (by repeat' (first | exact trivial | refine And.intro ?_ ?_ | rfl)) (by first | rfl | (simp (discharger := omega) only [renVs, renV, rnI, cI, cN, ← nI_0, nI_ltI, nI_leI, nI_eq, nI_add, pk_mul, pk_sub, nI_clamp, vinI, not_true_eq_false, not_false_eq_true, iK0, iK1, iK2, iK3, iK4, iK5, iKm1, bK6, bK7, bK8, bK9, bK10, bK12, bK14, bK15, bK16, bK20, bK21, bK26, bK30, bK32, bK33, bK45, bK48, bK57, bK59, bK60, bK62, bK63, bK64, bK80, bK93, bK98, bK99, bK100, bK104, bK107, bK109, bK110, bK112, bK113, bK114, bK115, bK116, bK119, sK255, sK256, sK500, sK700, sK798, sK912, sK1400, sK2000])) ?_
  (rintro _ _ ⟨rfl, rfl⟩) <;> (repeat' (first | refine And.intro ?_ ?_ | (with_reducible intro h9; exact absurd h9 (by simp only [cI, cN]; decide +kernel)) | with_reducible intro _ | exact (rfl : narrow _ _ = _) | decide | (unfold vp_in; decide) | refine Eq.mpr (fL_eq _ _) ?_ | refine Eq.mpr (fW_eq _ _) ?_ | refine Eq.mpr (fN_eq _ _) ?_))
  exact ⟨_, rfl, (lc_mould hE iE q.1 q.2 q2).1, (lc_mould hE iE q.1 q.2 q2).2⟩

set_option maxRecDepth 20000 in
theorem jc_rack (hg : gOK G) (hE : cpl E N.g) (iE : fI E) (v w : Nat) (h : (oRack N E.R.1 (nI v)).1 = 0) : Spec G 6 0 0 m_X8_carryOut [.ref 0, .int (nI 114), .int (nI v), .int (nI w)] (ww F E H r X ht P S sd er t) (fun b w' => b = none ∧ ∃ E', w' = ww F E' H r X ht P S sd er t ∧ cpl E' (oRack N E.R.1 (nI v)).2.2.g ∧ fI E') NX := by
  have h8 := iE.2.2.1.1
  have h4 := iE.2.2.2.1.1
  have h12 := iE.2.2.2.2.1
  have e0 : N.g 0 = E.h := hE.1.1
  have e1 : N.g 1 = E.p := hE.1.2.1
  have q := z_if h (by show ¬ (1 : Nat) = 0; omega)
  have q2 : E.R.1 < 4 := by
    unfold oRack at h
    rw [if_pos q] at h
    have := z_ifn h (by show ¬ (2 : Nat) = 0; omega)
    omega
  have eo9 : oRack N E.R.1 (nI v) = (0, nI E.R.1, (N.kps N.g).s_g (upd (upd N.g (26 + E.R.1) (nI v)) 3 (nI (E.R.1 + 1)))) := by
    unfold oRack
    rw [if_pos q, if_neg (by omega)]
  rw [eo9]
  refine wp_spec (M := M_X8_carryOut) hg ok_X8_carryOut cut0 60 rfl rfl ?_
  repeat' (first | refine And.intro ?_ ?_ | (with_reducible intro h9; exact absurd h9 (by simp only [cI, cN]; decide +kernel)) | with_reducible intro _ | exact (rfl : narrow _ _ = _) | decide | (unfold vp_in; decide) | refine Eq.mpr (fL_eq _ _) ?_ | refine Eq.mpr (fW_eq _ _) ?_ | refine Eq.mpr (fN_eq _ _) ?_)
  refine sw_at 127 16 (by decide) rfl ?_
  repeat' (first | refine And.intro ?_ ?_ | (with_reducible intro h9; exact absurd h9 (by simp only [cI, cN]; decide +kernel)) | with_reducible intro _ | exact (rfl : narrow _ _ = _) | decide | (unfold vp_in; decide) | refine Eq.mpr (fL_eq _ _) ?_ | refine Eq.mpr (fW_eq _ _) ?_ | refine Eq.mpr (fN_eq _ _) ?_)
  refine ccn 31 [8, 9, 10, 11, 12, 13, 14] (fd_rack hg E q2 (nI v)) (by decide) (by decide) (by decide) rfl (by repeat' (first | exact trivial | refine And.intro ?_ ?_ | rfl)) (by first | rfl | (simp (discharger := omega) only [renVs, renV, rnI, cI, cN, ← nI_0, nI_ltI, nI_leI, nI_eq, nI_add, pk_mul, pk_sub, nI_clamp, vinI, not_true_eq_false, not_false_eq_true, iK0, iK1, iK2, iK3, iK4, iK5, iKm1, bK6, bK7, bK8, bK9, bK10, bK12, bK14, bK15, bK16, bK20, bK21, bK26, bK30, bK32, bK33, bK45, bK48, bK57, bK59, bK60, bK62, bK63, bK64, bK80, bK93, bK98, bK99, bK100, bK104, bK107, bK109, bK110, bK112, bK113, bK114, bK115, bK116, bK119, sK255, sK256, sK500, sK700, sK798, sK912, sK1400, sK2000])) ?_
  (rintro _ _ ⟨rfl, rfl⟩) <;> (repeat' (first | refine And.intro ?_ ?_ | (with_reducible intro h9; exact absurd h9 (by simp only [cI, cN]; decide +kernel)) | with_reducible intro _ | exact (rfl : narrow _ _ = _) | decide | (unfold vp_in; decide) | refine Eq.mpr (fL_eq _ _) ?_ | refine Eq.mpr (fW_eq _ _) ?_ | refine Eq.mpr (fN_eq _ _) ?_))
  exact ⟨_, rfl, (lc_rack hE iE q q2).1, (lc_rack hE iE q q2).2⟩

set_option maxRecDepth 20000 in
theorem jc_pour (hg : gOK G) (hE : cpl E N.g) (iE : fI E) (v w : Nat) (h : (oPour N E.M.1 E.R.1 E.B.1 (nI v) (nI w)).1 = 0) : Spec G 6 0 0 m_X8_carryOut [.ref 0, .int (nI 112), .int (nI v), .int (nI w)] (ww F E H r X ht P S sd er t) (fun b w' => b = none ∧ ∃ E', w' = ww F E' H r X ht P S sd er t ∧ cpl E' (oPour N E.M.1 E.R.1 E.B.1 (nI v) (nI w)).2.2.g ∧ fI E') NX := by
  have h8 := iE.2.2.1.1
  have h4 := iE.2.2.2.1.1
  have h12 := iE.2.2.2.2.1
  have e0 : N.g 0 = E.h := hE.1.1
  have e1 : N.g 1 = E.p := hE.1.2.1
  have q := z_if h (by show ¬ (1 : Nat) = 0; omega)
  obtain ⟨i, hi, ei⟩ := hasD_P q.1
  obtain ⟨j, hj, ej⟩ := hasD_P q.2
  rw [ei, ej] at q h ⊢
  have eN : (nI i).toNatClampNeg = i := nI_clamp (by omega)
  have eo : ∀ z, gon N.g z E.B.1 = E.on z := fun z => gon_B hE.2.2.2 z
  have ec : N.g (10 + 2 * i) = E.m i 0 := hE.2.1 i 0 hi (by omega)
  have h3 : E.on (nI j) ≤ 3 := iE.2.2.2.2.2.2 j hj
  unfold oPour at h
  rw [if_pos q] at h
  have q2 := z_ifn h (by show ¬ (2 : Nat) = 0; omega)
  rw [if_neg q2] at h
  have q3 := z_ifn h (by show ¬ (2 : Nat) = 0; omega)
  rw [if_neg q3] at h
  have q4 := z_if h (by show ¬ (2 : Nat) = 0; omega)
  rw [if_pos q4] at h
  have q5 := z_if h (by show ¬ (2 : Nat) = 0; omega)
  have eo9 : oPour N E.M.1 E.R.1 E.B.1 (nI i) (nI j) = (0, nI E.B.1, (N.kps N.g).s_g (gpou N.g E.B.1 i E.M.1 (nI j))) := by
    unfold oPour
    rw [if_pos q, if_neg q2, if_neg q3, if_pos q4, if_pos q5, eN]
  rw [eo] at q3
  rw [eN, ec] at q4 q5
  rw [e1] at q4
  rw [e0] at q5
  rw [eo9]
  refine wp_spec (M := M_X8_carryOut) hg ok_X8_carryOut cut0 60 rfl rfl ?_
  repeat' (first | refine And.intro ?_ ?_ | (with_reducible intro h9; exact absurd h9 (by simp only [cI, cN]; decide +kernel)) | with_reducible intro _ | exact (rfl : narrow _ _ = _) | decide | (unfold vp_in; decide) | refine Eq.mpr (fL_eq _ _) ?_ | refine Eq.mpr (fW_eq _ _) ?_ | refine Eq.mpr (fN_eq _ _) ?_)
  refine sw_at 139 14 (by decide) rfl ?_
  repeat' (first | refine And.intro ?_ ?_ | (with_reducible intro h9; exact absurd h9 (by simp only [cI, cN]; decide +kernel)) | with_reducible intro _ | exact (rfl : narrow _ _ = _) | decide | (unfold vp_in; decide) | refine Eq.mpr (fL_eq _ _) ?_ | refine Eq.mpr (fW_eq _ _) ?_ | refine Eq.mpr (fN_eq _ _) ?_)
  refine ccn 31 [8, 9, 10, 11, 12, 13, 14] (fd_pour hg E iE.B i hi (by omega) (nI j)) (by decide) (by decide) (by decide) rfl (by repeat' (first | exact trivial | refine And.intro ?_ ?_ | rfl)) (by first | rfl | (simp (discharger := omega) only [renVs, renV, rnI, cI, cN, ← nI_0, nI_ltI, nI_leI, nI_eq, nI_add, pk_mul, pk_sub, nI_clamp, vinI, not_true_eq_false, not_false_eq_true, iK0, iK1, iK2, iK3, iK4, iK5, iKm1, bK6, bK7, bK8, bK9, bK10, bK12, bK14, bK15, bK16, bK20, bK21, bK26, bK30, bK32, bK33, bK45, bK48, bK57, bK59, bK60, bK62, bK63, bK64, bK80, bK93, bK98, bK99, bK100, bK104, bK107, bK109, bK110, bK112, bK113, bK114, bK115, bK116, bK119, sK255, sK256, sK500, sK700, sK798, sK912, sK1400, sK2000])) ?_
  (rintro _ _ ⟨rfl, rfl⟩) <;> (repeat' (first | refine And.intro ?_ ?_ | (with_reducible intro h9; exact absurd h9 (by simp only [cI, cN]; decide +kernel)) | with_reducible intro _ | exact (rfl : narrow _ _ = _) | decide | (unfold vp_in; decide) | refine Eq.mpr (fL_eq _ _) ?_ | refine Eq.mpr (fW_eq _ _) ?_ | refine Eq.mpr (fN_eq _ _) ?_))
  exact ⟨_, rfl, (lc_pour hE iE hi hj (by omega) q3 q4 q5).1, (lc_pour hE iE hi hj (by omega) q3 q4 q5).2⟩

set_option maxRecDepth 20000 in
theorem jc_pass (hg : gOK G) (hE : cpl E N.g) (iE : fI E) (v w : Nat) (h : (oPass N E.B.1 (nI v)).1 = 0) : Spec G 6 0 0 m_X8_carryOut [.ref 0, .int (nI 104), .int (nI v), .int (nI w)] (ww F E H r X ht P S sd er t) (fun b w' => b = none ∧ ∃ E', w' = ww F E' H r X ht P S sd er t ∧ cpl E' (oPass N E.B.1 (nI v)).2.2.g ∧ fI E') NX := by
  have h8 := iE.2.2.1.1
  have h4 := iE.2.2.2.1.1
  have h12 := iE.2.2.2.2.1
  have e0 : N.g 0 = E.h := hE.1.1
  have e1 : N.g 1 = E.p := hE.1.2.1
  have q := z_if h (by show ¬ (1 : Nat) = 0; omega)
  obtain ⟨k, z1, z2, ek⟩ := btw (by omega) (by omega) q
  rw [ek] at q ⊢
  have eo9 : oPass N E.B.1 (nI k) = (0, psC N.g E.B.1 k, (N.kps N.g).s_g (psG N.g E.B.1 k)) := by
    unfold oPass
    rw [if_pos q, nI_clamp (by omega)]
  have l := lc_pass hE iE z2
  rw [eo9]
  refine wp_spec (M := M_X8_carryOut) hg ok_X8_carryOut cut0 60 rfl rfl ?_
  repeat' (first | refine And.intro ?_ ?_ | (with_reducible intro h9; exact absurd h9 (by simp only [cI, cN]; decide +kernel)) | with_reducible intro _ | exact (rfl : narrow _ _ = _) | decide | (unfold vp_in; decide) | refine Eq.mpr (fL_eq _ _) ?_ | refine Eq.mpr (fW_eq _ _) ?_ | refine Eq.mpr (fN_eq _ _) ?_)
  refine sw_at 152 6 (by decide) rfl ?_
  repeat' (first | refine And.intro ?_ ?_ | (with_reducible intro h9; exact absurd h9 (by simp only [cI, cN]; decide +kernel)) | with_reducible intro _ | exact (rfl : narrow _ _ = _) | decide | (unfold vp_in; decide) | refine Eq.mpr (fL_eq _ _) ?_ | refine Eq.mpr (fW_eq _ _) ?_ | refine Eq.mpr (fN_eq _ _) ?_)
  refine ccn 31 [8, 9, 10, 11, 12, 13, 14] (fd_hours hg E iE.B iE.K (nI k)) (by decide) (by decide) (by decide) rfl (by repeat' (first | exact trivial | refine And.intro ?_ ?_ | rfl)) (by first | rfl | (simp (discharger := omega) only [renVs, renV, rnI, cI, cN, ← nI_0, nI_ltI, nI_leI, nI_eq, nI_add, pk_mul, pk_sub, nI_clamp, vinI, not_true_eq_false, not_false_eq_true, iK0, iK1, iK2, iK3, iK4, iK5, iKm1, bK6, bK7, bK8, bK9, bK10, bK12, bK14, bK15, bK16, bK20, bK21, bK26, bK30, bK32, bK33, bK45, bK48, bK57, bK59, bK60, bK62, bK63, bK64, bK80, bK93, bK98, bK99, bK100, bK104, bK107, bK109, bK110, bK112, bK113, bK114, bK115, bK116, bK119, sK255, sK256, sK500, sK700, sK798, sK912, sK1400, sK2000])) ?_
  (rintro _ _ ⟨rfl, rfl⟩) <;> (repeat' (first | refine And.intro ?_ ?_ | (with_reducible intro h9; exact absurd h9 (by simp only [cI, cN]; decide +kernel)) | with_reducible intro _ | exact (rfl : narrow _ _ = _) | decide | (unfold vp_in; decide) | refine Eq.mpr (fL_eq _ _) ?_ | refine Eq.mpr (fW_eq _ _) ?_ | refine Eq.mpr (fN_eq _ _) ?_))
  exact ⟨_, rfl, (And.intro l.1 l.2.1).1, (And.intro l.1 l.2.1).2⟩

set_option maxRecDepth 20000 in
theorem jc_take (hg : gOK G) (hE : cpl E N.g) (iE : fI E) (v w : Nat) (h : (oTake N E.B.1 (nI v)).1 = 0) : Spec G 6 0 0 m_X8_carryOut [.ref 0, .int (nI 116), .int (nI v), .int (nI w)] (ww F E H r X ht P S sd er t) (fun b w' => b = none ∧ ∃ E', w' = ww F E' H r X ht P S sd er t ∧ cpl E' (oTake N E.B.1 (nI v)).2.2.g ∧ fI E') NX := by
  have h8 := iE.2.2.1.1
  have h4 := iE.2.2.2.1.1
  have h12 := iE.2.2.2.2.1
  have e0 : N.g 0 = E.h := hE.1.1
  have e1 : N.g 1 = E.p := hE.1.2.1
  have q := z_if h (by show ¬ (1 : Nat) = 0; omega)
  obtain ⟨i, hi, ei⟩ := hasD_P q
  rw [ei] at q h ⊢
  have eN : (nI i).toNatClampNeg = i := nI_clamp (by omega)
  have e3 : N.b i 3 = E.b i 3 := b_of hE hi (by omega)
  have e4 : N.b i 4 = E.b i 4 := b_of hE hi (by omega)
  have e5 : E.b i 3 < nI 0 ↔ E.b i 3 = -1 := hall_lt (rk4 iE hi)
  unfold oTake at h
  rw [if_pos q] at h
  have q2 := z_ifn h (by show ¬ (2 : Nat) = 0; omega)
  rw [if_neg q2] at h
  have q3 := z_if h (by show ¬ (2 : Nat) = 0; omega)
  have eo9 : oTake N E.B.1 (nI i) = (0, N.b i 3, (N.kps N.g).s_g (upd N.g (30 + 7 * i + 3) (-1))) := by
    unfold oTake
    rw [if_pos q, if_neg q2, if_pos q3, eN]
  rw [eN, e4] at q3
  rw [eo9]
  refine wp_spec (M := M_X8_carryOut) hg ok_X8_carryOut cut0 60 rfl rfl ?_
  repeat' (first | refine And.intro ?_ ?_ | (with_reducible intro h9; exact absurd h9 (by simp only [cI, cN]; decide +kernel)) | with_reducible intro _ | exact (rfl : narrow _ _ = _) | decide | (unfold vp_in; decide) | refine Eq.mpr (fL_eq _ _) ?_ | refine Eq.mpr (fW_eq _ _) ?_ | refine Eq.mpr (fN_eq _ _) ?_)
  refine sw_at 164 18 (by decide) rfl ?_
  repeat' (first | refine And.intro ?_ ?_ | (with_reducible intro h9; exact absurd h9 (by simp only [cI, cN]; decide +kernel)) | with_reducible intro _ | exact (rfl : narrow _ _ = _) | decide | (unfold vp_in; decide) | refine Eq.mpr (fL_eq _ _) ?_ | refine Eq.mpr (fW_eq _ _) ?_ | refine Eq.mpr (fN_eq _ _) ?_)
  refine ccn 31 [8, 9, 10, 11, 12, 13, 14] (fd_take hg E iE.B i hi) (by decide) (by decide) (by decide) rfl (by repeat' (first | exact trivial | refine And.intro ?_ ?_ | rfl)) (by first | rfl | (simp (discharger := omega) only [renVs, renV, rnI, cI, cN, ← nI_0, nI_ltI, nI_leI, nI_eq, nI_add, pk_mul, pk_sub, nI_clamp, vinI, not_true_eq_false, not_false_eq_true, iK0, iK1, iK2, iK3, iK4, iK5, iKm1, bK6, bK7, bK8, bK9, bK10, bK12, bK14, bK15, bK16, bK20, bK21, bK26, bK30, bK32, bK33, bK45, bK48, bK57, bK59, bK60, bK62, bK63, bK64, bK80, bK93, bK98, bK99, bK100, bK104, bK107, bK109, bK110, bK112, bK113, bK114, bK115, bK116, bK119, sK255, sK256, sK500, sK700, sK798, sK912, sK1400, sK2000])) ?_
  (rintro _ _ ⟨rfl, rfl⟩) <;> (repeat' (first | refine And.intro ?_ ?_ | (with_reducible intro h9; exact absurd h9 (by simp only [cI, cN]; decide +kernel)) | with_reducible intro _ | exact (rfl : narrow _ _ = _) | decide | (unfold vp_in; decide) | refine Eq.mpr (fL_eq _ _) ?_ | refine Eq.mpr (fW_eq _ _) ?_ | refine Eq.mpr (fN_eq _ _) ?_))
  exact ⟨_, rfl, (lc_take hE iE hi q3).1, (lc_take hE iE hi q3).2⟩

set_option maxRecDepth 20000 in
theorem jc_recast (hg : gOK G) (hE : cpl E N.g) (iE : fI E) (v w : Nat) (h : (oRecast N E.B.1 (nI v)).1 = 0) : Spec G 6 0 0 m_X8_carryOut [.ref 0, .int (nI 107), .int (nI v), .int (nI w)] (ww F E H r X ht P S sd er t) (fun b w' => b = none ∧ ∃ E', w' = ww F E' H r X ht P S sd er t ∧ cpl E' (oRecast N E.B.1 (nI v)).2.2.g ∧ fI E') NX := by
  have h8 := iE.2.2.1.1
  have h4 := iE.2.2.2.1.1
  have h12 := iE.2.2.2.2.1
  have e0 : N.g 0 = E.h := hE.1.1
  have e1 : N.g 1 = E.p := hE.1.2.1
  have q := z_if h (by show ¬ (1 : Nat) = 0; omega)
  obtain ⟨i, hi, ei⟩ := hasD_P q
  rw [ei] at q h ⊢
  have eN : (nI i).toNatClampNeg = i := nI_clamp (by omega)
  have e3 : N.b i 3 = E.b i 3 := b_of hE hi (by omega)
  have e4 : N.b i 4 = E.b i 4 := b_of hE hi (by omega)
  have e5 : E.b i 3 < nI 0 ↔ E.b i 3 = -1 := hall_lt (rk4 iE hi)
  obtain ⟨_, _, _, _, _, _, _, _, ek, ek2, _⟩ := gbk_F hE iE hi
  have e6 : gbk N.g i = E.back i := ek.trans ek2.symm
  unfold oRecast at h
  rw [if_pos q] at h
  have q2 := z_if h (by show ¬ (2 : Nat) = 0; omega)
  rw [if_pos q2] at h
  have q3 := z_if h (by show ¬ (2 : Nat) = 0; omega)
  have eo9 : oRecast N E.B.1 (nI i) = (0, gbk N.g i, (N.kps N.g).s_g (grec N.g i E.B.1)) := by
    unfold oRecast
    rw [if_pos q, if_pos q2, if_pos q3, eN]
  rw [eN, e6, e1] at q3
  rw [eo9]
  refine wp_spec (M := M_X8_carryOut) hg ok_X8_carryOut cut0 60 rfl rfl ?_
  repeat' (first | refine And.intro ?_ ?_ | (with_reducible intro h9; exact absurd h9 (by simp only [cI, cN]; decide +kernel)) | with_reducible intro _ | exact (rfl : narrow _ _ = _) | decide | (unfold vp_in; decide) | refine Eq.mpr (fL_eq _ _) ?_ | refine Eq.mpr (fW_eq _ _) ?_ | refine Eq.mpr (fN_eq _ _) ?_)
  refine sw_at 176 9 (by decide) rfl ?_
  repeat' (first | refine And.intro ?_ ?_ | (with_reducible intro h9; exact absurd h9 (by simp only [cI, cN]; decide +kernel)) | with_reducible intro _ | exact (rfl : narrow _ _ = _) | decide | (unfold vp_in; decide) | refine Eq.mpr (fL_eq _ _) ?_ | refine Eq.mpr (fW_eq _ _) ?_ | refine Eq.mpr (fN_eq _ _) ?_)
  refine ccn 31 [8, 9, 10, 11, 12, 13, 14] (fd_recast hg E iE.B i hi) (by decide) (by decide) (by decide) rfl (by repeat' (first | exact trivial | refine And.intro ?_ ?_ | rfl)) (by first | rfl | (simp (discharger := omega) only [renVs, renV, rnI, cI, cN, ← nI_0, nI_ltI, nI_leI, nI_eq, nI_add, pk_mul, pk_sub, nI_clamp, vinI, not_true_eq_false, not_false_eq_true, iK0, iK1, iK2, iK3, iK4, iK5, iKm1, bK6, bK7, bK8, bK9, bK10, bK12, bK14, bK15, bK16, bK20, bK21, bK26, bK30, bK32, bK33, bK45, bK48, bK57, bK59, bK60, bK62, bK63, bK64, bK80, bK93, bK98, bK99, bK100, bK104, bK107, bK109, bK110, bK112, bK113, bK114, bK115, bK116, bK119, sK255, sK256, sK500, sK700, sK798, sK912, sK1400, sK2000])) ?_
  (rintro _ _ ⟨rfl, rfl⟩) <;> (repeat' (first | refine And.intro ?_ ?_ | (with_reducible intro h9; exact absurd h9 (by simp only [cI, cN]; decide +kernel)) | with_reducible intro _ | exact (rfl : narrow _ _ = _) | decide | (unfold vp_in; decide) | refine Eq.mpr (fL_eq _ _) ?_ | refine Eq.mpr (fW_eq _ _) ?_ | refine Eq.mpr (fN_eq _ _) ?_))
  exact ⟨_, rfl, (lc_recast hE iE hi q3).1, (lc_recast hE iE hi q3).2⟩

end OR
