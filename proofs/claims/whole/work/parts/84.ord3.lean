/-! ===== orders of a text, judged ===== -/
theorem sCoal_o {N N' : nT} {x : Int32} (h : sCoal N x N') : N' = (oCoal N x).2.2 ∧ N'.co = nI (oCoal N x).1 := by
  unfold oCoal
  rcases h with ⟨h, rfl⟩ | ⟨h, rfl⟩
  · rw [if_neg h]; exact ⟨rfl, rfl⟩
  · rw [if_pos h]; exact ⟨rfl, rfl⟩
theorem sBronze_o {N N' : nT} {x : Int32} (h : sBronze N x N') : N' = (oBronze N x).2.2 ∧ N'.co = nI (oBronze N x).1 := by
  unfold oBronze
  rcases h with ⟨h, rfl⟩ | ⟨h, h2, rfl⟩ | ⟨h, h2, rfl⟩
  · rw [if_neg h]; exact ⟨rfl, rfl⟩
  · rw [if_pos h, if_neg h2]; exact ⟨rfl, rfl⟩
  · rw [if_pos h, if_pos h2]; exact ⟨rfl, rfl⟩
theorem sMould_o {N N' : nT} {n : Nat} {x y : Int32} (h : sMould N n x y N') : N' = (oMould N n x y).2.2 ∧ N'.co = nI (oMould N n x y).1 := by
  unfold oMould
  rcases h with ⟨h, rfl⟩ | ⟨h, h2, rfl⟩ | ⟨h, h2, rfl⟩
  · rw [if_neg h]; exact ⟨rfl, rfl⟩
  · rw [if_pos h, if_pos h2]; exact ⟨rfl, rfl⟩
  · rw [if_pos h, if_neg (by omega)]; exact ⟨rfl, rfl⟩
theorem sRack_o {N N' : nT} {n : Nat} {x : Int32} (h : sRack N n x N') : N' = (oRack N n x).2.2 ∧ N'.co = nI (oRack N n x).1 := by
  unfold oRack
  rcases h with ⟨h, rfl⟩ | ⟨h, h2, rfl⟩ | ⟨h, h2, rfl⟩
  · rw [if_neg h]; exact ⟨rfl, rfl⟩
  · rw [if_pos h, if_pos h2]; exact ⟨rfl, rfl⟩
  · rw [if_pos h, if_neg (by omega)]; exact ⟨rfl, rfl⟩
theorem sPass_o {N N' : nT} {n : Nat} {x : Int32} (h : sPass N n x N') : N' = (oPass N n x).2.2 ∧ N'.co = nI (oPass N n x).1 := by
  unfold oPass
  rcases h with ⟨h, rfl⟩ | ⟨t, t1, t2, rfl, rfl⟩
  · rw [if_neg h]; exact ⟨rfl, rfl⟩
  · rw [if_pos (btw' (by omega) t1 t2), nI_clamp (by omega)]; exact ⟨rfl, rfl⟩
theorem sTake_o {N N' : nT} {nb : Nat} {x : Int32} (hb : nb < 2 ^ 31) (h : sTake N nb x N') : N' = (oTake N nb x).2.2 ∧ N'.co = nI (oTake N nb x).1 := by
  unfold oTake
  rcases h with ⟨h, rfl⟩ | ⟨i, hi, rfl, h2, rfl⟩ | ⟨i, hi, rfl, h2, h3, rfl⟩ | ⟨i, hi, rfl, h2, h3, rfl⟩
  · rw [if_neg (fun z => h (hasD_P z))]; exact ⟨rfl, rfl⟩
  · rw [if_pos (hasD_i hi hb), nI_clamp (by omega), if_pos h2]; exact ⟨rfl, rfl⟩
  · rw [if_pos (hasD_i hi hb), nI_clamp (by omega), if_neg h2, if_neg h3]; exact ⟨rfl, rfl⟩
  · rw [if_pos (hasD_i hi hb), nI_clamp (by omega), if_neg h2, if_pos h3]; exact ⟨rfl, rfl⟩
theorem sRecast_o {N N' : nT} {nb : Nat} {x : Int32} (hb : nb < 2 ^ 31) (h : sRecast N nb x N') : N' = (oRecast N nb x).2.2 ∧ N'.co = nI (oRecast N nb x).1 := by
  unfold oRecast
  rcases h with ⟨h, rfl⟩ | ⟨i, hi, rfl, h2, rfl⟩ | ⟨i, hi, rfl, h2, h3, rfl⟩ | ⟨i, hi, rfl, h2, h3, rfl⟩
  · rw [if_neg (fun z => h (hasD_P z))]; exact ⟨rfl, rfl⟩
  · rw [if_pos (hasD_i hi hb), nI_clamp (by omega), if_neg h2]; exact ⟨rfl, rfl⟩
  · rw [if_pos (hasD_i hi hb), nI_clamp (by omega), if_pos h2, if_neg h3]; exact ⟨rfl, rfl⟩
  · rw [if_pos (hasD_i hi hb), nI_clamp (by omega), if_pos h2, if_pos h3]; exact ⟨rfl, rfl⟩
theorem sPour_o {N N' : nT} {nm nr nb : Nat} {x y : Int32} (hm : nm < 2 ^ 31) (hr : nr < 2 ^ 31) (h : sPour N nm nr nb x y N') : N' = (oPour N nm nr nb x y).2.2 ∧ N'.co = nI (oPour N nm nr nb x y).1 := by
  unfold oPour
  rcases h with ⟨h, rfl⟩ | ⟨i, hi, rfl, hy, h⟩
  · rw [if_neg (fun z => h ⟨hasD_P z.1, hasD_P z.2⟩)]; exact ⟨rfl, rfl⟩
  · rw [if_pos ⟨hasD_i hi hm, hasP_D hy hr⟩, nI_clamp (by omega)]
    rcases h with ⟨h1, rfl⟩ | ⟨h1, h2, rfl⟩ | ⟨h1, h2, h3, rfl⟩ | ⟨h1, h2, h3, h4, rfl⟩ | ⟨h1, h2, h3, h4, rfl⟩
    · rw [if_pos h1]; exact ⟨rfl, rfl⟩
    · rw [if_neg (by omega), if_pos h2]; exact ⟨rfl, rfl⟩
    · rw [if_neg (by omega), if_neg h2, if_neg h3]; exact ⟨rfl, rfl⟩
    · rw [if_neg (by omega), if_neg h2, if_pos h3, if_neg h4]; exact ⟨rfl, rfl⟩
    · rw [if_neg (by omega), if_neg h2, if_pos h3, if_pos h4]; exact ⟨rfl, rfl⟩
theorem sOrd_o {N N' : nT} {nm nr nb : Nat} (hm : nm < 2 ^ 31) (hr : nr < 2 ^ 31) (hb : nb < 2 ^ 31) {o : orT} (h : sOrd N nm nr nb o N') : N' = (oOrd N nm nr nb o).2.2 ∧ N'.co = nI (oOrd N nm nr nb o).1 := by
  obtain ⟨k, v, w⟩ := o
  rcases h with ⟨e, h⟩ | ⟨e, h⟩ | ⟨e, h⟩ | ⟨e, h⟩ | ⟨e, h⟩ | ⟨e, h⟩ | ⟨e, h⟩ | ⟨e, h⟩
  · replace e : k = nI 99 := e
    subst e
    rw [oOrd_coal]
    exact sCoal_o h
  · replace e : k = nI 98 := e
    subst e
    rw [oOrd_bronze]
    exact sBronze_o h
  · replace e : k = nI 109 := e
    subst e
    rw [oOrd_mould]
    exact sMould_o h
  · replace e : k = nI 114 := e
    subst e
    rw [oOrd_rack]
    exact sRack_o h
  · replace e : k = nI 112 := e
    subst e
    rw [oOrd_pour]
    exact sPour_o hm hr h
  · replace e : k = nI 104 := e
    subst e
    rw [oOrd_pass]
    exact sPass_o h
  · replace e : k = nI 116 := e
    subst e
    rw [oOrd_take]
    exact sTake_o hb h
  · replace e : k = nI 107 := e
    subst e
    rw [oOrd_recast]
    exact sRecast_o hb h
section OR
variable {G : gT} {F E : fT} {H : hT} {r : Int32 × Int32} {X : xT} {ht : Nat → Int32} {P : pT7} {S : sT4} {sd : Value} {er : Int32} {t : xW} {N : nT}
set_option maxRecDepth 20000 in
theorem jp (hg : gOK G) (iE : fI E) (k : Int32) (v w : Nat) (hk : isKd k) : Spec G 4 0 0 m_X8_isPossible [.ref 0, .int k, .int (nI v), .int (nI w)] (ww F E H r X ht P S sd er t) (fun b w' => ∃ y, b = some (.int y) ∧ w' = ww F E H r X ht P S sd er t ∧ possC N (oOrd N E.M.1 E.R.1 E.B.1 (k, v, w)) y) NX := by
  rcases hk with rfl | rfl | rfl | rfl | rfl | rfl | rfl | rfl
  · rw [oOrd_coal]; exact jp_coal hg iE v w
  · rw [oOrd_bronze]; exact jp_bronze hg iE v w
  · rw [oOrd_mould]; exact jp_mould hg iE v w
  · rw [oOrd_rack]; exact jp_rack hg iE v w
  · rw [oOrd_pour]; exact jp_pour hg iE v w
  · rw [oOrd_pass]; exact jp_pass hg iE v w
  · rw [oOrd_take]; exact jp_take hg iE v w
  · rw [oOrd_recast]; exact jp_recast hg iE v w
set_option maxRecDepth 20000 in
theorem jr (hg : gOK G) (hE : cpl E N.g) (iE : fI E) (k : Int32) (v w : Nat) (hk : isKd k) (h : ¬ (oOrd N E.M.1 E.R.1 E.B.1 (k, v, w)).1 = 1) : Spec G 5 0 0 m_X8_isRefused [.ref 0, .int k, .int (nI v), .int (nI w)] (ww F E H r X ht P S sd er t) (fun b w' => ∃ y, b = some (.int y) ∧ ((y = nI 1 ∧ ∃ a c, oOrd N E.M.1 E.R.1 E.B.1 (k, v, w) = (2, 0, N.ref (nI 2) a c) ∧ w' = ww F E H (a, c) X ht P S sd er t) ∨ (y = nI 0 ∧ (oOrd N E.M.1 E.R.1 E.B.1 (k, v, w)).1 = 0 ∧ w' = ww F E H r X ht P S sd er t))) NX := by
  rcases hk with rfl | rfl | rfl | rfl | rfl | rfl | rfl | rfl
  · rw [oOrd_coal] at h ⊢; exact jr_coal hg hE iE v w h
  · rw [oOrd_bronze] at h ⊢; exact jr_bronze hg hE iE v w h
  · rw [oOrd_mould] at h ⊢; exact jr_mould hg hE iE v w h
  · rw [oOrd_rack] at h ⊢; exact jr_rack hg hE iE v w h
  · rw [oOrd_pour] at h ⊢; exact jr_pour hg hE iE v w h
  · rw [oOrd_pass] at h ⊢; exact jr_pass hg hE iE v w h
  · rw [oOrd_take] at h ⊢; exact jr_take hg hE iE v w h
  · rw [oOrd_recast] at h ⊢; exact jr_recast hg hE iE v w h
set_option maxRecDepth 20000 in
theorem jc (hg : gOK G) (hE : cpl E N.g) (iE : fI E) (k : Int32) (v w : Nat) (hk : isKd k) (h : (oOrd N E.M.1 E.R.1 E.B.1 (k, v, w)).1 = 0) : Spec G 6 0 0 m_X8_carryOut [.ref 0, .int k, .int (nI v), .int (nI w)] (ww F E H r X ht P S sd er t) (fun b w' => b = none ∧ ∃ E', w' = ww F E' H r X ht P S sd er t ∧ cpl E' (oOrd N E.M.1 E.R.1 E.B.1 (k, v, w)).2.2.g ∧ fI E') NX := by
  rcases hk with rfl | rfl | rfl | rfl | rfl | rfl | rfl | rfl
  · rw [oOrd_coal] at h ⊢; exact jc_coal hg hE iE v w h
  · rw [oOrd_bronze] at h ⊢; exact jc_bronze hg hE iE v w h
  · rw [oOrd_mould] at h ⊢; exact jc_mould hg hE iE v w h
  · rw [oOrd_rack] at h ⊢; exact jc_rack hg hE iE v w h
  · rw [oOrd_pour] at h ⊢; exact jc_pour hg hE iE v w h
  · rw [oOrd_pass] at h ⊢; exact jc_pass hg hE iE v w h
  · rw [oOrd_take] at h ⊢; exact jc_take hg hE iE v w h
  · rw [oOrd_recast] at h ⊢; exact jc_recast hg hE iE v w h
set_option maxRecDepth 20000 in
theorem judge (hg : gOK G) (hE : cpl E N.g) (iE : fI E) (k : Int32) (v w : Nat) (hk : isKd k) : Spec G 6 0 0 m_X8_judge [.ref 0, .int k, .int (nI v), .int (nI w)] (ww F E H r X ht P S sd er t) (fun b w' => ∃ j, b = some (.retAddr j) ∧ ((j = 3 ∧ (oOrd N E.M.1 E.R.1 E.B.1 (k, v, w)).1 = 0 ∧ w' = ww F E H r X ht P S sd er t) ∨ (j = 4 ∧ oOrd N E.M.1 E.R.1 E.B.1 (k, v, w) = (1, 0, N.s_co (nI 1)) ∧ w' = ww F E H r X ht P S sd er t) ∨ (j = 5 ∧ ∃ a c, oOrd N E.M.1 E.R.1 E.B.1 (k, v, w) = (2, 0, N.ref (nI 2) a c) ∧ w' = ww F E H (a, c) X ht P S sd er t))) NX := by
  refine wp_spec (M := M_X8_judge) hg ok_X8_judge cut0 60 rfl rfl ?_
  repeat' (first | refine And.intro ?_ ?_ | (with_reducible intro h9; exact absurd h9 (by simp only [cI, cN]; decide +kernel)) | with_reducible intro _ | exact (rfl : narrow _ _ = _) | decide | (unfold vp_in; decide) | refine Eq.mpr (fL_eq _ _) ?_ | refine Eq.mpr (fW_eq _ _) ?_ | refine Eq.mpr (fN_eq _ _) ?_)
  refine cci 31 (jp (N := N) hg iE k v w hk) (by decide) (by decide) (by decide) (by first | rfl | (simp only [renVs]; rfl)) (by first | rfl | (simp (discharger := omega) only [renVs, renV, rnI, cI, cN, ← nI_0, nI_ltI, nI_leI, nI_eq, nI_add, pk_mul, pk_sub, nI_clamp, vinI, not_true_eq_false, not_false_eq_true, iK0, iK1, iK2, iK3, iK4, iK5, iKm1, bK6, bK7, bK8, bK9, bK10, bK12, bK14, bK15, bK16, bK20, bK21, bK26, bK30, bK32, bK33, bK45, bK48, bK57, bK59, bK60, bK62, bK63, bK64, bK80, bK93, bK98, bK99, bK100, bK104, bK107, bK109, bK110, bK112, bK113, bK114, bK115, bK116, bK119, sK255, sK256, sK500, sK700, sK798, sK912, sK1400, sK2000])) ?_ (fun _ _ h => h.elim)
  (rintro _ _ ⟨_, rfl, rfl, (⟨rfl, q⟩ | ⟨rfl, q⟩)⟩) <;> (repeat' (first | refine And.intro ?_ ?_ | (with_reducible intro h9; exact absurd h9 (by simp only [cI, cN]; decide +kernel)) | with_reducible intro _ | exact (rfl : narrow _ _ = _) | decide | (unfold vp_in; decide) | refine Eq.mpr (fL_eq _ _) ?_ | refine Eq.mpr (fW_eq _ _) ?_ | refine Eq.mpr (fN_eq _ _) ?_))
  · refine cci 31 (jr hg hE iE k v w hk q) (by decide) (by decide) (by decide) (by first | rfl | (simp only [renVs]; rfl)) (by first | rfl | (simp (discharger := omega) only [renVs, renV, rnI, cI, cN, ← nI_0, nI_ltI, nI_leI, nI_eq, nI_add, pk_mul, pk_sub, nI_clamp, vinI, not_true_eq_false, not_false_eq_true, iK0, iK1, iK2, iK3, iK4, iK5, iKm1, bK6, bK7, bK8, bK9, bK10, bK12, bK14, bK15, bK16, bK20, bK21, bK26, bK30, bK32, bK33, bK45, bK48, bK57, bK59, bK60, bK62, bK63, bK64, bK80, bK93, bK98, bK99, bK100, bK104, bK107, bK109, bK110, bK112, bK113, bK114, bK115, bK116, bK119, sK255, sK256, sK500, sK700, sK798, sK912, sK1400, sK2000])) ?_ (fun _ _ h => h.elim)
    (rintro _ _ ⟨_, rfl, (⟨rfl, a, c, q2, rfl⟩ | ⟨rfl, q2, rfl⟩)⟩) <;> (repeat' (first | refine And.intro ?_ ?_ | (with_reducible intro h9; exact absurd h9 (by simp only [cI, cN]; decide +kernel)) | with_reducible intro _ | exact (rfl : narrow _ _ = _) | decide | (unfold vp_in; decide) | refine Eq.mpr (fL_eq _ _) ?_ | refine Eq.mpr (fW_eq _ _) ?_ | refine Eq.mpr (fN_eq _ _) ?_))
    · exact ⟨_, rfl, Or.inr (Or.inr ⟨rfl, a, c, q2, rfl⟩)⟩
    · exact ⟨_, rfl, Or.inl ⟨rfl, q2, rfl⟩⟩
  · exact ⟨_, rfl, Or.inr (Or.inl ⟨rfl, q, rfl⟩)⟩
end OR
