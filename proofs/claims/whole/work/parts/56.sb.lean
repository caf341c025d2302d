/-! ===== StringBuilder: what needs no growth ===== -/
theorem sh0 (x : Int32) : x >>> ((0 : Int32) &&& 31) = x := by
  rw [show (0 : Int32) &&& 31 = 0 by decide]
  exact Int32.shiftRight_zero
theorem chB : ∀ c : Fin 128, vp_nar .byte (nI c.1).toInt8.toInt32 = nI c.1 ∧ ((nI c.1 &&& nI 255).toUInt32 % 65536).toInt32 = nI c.1 := by decide +kernel
def sbw (f : Nat → Int32) (n cap : Nat) (ml : Int32) : xW := [.inr (1, [.ref 1, .int 0, .int ml, .int (nI n)]), .inl (3, cap, .inl f)]
section SB
variable {G : gT}
set_option maxRecDepth 20000 in
theorem sb_len5 (hg : gOK G) (f : Nat → Int32) (n cap : Nat) (ml : Int32) : Spec G 1 0 0 m_J5_length_8abf5 [.ref 0] (sbw f n cap ml) (fun v w' => v = some (.int (nI n)) ∧ w' = sbw f n cap ml) NX := by
  refine wp_spec (M := M_J5_length_8abf5) hg ok_J5_length_8abf5 cut0 60 rfl rfl ?_
  repeat' (first | refine And.intro ?_ ?_ | (with_reducible intro h9; exact absurd h9 (by simp only [cI, cN]; decide +kernel)) | with_reducible intro _ | exact (rfl : narrow _ _ = _) | decide | (unfold vp_in; decide))
  all_goals rfl
set_option maxRecDepth 20000 in
theorem sb_len (hg : gOK G) (f : Nat → Int32) (n cap : Nat) (ml : Int32) : Spec G 2 0 0 m_J4_length_8abf5 [.ref 0] (sbw f n cap ml) (fun v w' => v = some (.int (nI n)) ∧ w' = sbw f n cap ml) NX := by
  refine wp_spec (M := M_J4_length_8abf5) hg ok_J4_length_8abf5 cut0 60 rfl rfl ?_
  repeat' (first | refine And.intro ?_ ?_ | (with_reducible intro h9; exact absurd h9 (by simp only [cI, cN]; decide +kernel)) | with_reducible intro _ | exact (rfl : narrow _ _ = _) | decide | (unfold vp_in; decide))
  refine cc0 [0, 1] (sb_len5 hg f n cap ml) (by decide) (by decide) (by decide) rfl (by repeat' (first | exact trivial | refine And.intro ?_ ?_ | rfl)) (by first | rfl | (simp (discharger := omega) only [renVs, renV, rnI, cI, cN, ← nI_0, nI_ltI, nI_leI, nI_eq, nI_add, pk_mul, pk_sub, nI_clamp, vinI, not_true_eq_false, not_false_eq_true, iK0, iK1, iK2, iK3, iK4, iK5, iKm1, bK6, bK7, bK8, bK9, bK10, bK12, bK14, bK15, bK16, bK20, bK21, bK26, bK30, bK32, bK33, bK45, bK48, bK57, bK59, bK60, bK62, bK63, bK64, bK80, bK93, bK98, bK99, bK100, bK104, bK107, bK109, bK110, bK112, bK113, bK114, bK115, bK116, bK119, sK255, sK256, sK500, sK700, sK798, sK912, sK1400, sK2000])) ?_
  (rintro _ _ ⟨rfl, rfl⟩) <;> (repeat' (first | refine And.intro ?_ ?_ | (with_reducible intro h9; exact absurd h9 (by simp only [cI, cN]; decide +kernel)) | with_reducible intro _ | exact (rfl : narrow _ _ = _) | decide | (unfold vp_in; decide)))
  all_goals rfl
set_option maxRecDepth 20000 in
theorem sb_latin (hg : gOK G) (f : Nat → Int32) (n cap : Nat) (ml : Int32) : Spec G 1 0 0 m_J5_isLatin1_aae02 [.ref 0] (sbw f n cap ml) (fun v w' => v = some (.int (nI 1)) ∧ w' = sbw f n cap ml) NX := by
  refine wp_spec (M := M_J5_isLatin1_aae02) hg ok_J5_isLatin1_aae02 cut0 60 rfl rfl ?_
  repeat' (first | refine And.intro ?_ ?_ | (with_reducible intro h9; exact absurd h9 (by simp only [cI, cN]; decide +kernel)) | with_reducible intro _ | exact (rfl : narrow _ _ = _) | decide | (unfold vp_in; decide))
  all_goals rfl
set_option maxRecDepth 20000 in
theorem sb_enc (hg : gOK G) (c : Nat) (hc : c < 256) : Spec G 1 0 0 m_J1_canEncode_fc78d [.int (nI c)] [] (fun v w' => v = some (.int (nI 1)) ∧ w' = []) NX := by
  refine wp_spec (M := M_J1_canEncode_fc78d) hg ok_J1_canEncode_fc78d cut0 60 rfl rfl ?_
  repeat' (first | refine And.intro ?_ ?_ | (with_reducible intro h9; exact absurd h9 (by simp only [cI, cN]; decide +kernel)) | with_reducible intro _ | exact (rfl : narrow _ _ = _) | decide | (unfold vp_in; decide))
  all_goals first
    | rfl
    | (rename_i g; exfalso; simp (discharger := omega) only [upd_ne, upd_eq, Classical.not_not, cI, cN, ← nI_0, nI_ltI, nI_leI, nI_eq, nI_add, pk_mul, pk_sub, nI_clamp, vinI, not_true_eq_false, not_false_eq_true, iK0, iK1, iK2, iK3, iK4, iK5, iKm1, bK6, bK7, bK8, bK9, bK10, bK12, bK14, bK15, bK16, bK20, bK21, bK26, bK30, bK32, bK33, bK45, bK48, bK57, bK59, bK60, bK62, bK63, bK64, bK80, bK93, bK98, bK99, bK100, bK104, bK107, bK109, bK110, bK112, bK113, bK114, bK115, bK116, bK119, sK255, sK256, sK500, sK700, sK798, sK912, sK1400, sK2000] at g; omega)
set_option maxRecDepth 20000 in
theorem sb_ens (hg : gOK G) (f : Nat → Int32) (n cap m : Nat) (ml : Int32) (hm : m ≤ cap) (hc : cap < 1000) : Spec G 2 0 0 m_J5_ensureCapacityInternal_d00df [.ref 0, .int (nI m)] (sbw f n cap ml) (fun v w' => v = none ∧ w' = sbw f n cap ml) NX := by
  refine wp_spec (M := M_J5_ensureCapacityInternal_d00df) hg ok_J5_ensureCapacityInternal_d00df cut0 60 rfl rfl ?_
  repeat' (first | refine And.intro ?_ ?_ | (with_reducible intro h9; exact absurd h9 (by simp only [cI, cN]; decide +kernel)) | with_reducible intro _ | exact (rfl : narrow _ _ = _) | decide | (unfold vp_in; decide))
  · rfl
  · rename_i g
    exfalso
    simp only [cN, sh0, Int32.le_iff_toInt_le] at g
    rw [pk_sub_toInt (by omega) (by omega)] at g
    exact g (by show (m : Int) - cap ≤ 0; omega)
set_option maxRecDepth 20000 in
theorem sb_set5 (hg : gOK G) (f : Nat → Int32) (n cap : Nat) (ml : Int32) (hn : n ≤ cap) (hc : cap < 1000) : Spec G 3 0 0 m_J5_setLength_d00df [.ref 0, .int (nI 0)] (sbw f n cap ml) (fun v w' => v = none ∧ ∃ ml', w' = sbw f 0 cap ml') NX := by
  refine wp_spec (M := M_J5_setLength_d00df) hg ok_J5_setLength_d00df cut0 60 rfl rfl ?_
  repeat' (first | refine And.intro ?_ ?_ | (with_reducible intro h9; exact absurd h9 (by simp only [cI, cN]; decide +kernel)) | with_reducible intro _ | exact (rfl : narrow _ _ = _) | decide | (unfold vp_in; decide))
  refine cc0 [0, 1] (sb_ens hg f n cap 0 ml (by omega) hc) (by decide) (by decide) (by decide) rfl (by repeat' (first | exact trivial | refine And.intro ?_ ?_ | rfl)) (by first | rfl | (simp (discharger := omega) only [renVs, renV, rnI, cI, cN, ← nI_0, nI_ltI, nI_leI, nI_eq, nI_add, pk_mul, pk_sub, nI_clamp, vinI, not_true_eq_false, not_false_eq_true, iK0, iK1, iK2, iK3, iK4, iK5, iKm1, bK6, bK7, bK8, bK9, bK10, bK12, bK14, bK15, bK16, bK20, bK21, bK26, bK30, bK32, bK33, bK45, bK48, bK57, bK59, bK60, bK62, bK63, bK64, bK80, bK93, bK98, bK99, bK100, bK104, bK107, bK109, bK110, bK112, bK113, bK114, bK115, bK116, bK119, sK255, sK256, sK500, sK700, sK798, sK912, sK1400, sK2000])) ?_
  (rintro _ _ ⟨rfl, rfl⟩) <;> (repeat' (first | refine And.intro ?_ ?_ | (with_reducible intro h9; exact absurd h9 (by simp only [cI, cN]; decide +kernel)) | with_reducible intro _ | exact (rfl : narrow _ _ = _) | decide | (unfold vp_in; decide)))
  · exact ⟨_, rfl⟩
  · exact ⟨_, rfl⟩
  · rename_i g
    exfalso
    simp (discharger := omega) only [upd_ne, upd_eq, Classical.not_not, cI, cN, ← nI_0, nI_ltI, nI_leI, nI_eq, nI_add, pk_mul, pk_sub, nI_clamp, vinI, not_true_eq_false, not_false_eq_true, iK0, iK1, iK2, iK3, iK4, iK5, iKm1, bK6, bK7, bK8, bK9, bK10, bK12, bK14, bK15, bK16, bK20, bK21, bK26, bK30, bK32, bK33, bK45, bK48, bK57, bK59, bK60, bK62, bK63, bK64, bK80, bK93, bK98, bK99, bK100, bK104, bK107, bK109, bK110, bK112, bK113, bK114, bK115, bK116, bK119, sK255, sK256, sK500, sK700, sK798, sK912, sK1400, sK2000] at g
    omega
set_option maxRecDepth 20000 in
theorem sb_set (hg : gOK G) (f : Nat → Int32) (n cap : Nat) (ml : Int32) (hn : n ≤ cap) (hc : cap < 1000) : Spec G 4 0 0 m_J4_setLength_d00df [.ref 0, .int (nI 0)] (sbw f n cap ml) (fun v w' => v = none ∧ ∃ ml', w' = sbw f 0 cap ml') NX := by
  refine wp_spec (M := M_J4_setLength_d00df) hg ok_J4_setLength_d00df cut0 60 rfl rfl ?_
  repeat' (first | refine And.intro ?_ ?_ | (with_reducible intro h9; exact absurd h9 (by simp only [cI, cN]; decide +kernel)) | with_reducible intro _ | exact (rfl : narrow _ _ = _) | decide | (unfold vp_in; decide))
  refine cc0 [0, 1] (sb_set5 hg f n cap ml hn hc) (by decide) (by decide) (by decide) rfl (by repeat' (first | exact trivial | refine And.intro ?_ ?_ | rfl)) (by first | rfl | (simp (discharger := omega) only [renVs, renV, rnI, cI, cN, ← nI_0, nI_ltI, nI_leI, nI_eq, nI_add, pk_mul, pk_sub, nI_clamp, vinI, not_true_eq_false, not_false_eq_true, iK0, iK1, iK2, iK3, iK4, iK5, iKm1, bK6, bK7, bK8, bK9, bK10, bK12, bK14, bK15, bK16, bK20, bK21, bK26, bK30, bK32, bK33, bK45, bK48, bK57, bK59, bK60, bK62, bK63, bK64, bK80, bK93, bK98, bK99, bK100, bK104, bK107, bK109, bK110, bK112, bK113, bK114, bK115, bK116, bK119, sK255, sK256, sK500, sK700, sK798, sK912, sK1400, sK2000])) ?_
  (rintro _ _ ⟨rfl, ml', rfl⟩) <;> (repeat' (first | refine And.intro ?_ ?_ | (with_reducible intro h9; exact absurd h9 (by simp only [cI, cN]; decide +kernel)) | with_reducible intro _ | exact (rfl : narrow _ _ = _) | decide | (unfold vp_in; decide)))
  exact ⟨_, rfl⟩
set_option maxRecDepth 20000 in
theorem sb_app5 (hg : gOK G) (f : Nat → Int32) (n cap c : Nat) (ml : Int32) (hn : n < cap) (hc : cap < 1000) (h : c < 128) : Spec G 3 0 0 m_J5_append_3fe6f [.ref 0, .int (nI c)] (sbw f n cap ml) (fun v w' => v = some (.ref 0) ∧ w' = sbw (upd f n (nI c)) (n + 1) cap ml) NX := by
  have eb := (chB ⟨c, h⟩).1
  simp only at eb
  refine wp_spec (M := M_J5_append_3fe6f) hg ok_J5_append_3fe6f cut0 60 rfl rfl ?_
  repeat' (first | refine And.intro ?_ ?_ | (with_reducible intro h9; exact absurd h9 (by simp only [cI, cN]; decide +kernel)) | with_reducible intro _ | exact (rfl : narrow _ _ = _) | decide | (unfold vp_in; decide))
  refine cc0 [0, 1] (sb_ens hg f n cap (n + 1) ml (by omega) hc) (by decide) (by decide) (by decide) rfl (by repeat' (first | exact trivial | refine And.intro ?_ ?_ | rfl)) (by first | rfl | (simp (discharger := omega) only [renVs, renV, rnI, cI, cN, ← nI_0, nI_ltI, nI_leI, nI_eq, nI_add, pk_mul, pk_sub, nI_clamp, vinI, not_true_eq_false, not_false_eq_true, iK0, iK1, iK2, iK3, iK4, iK5, iKm1, bK6, bK7, bK8, bK9, bK10, bK12, bK14, bK15, bK16, bK20, bK21, bK26, bK30, bK32, bK33, bK45, bK48, bK57, bK59, bK60, bK62, bK63, bK64, bK80, bK93, bK98, bK99, bK100, bK104, bK107, bK109, bK110, bK112, bK113, bK114, bK115, bK116, bK119, sK255, sK256, sK500, sK700, sK798, sK912, sK1400, sK2000])) ?_
  (rintro _ _ ⟨rfl, rfl⟩) <;> (repeat' (first | refine And.intro ?_ ?_ | (with_reducible intro h9; exact absurd h9 (by simp only [cI, cN]; decide +kernel)) | with_reducible intro _ | exact (rfl : narrow _ _ = _) | decide | (unfold vp_in; decide)))
  refine cc0 [0, 1] (sb_latin hg f n cap ml) (by decide) (by decide) (by decide) rfl (by repeat' (first | exact trivial | refine And.intro ?_ ?_ | rfl)) (by first | rfl | (simp (discharger := omega) only [renVs, renV, rnI, cI, cN, ← nI_0, nI_ltI, nI_leI, nI_eq, nI_add, pk_mul, pk_sub, nI_clamp, vinI, not_true_eq_false, not_false_eq_true, iK0, iK1, iK2, iK3, iK4, iK5, iKm1, bK6, bK7, bK8, bK9, bK10, bK12, bK14, bK15, bK16, bK20, bK21, bK26, bK30, bK32, bK33, bK45, bK48, bK57, bK59, bK60, bK62, bK63, bK64, bK80, bK93, bK98, bK99, bK100, bK104, bK107, bK109, bK110, bK112, bK113, bK114, bK115, bK116, bK119, sK255, sK256, sK500, sK700, sK798, sK912, sK1400, sK2000])) ?_
  (rintro _ _ ⟨rfl, rfl⟩) <;> (repeat' (first | refine And.intro ?_ ?_ | (with_reducible intro h9; exact absurd h9 (by simp only [cI, cN]; decide +kernel)) | with_reducible intro _ | exact (rfl : narrow _ _ = _) | decide | (unfold vp_in; decide)))
  refine cc0 [] (sb_enc hg c (by omega)) (by decide) (by decide) (by decide) rfl (by repeat' (first | exact trivial | refine And.intro ?_ ?_ | rfl)) (by first | rfl | (simp (discharger := omega) only [renVs, renV, rnI, cI, cN, ← nI_0, nI_ltI, nI_leI, nI_eq, nI_add, pk_mul, pk_sub, nI_clamp, vinI, not_true_eq_false, not_false_eq_true, iK0, iK1, iK2, iK3, iK4, iK5, iKm1, bK6, bK7, bK8, bK9, bK10, bK12, bK14, bK15, bK16, bK20, bK21, bK26, bK30, bK32, bK33, bK45, bK48, bK57, bK59, bK60, bK62, bK63, bK64, bK80, bK93, bK98, bK99, bK100, bK104, bK107, bK109, bK110, bK112, bK113, bK114, bK115, bK116, bK119, sK255, sK256, sK500, sK700, sK798, sK912, sK1400, sK2000])) ?_
  (rintro _ _ ⟨rfl, rfl⟩) <;> (repeat' (first | refine And.intro ?_ ?_ | (with_reducible intro h9; exact absurd h9 (by simp only [cI, cN]; decide +kernel)) | with_reducible intro _ | exact (rfl : narrow _ _ = _) | decide | (unfold vp_in; decide)))
  · rw [vinI (by omega)]; omega
  · rw [nI_clamp (by omega), eb, iK1, nI_add]
    rfl
set_option maxRecDepth 20000 in
theorem sb_app (hg : gOK G) (f : Nat → Int32) (n cap c : Nat) (ml : Int32) (hn : n < cap) (hc : cap < 1000) (h : c < 128) : Spec G 4 0 0 m_J4_append_cf468 [.ref 0, .int (nI c)] (sbw f n cap ml) (fun v w' => v = some (.ref 0) ∧ w' = sbw (upd f n (nI c)) (n + 1) cap ml) NX := by
  refine wp_spec (M := M_J4_append_cf468) hg ok_J4_append_cf468 cut0 60 rfl rfl ?_
  repeat' (first | refine And.intro ?_ ?_ | (with_reducible intro h9; exact absurd h9 (by simp only [cI, cN]; decide +kernel)) | with_reducible intro _ | exact (rfl : narrow _ _ = _) | decide | (unfold vp_in; decide))
  refine cc0 [0, 1] (sb_app5 hg f n cap c ml hn hc h) (by decide) (by decide) (by decide) rfl (by repeat' (first | exact trivial | refine And.intro ?_ ?_ | rfl)) (by first | rfl | (simp (discharger := omega) only [renVs, renV, rnI, cI, cN, ← nI_0, nI_ltI, nI_leI, nI_eq, nI_add, pk_mul, pk_sub, nI_clamp, vinI, not_true_eq_false, not_false_eq_true, iK0, iK1, iK2, iK3, iK4, iK5, iKm1, bK6, bK7, bK8, bK9, bK10, bK12, bK14, bK15, bK16, bK20, bK21, bK26, bK30, bK32, bK33, bK45, bK48, bK57, bK59, bK60, bK62, bK63, bK64, bK80, bK93, bK98, bK99, bK100, bK104, bK107, bK109, bK110, bK112, bK113, bK114, bK115, bK116, bK119, sK255, sK256, sK500, sK700, sK798, sK912, sK1400, sK2000])) ?_
  (rintro _ _ ⟨rfl, rfl⟩) <;> (repeat' (first | refine And.intro ?_ ?_ | (with_reducible intro h9; exact absurd h9 (by simp only [cI, cN]; decide +kernel)) | with_reducible intro _ | exact (rfl : narrow _ _ = _) | decide | (unfold vp_in; decide)))
  all_goals rfl
set_option maxRecDepth 20000 in
theorem sb_init5 (hg : gOK G) : Spec G 3 1 16 m_J5_init_d00df [.ref 0, .int (nI 16)] [.inr (1, [.null, .int 0, .int 0, .int 0])] (fun v w' => v = none ∧ w' = sbw (fun _ => 0) 0 16 0) NX := by
  refine wp_spec (M := M_J5_init_d00df) hg ok_J5_init_d00df cut0 60 rfl rfl ?_
  repeat' (first | refine And.intro ?_ ?_ | (with_reducible intro h9; exact absurd h9 (by simp only [cI, cN]; decide +kernel)) | with_reducible intro _ | exact (rfl : narrow _ _ = _) | decide | (unfold vp_in; decide))
  all_goals first | rfl | decide
set_option maxRecDepth 20000 in
theorem sb_init (hg : gOK G) : Spec G 4 1 16 m_J4_init_da8c8 [.ref 0] [.inr (1, [.null, .int 0, .int 0, .int 0])] (fun v w' => v = none ∧ w' = sbw (fun _ => 0) 0 16 0) NX := by
  refine wp_spec (M := M_J4_init_da8c8) hg ok_J4_init_da8c8 cut0 60 rfl rfl ?_
  repeat' (first | refine And.intro ?_ ?_ | (with_reducible intro h9; exact absurd h9 (by simp only [cI, cN]; decide +kernel)) | with_reducible intro _ | exact (rfl : narrow _ _ = _) | decide | (unfold vp_in; decide))
  refine cc0 [0] (sb_init5 hg) (by decide) (by decide) (by decide) rfl (by repeat' (first | exact trivial | refine And.intro ?_ ?_ | rfl)) (by first | rfl | (simp (discharger := omega) only [renVs, renV, rnI, cI, cN, ← nI_0, nI_ltI, nI_leI, nI_eq, nI_add, pk_mul, pk_sub, nI_clamp, vinI, not_true_eq_false, not_false_eq_true, iK0, iK1, iK2, iK3, iK4, iK5, iKm1, bK6, bK7, bK8, bK9, bK10, bK12, bK14, bK15, bK16, bK20, bK21, bK26, bK30, bK32, bK33, bK45, bK48, bK57, bK59, bK60, bK62, bK63, bK64, bK80, bK93, bK98, bK99, bK100, bK104, bK107, bK109, bK110, bK112, bK113, bK114, bK115, bK116, bK119, sK255, sK256, sK500, sK700, sK798, sK912, sK1400, sK2000])) ?_
  (rintro _ _ ⟨rfl, rfl⟩) <;> (repeat' (first | refine And.intro ?_ ?_ | (with_reducible intro h9; exact absurd h9 (by simp only [cI, cN]; decide +kernel)) | with_reducible intro _ | exact (rfl : narrow _ _ = _) | decide | (unfold vp_in; decide)))
  all_goals first | rfl | decide
set_option maxRecDepth 20000 in
theorem sb_chk (hg : gOK G) (i n : Nat) (hi : i < n) (hn : n < 1000) : Spec G 2 0 0 m_J0_checkIndex_df160 [.int (nI i), .int (nI n)] [] (fun v w' => v = none ∧ w' = []) NX := by
  have sp : Spec G 1 0 0 m_J3_checkIndex_8e157 [.int (nI i), .int (nI n), .retAddr 7] [] (fun v w' => v = some (.int (nI i)) ∧ w' = []) NX := by
    refine wp_spec (M := M_J3_checkIndex_8e157) hg ok_J3_checkIndex_8e157 cut0 60 rfl rfl ?_
    repeat' (first | refine And.intro ?_ ?_ | (with_reducible intro h9; exact absurd h9 (by simp only [cI, cN]; decide +kernel)) | with_reducible intro _ | exact (rfl : narrow _ _ = _) | decide | (unfold vp_in; decide))
    all_goals try (exfalso; rename_i h9; simp (discharger := omega) only [cI, cN, ← nI_0, nI_ltI, nI_leI, nI_eq, nI_add, pk_mul, pk_sub, nI_clamp, vinI, not_true_eq_false, not_false_eq_true, iK0, iK1, iK2, iK3, iK4, iK5, iKm1, bK6, bK7, bK8, bK9, bK10, bK12, bK14, bK15, bK16, bK20, bK21, bK26, bK30, bK32, bK33, bK45, bK48, bK57, bK59, bK60, bK62, bK63, bK64, bK80, bK93, bK98, bK99, bK100, bK104, bK107, bK109, bK110, bK112, bK113, bK114, bK115, bK116, bK119, sK255, sK256, sK500, sK700, sK798, sK912, sK1400, sK2000] at h9 <;> first | done | omega)
    all_goals rfl
  refine wp_spec (M := M_J0_checkIndex_df160) hg ok_J0_checkIndex_df160 cut0 60 rfl rfl ?_
  repeat' (first | refine And.intro ?_ ?_ | (with_reducible intro h9; exact absurd h9 (by simp only [cI, cN]; decide +kernel)) | with_reducible intro _ | exact (rfl : narrow _ _ = _) | decide | (unfold vp_in; decide))
  refine cc0 [] (sp) (by decide) (by decide) (by decide) rfl (by repeat' (first | exact trivial | refine And.intro ?_ ?_ | rfl)) (by first | rfl | (simp (discharger := omega) only [renVs, renV, rnI, cI, cN, ← nI_0, nI_ltI, nI_leI, nI_eq, nI_add, pk_mul, pk_sub, nI_clamp, vinI, not_true_eq_false, not_false_eq_true, iK0, iK1, iK2, iK3, iK4, iK5, iKm1, bK6, bK7, bK8, bK9, bK10, bK12, bK14, bK15, bK16, bK20, bK21, bK26, bK30, bK32, bK33, bK45, bK48, bK57, bK59, bK60, bK62, bK63, bK64, bK80, bK93, bK98, bK99, bK100, bK104, bK107, bK109, bK110, bK112, bK113, bK114, bK115, bK116, bK119, sK255, sK256, sK500, sK700, sK798, sK912, sK1400, sK2000])) ?_
  (rintro _ _ ⟨rfl, rfl⟩) <;> (repeat' (first | refine And.intro ?_ ?_ | (with_reducible intro h9; exact absurd h9 (by simp only [cI, cN]; decide +kernel)) | with_reducible intro _ | exact (rfl : narrow _ _ = _) | decide | (unfold vp_in; decide)))
  all_goals rfl
set_option maxRecDepth 20000 in
theorem sb_at5 (hg : gOK G) (f : Nat → Int32) (n cap i z : Nat) (ml : Int32) (hi : i < n) (hn : n ≤ cap) (hc : cap < 1000) (hz : z < 128) (hf : f i = nI z) : Spec G 3 0 0 m_J5_charAt_5068e [.ref 0, .int (nI i)] (sbw f n cap ml) (fun v w' => v = some (.int (nI z)) ∧ w' = sbw f n cap ml) NX := by
  have ec := (chB ⟨z, hz⟩).2
  simp only at ec
  have em : (if nI cap >>> ((0 : Int32) &&& 31) < nI n then nI cap >>> ((0 : Int32) &&& 31) else nI n) = nI n := by
    rw [sh0, if_neg (by rw [nI_ltI (by omega) (by omega)]; omega)]
  have em2 : (if nI cap >>> (nI 0 &&& 31) < nI n then nI cap >>> (nI 0 &&& 31) else nI n) = nI n := by rw [nI_0]; exact em
  refine wp_spec (M := M_J5_charAt_5068e) hg ok_J5_charAt_5068e cut0 60 rfl rfl ?_
  repeat' (first | refine And.intro ?_ ?_ | (with_reducible intro h9; exact absurd h9 (by simp only [cI, cN]; decide +kernel)) | with_reducible intro _ | exact (rfl : narrow _ _ = _) | decide | (unfold vp_in; decide))
  refine cc0 [] (sb_chk hg i n hi (by omega)) (by decide) (by decide) (by decide) rfl (by repeat' (first | exact trivial | refine And.intro ?_ ?_ | rfl | (simp only [em2]; rfl))) (by first | rfl | (simp (discharger := omega) only [renVs, renV, rnI, em2, cI, cN, ← nI_0, nI_ltI, nI_leI, nI_eq, nI_add, pk_mul, pk_sub, nI_clamp, vinI, not_true_eq_false, not_false_eq_true, iK0, iK1, iK2, iK3, iK4, iK5, iKm1, bK6, bK7, bK8, bK9, bK10, bK12, bK14, bK15, bK16, bK20, bK21, bK26, bK30, bK32, bK33, bK45, bK48, bK57, bK59, bK60, bK62, bK63, bK64, bK80, bK93, bK98, bK99, bK100, bK104, bK107, bK109, bK110, bK112, bK113, bK114, bK115, bK116, bK119, sK255, sK256, sK500, sK700, sK798, sK912, sK1400, sK2000])) ?_
  (rintro _ _ ⟨rfl, rfl⟩) <;> (repeat' (first | refine And.intro ?_ ?_ | (with_reducible intro h9; exact absurd h9 (by simp only [cI, cN]; decide +kernel)) | with_reducible intro _ | exact (rfl : narrow _ _ = _) | decide | (unfold vp_in; decide)))
  · rw [vinI (by omega)]; omega
  · rw [nI_clamp (by omega), hf, sK255, ec]
    exact (pk_charN (show z < 65536 by omega)).1
  · rw [nI_clamp (by omega), hf, sK255, ec]
  · rfl
set_option maxRecDepth 20000 in
theorem sbb_at (hg : gOK G) (f : Nat → Int32) (n cap i z : Nat) (ml : Int32) (hi : i < n) (hn : n ≤ cap) (hc : cap < 1000) (hz : z < 128) (hf : f i = nI z) : Spec G 4 0 0 m_J4_charAt_5068e [.ref 0, .int (nI i)] (sbw f n cap ml) (fun v w' => v = some (.int (nI z)) ∧ w' = sbw f n cap ml) NX := by
  refine wp_spec (M := M_J4_charAt_5068e) hg ok_J4_charAt_5068e cut0 60 rfl rfl ?_
  repeat' (first | refine And.intro ?_ ?_ | (with_reducible intro h9; exact absurd h9 (by simp only [cI, cN]; decide +kernel)) | with_reducible intro _ | exact (rfl : narrow _ _ = _) | decide | (unfold vp_in; decide))
  refine cc0 [0, 1] (sb_at5 hg f n cap i z ml hi hn hc hz hf) (by decide) (by decide) (by decide) rfl (by repeat' (first | exact trivial | refine And.intro ?_ ?_ | rfl)) (by first | rfl | (simp (discharger := omega) only [renVs, renV, rnI, cI, cN, ← nI_0, nI_ltI, nI_leI, nI_eq, nI_add, pk_mul, pk_sub, nI_clamp, vinI, not_true_eq_false, not_false_eq_true, iK0, iK1, iK2, iK3, iK4, iK5, iKm1, bK6, bK7, bK8, bK9, bK10, bK12, bK14, bK15, bK16, bK20, bK21, bK26, bK30, bK32, bK33, bK45, bK48, bK57, bK59, bK60, bK62, bK63, bK64, bK80, bK93, bK98, bK99, bK100, bK104, bK107, bK109, bK110, bK112, bK113, bK114, bK115, bK116, bK119, sK255, sK256, sK500, sK700, sK798, sK912, sK1400, sK2000])) ?_
  (rintro _ _ ⟨rfl, rfl⟩) <;> (repeat' (first | refine And.intro ?_ ?_ | (with_reducible intro h9; exact absurd h9 (by simp only [cI, cN]; decide +kernel)) | with_reducible intro _ | exact (rfl : narrow _ _ = _) | decide | (unfold vp_in; decide)))
  · exact (pk_charN (show z < 65536 by omega)).1
  all_goals rfl
end SB
