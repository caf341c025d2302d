/-! ===== the class's changes of bells ===== -/
section CO
variable {G : gT} {F E : fT} {H : hT} {r : Int32 × Int32} {X : xT} {ht : Nat → Int32} {P : pT7} {S : sT4} {sd : Value} {er : Int32} {t : xW} {N : nT}
set_option maxRecDepth 20000 in
theorem c_pass (hg : gOK G) (I : cV F E H r X S sd er t N) (x : Int32) : Spec G 7 8 150 m_X8_pass [.ref 0, .int x] (ww F E H r X ht P S sd er t) (ansC t (oPass N F.B.1 x)) (excC t [(0, 1)] (oPass N F.B.1 x)) := by
  refine wp_spec (M := M_X8_pass) hg ok_X8_pass cut0 60 rfl rfl ?_
  repeat' (first | refine And.intro ?_ ?_ | (with_reducible intro h9; exact absurd h9 (by simp only [cI, cN]; decide +kernel)) | with_reducible intro _ | exact (rfl : narrow _ _ = _) | decide | (unfold vp_in; decide) | refine Eq.mpr (fL_eq _ _) ?_ | refine Eq.mpr (fW_eq _ _) ?_ | refine Eq.mpr (fN_eq _ _) ?_)
  refine ccn 31 [] (bc_within hg x (nI 1) (nI 48)) (by decide) (by decide) (by decide) rfl (by repeat' (first | exact trivial | refine And.intro ?_ ?_ | rfl)) (by first | rfl | (simp (discharger := omega) only [renVs, renV, rnI, cI, cN, ← nI_0, nI_ltI, nI_leI, nI_eq, nI_add, pk_mul, pk_sub, nI_clamp, vinI, not_true_eq_false, not_false_eq_true, iK0, iK1, iK2, iK3, iK4, iK5, iKm1, bK6, bK7, bK8, bK9, bK10, bK12, bK14, bK15, bK16, bK20, bK21, bK26, bK30, bK32, bK33, bK45, bK48, bK57, bK59, bK60, bK62, bK63, bK64, bK80, bK93, bK98, bK99, bK100, bK104, bK107, bK109, bK110, bK112, bK113, bK114, bK115, bK116, bK119, sK255, sK256, sK500, sK700, sK798, sK912, sK1400, sK2000])) ?_
  (rintro _ _ ⟨⟨rfl, q⟩ | ⟨rfl, q⟩, rfl⟩) <;> (repeat' (first | refine And.intro ?_ ?_ | (with_reducible intro h9; exact absurd h9 (by simp only [cI, cN]; decide +kernel)) | with_reducible intro _ | exact (rfl : narrow _ _ = _) | decide | (unfold vp_in; decide) | refine Eq.mpr (fL_eq _ _) ?_ | refine Eq.mpr (fW_eq _ _) ?_ | refine Eq.mpr (fN_eq _ _) ?_))
  · obtain ⟨k, z1, z2, rfl⟩ := btw (by omega) (by omega) q
    have l := lc_pass I.1.1 I.1.2.1 z2
    refine cci 31 (hi_rem hg I.2.1.1 I.2.1.2 I.1.1 I.1.2.1 I.len) (by decide) (by decide) (by decide) (by first | rfl | (simp only [renVs]; rfl)) (by first | rfl | (simp (discharger := omega) only [renVs, renV, rnI, cI, cN, ← nI_0, nI_ltI, nI_leI, nI_eq, nI_add, pk_mul, pk_sub, nI_clamp, vinI, not_true_eq_false, not_false_eq_true, iK0, iK1, iK2, iK3, iK4, iK5, iKm1, bK6, bK7, bK8, bK9, bK10, bK12, bK14, bK15, bK16, bK20, bK21, bK26, bK30, bK32, bK33, bK45, bK48, bK57, bK59, bK60, bK62, bK63, bK64, bK80, bK93, bK98, bK99, bK100, bK104, bK107, bK109, bK110, bK112, bK113, bK114, bK115, bK116, bK119, sK255, sK256, sK500, sK700, sK798, sK912, sK1400, sK2000])) ?_ (fun _ _ h => h.elim)
    (rintro _ _ ⟨rfl, H', t', rfl, k1, k2⟩) <;> (repeat' (first | refine And.intro ?_ ?_ | (with_reducible intro h9; exact absurd h9 (by simp only [cI, cN]; decide +kernel)) | with_reducible intro _ | exact (rfl : narrow _ _ = _) | decide | (unfold vp_in; decide) | refine Eq.mpr (fL_eq _ _) ?_ | refine Eq.mpr (fW_eq _ _) ?_ | refine Eq.mpr (fN_eq _ _) ?_))
    refine ccn 31 [1, 2, 3, 4, 5, 6, 7] (fd_hours hg F I.1.2.1.B I.1.2.1.K (nI k)) (by decide) (by decide) (by decide) rfl (by repeat' (first | exact trivial | refine And.intro ?_ ?_ | rfl)) (by first | rfl | (simp (discharger := omega) only [renVs, renV, rnI, cI, cN, ← nI_0, nI_ltI, nI_leI, nI_eq, nI_add, pk_mul, pk_sub, nI_clamp, vinI, not_true_eq_false, not_false_eq_true, iK0, iK1, iK2, iK3, iK4, iK5, iKm1, bK6, bK7, bK8, bK9, bK10, bK12, bK14, bK15, bK16, bK20, bK21, bK26, bK30, bK32, bK33, bK45, bK48, bK57, bK59, bK60, bK62, bK63, bK64, bK80, bK93, bK98, bK99, bK100, bK104, bK107, bK109, bK110, bK112, bK113, bK114, bK115, bK116, bK119, sK255, sK256, sK500, sK700, sK798, sK912, sK1400, sK2000])) ?_
    (rintro _ _ ⟨rfl, rfl⟩) <;> (repeat' (first | refine And.intro ?_ ?_ | (with_reducible intro h9; exact absurd h9 (by simp only [cI, cN]; decide +kernel)) | with_reducible intro _ | exact (rfl : narrow _ _ = _) | decide | (unfold vp_in; decide) | refine Eq.mpr (fL_eq _ _) ?_ | refine Eq.mpr (fW_eq _ _) ?_ | refine Eq.mpr (fN_eq _ _) ?_))
    show ansC t (oPass N F.B.1 (nI k)) _ _
    exact ansC_y (y := psC N.g F.B.1 k) (N1 := (N.kps N.g).s_g (psG N.g F.B.1 k)) ((if_pos q).trans (by rw [nI_clamp (by omega)])) l.2.2 (cEnd_ch I ⟨l.1, l.2.1⟩ k1 k2)
  · show excC t [(0, 1)] (oPass N F.B.1 x) 0 _
    exact excC_n (if_neg q) rfl (cEnd_co I _)
set_option maxRecDepth 20000 in
theorem c_take (hg : gOK G) (I : cV F E H r X S sd er t N) (x : Int32) : Spec G 7 8 150 m_X8_take [.ref 0, .int x] (ww F E H r X ht P S sd er t) (ansC t (oTake N F.B.1 x)) (excC t [(2, 1), (1, 2)] (oTake N F.B.1 x)) := by
  have h8 := I.nb.2
  refine wp_spec (M := M_X8_take) hg ok_X8_take cut0 60 rfl rfl ?_
  repeat' (first | refine And.intro ?_ ?_ | (with_reducible intro h9; exact absurd h9 (by simp only [cI, cN]; decide +kernel)) | with_reducible intro _ | exact (rfl : narrow _ _ = _) | decide | (unfold vp_in; decide) | refine Eq.mpr (fL_eq _ _) ?_ | refine Eq.mpr (fW_eq _ _) ?_ | refine Eq.mpr (fN_eq _ _) ?_)
  refine ccn 31 [6, 7] (tb_has hg 12 8 F.B.1 F.B.2 x (by omega)) (by decide) (by decide) (by decide) rfl (by repeat' (first | exact trivial | refine And.intro ?_ ?_ | rfl)) (by first | rfl | (simp (discharger := omega) only [renVs, renV, rnI, cI, cN, ← nI_0, nI_ltI, nI_leI, nI_eq, nI_add, pk_mul, pk_sub, nI_clamp, vinI, not_true_eq_false, not_false_eq_true, iK0, iK1, iK2, iK3, iK4, iK5, iKm1, bK6, bK7, bK8, bK9, bK10, bK12, bK14, bK15, bK16, bK20, bK21, bK26, bK30, bK32, bK33, bK45, bK48, bK57, bK59, bK60, bK62, bK63, bK64, bK80, bK93, bK98, bK99, bK100, bK104, bK107, bK109, bK110, bK112, bK113, bK114, bK115, bK116, bK119, sK255, sK256, sK500, sK700, sK798, sK912, sK1400, sK2000])) ?_
  (rintro _ _ ⟨⟨rfl, q⟩ | ⟨rfl, q⟩, rfl⟩) <;> (repeat' (first | refine And.intro ?_ ?_ | (with_reducible intro h9; exact absurd h9 (by simp only [cI, cN]; decide +kernel)) | with_reducible intro _ | exact (rfl : narrow _ _ = _) | decide | (unfold vp_in; decide) | refine Eq.mpr (fL_eq _ _) ?_ | refine Eq.mpr (fW_eq _ _) ?_ | refine Eq.mpr (fN_eq _ _) ?_))
  · obtain ⟨i, hi, rfl⟩ := q
    have e3 : N.b i 3 = F.b i 3 := b_of I.1.1 hi (by omega)
    have e4 : N.b i 4 = F.b i 4 := b_of I.1.1 hi (by omega)
    have e5 : F.b i 3 < nI 0 ↔ F.b i 3 = -1 := hall_lt (rk4 I.1.2.1 hi)
    have eD := hasD_i hi (by omega)
    have eN : (nI i).toNatClampNeg = i := nI_clamp (by omega)
    refine ccn 31 [1, 2, 3, 4, 5, 6, 7, 17] (fd_refT hg F I.1.2.1.B i hi r.1 r.2) (by decide) (by decide) (by decide) rfl (by repeat' (first | exact trivial | refine And.intro ?_ ?_ | rfl)) (by first | rfl | (simp (discharger := omega) only [renVs, renV, rnI, cI, cN, ← nI_0, nI_ltI, nI_leI, nI_eq, nI_add, pk_mul, pk_sub, nI_clamp, vinI, not_true_eq_false, not_false_eq_true, iK0, iK1, iK2, iK3, iK4, iK5, iKm1, bK6, bK7, bK8, bK9, bK10, bK12, bK14, bK15, bK16, bK20, bK21, bK26, bK30, bK32, bK33, bK45, bK48, bK57, bK59, bK60, bK62, bK63, bK64, bK80, bK93, bK98, bK99, bK100, bK104, bK107, bK109, bK110, bK112, bK113, bK114, bK115, bK116, bK119, sK255, sK256, sK500, sK700, sK798, sK912, sK1400, sK2000])) ?_
    (rintro _ _ (⟨q2, rfl, rfl⟩ | ⟨q2, q3, rfl, rfl⟩ | ⟨q2, q3, rfl, rfl⟩)) <;> (repeat' (first | refine And.intro ?_ ?_ | (with_reducible intro h9; exact absurd h9 (by simp only [cI, cN]; decide +kernel)) | with_reducible intro _ | exact (rfl : narrow _ _ = _) | decide | (unfold vp_in; decide) | refine Eq.mpr (fL_eq _ _) ?_ | refine Eq.mpr (fW_eq _ _) ?_ | refine Eq.mpr (fN_eq _ _) ?_))
    · show excC t [(2, 1), (1, 2)] (oTake N F.B.1 (nI i)) 1 _
      refine excC_n (k := 1) (y := 0) (N1 := N.ref (nI 2) (nI 5) (-1)) ?_ rfl (cEnd_ref I _ _ _)
      unfold oTake
      rw [if_pos eD, eN, e3, if_pos (e5.mpr q2)]
    · show excC t [(2, 1), (1, 2)] (oTake N F.B.1 (nI i)) 1 _
      refine excC_n (k := 1) (y := 0) (N1 := N.ref (nI 2) (nI 4) (F.b i 4)) ?_ rfl (cEnd_ref I _ _ _)
      unfold oTake
      rw [if_pos eD, eN, e3, if_neg (fun z => q2 (e5.mp z)), e4, if_neg q3]
    · refine cci 31 (hi_rem hg I.2.1.1 I.2.1.2 I.1.1 I.1.2.1 I.len) (by decide) (by decide) (by decide) (by first | rfl | (simp only [renVs]; rfl)) (by first | rfl | (simp (discharger := omega) only [renVs, renV, rnI, cI, cN, ← nI_0, nI_ltI, nI_leI, nI_eq, nI_add, pk_mul, pk_sub, nI_clamp, vinI, not_true_eq_false, not_false_eq_true, iK0, iK1, iK2, iK3, iK4, iK5, iKm1, bK6, bK7, bK8, bK9, bK10, bK12, bK14, bK15, bK16, bK20, bK21, bK26, bK30, bK32, bK33, bK45, bK48, bK57, bK59, bK60, bK62, bK63, bK64, bK80, bK93, bK98, bK99, bK100, bK104, bK107, bK109, bK110, bK112, bK113, bK114, bK115, bK116, bK119, sK255, sK256, sK500, sK700, sK798, sK912, sK1400, sK2000])) ?_ (fun _ _ h => h.elim)
      (rintro _ _ ⟨rfl, H', t', rfl, k1, k2⟩) <;> (repeat' (first | refine And.intro ?_ ?_ | (with_reducible intro h9; exact absurd h9 (by simp only [cI, cN]; decide +kernel)) | with_reducible intro _ | exact (rfl : narrow _ _ = _) | decide | (unfold vp_in; decide) | refine Eq.mpr (fL_eq _ _) ?_ | refine Eq.mpr (fW_eq _ _) ?_ | refine Eq.mpr (fN_eq _ _) ?_))
      refine ccn 31 [1, 2, 3, 4, 5, 6, 7] (fd_take hg F I.1.2.1.B i hi) (by decide) (by decide) (by decide) rfl (by repeat' (first | exact trivial | refine And.intro ?_ ?_ | rfl)) (by first | rfl | (simp (discharger := omega) only [renVs, renV, rnI, cI, cN, ← nI_0, nI_ltI, nI_leI, nI_eq, nI_add, pk_mul, pk_sub, nI_clamp, vinI, not_true_eq_false, not_false_eq_true, iK0, iK1, iK2, iK3, iK4, iK5, iKm1, bK6, bK7, bK8, bK9, bK10, bK12, bK14, bK15, bK16, bK20, bK21, bK26, bK30, bK32, bK33, bK45, bK48, bK57, bK59, bK60, bK62, bK63, bK64, bK80, bK93, bK98, bK99, bK100, bK104, bK107, bK109, bK110, bK112, bK113, bK114, bK115, bK116, bK119, sK255, sK256, sK500, sK700, sK798, sK912, sK1400, sK2000])) ?_
      (rintro _ _ ⟨rfl, rfl⟩) <;> (repeat' (first | refine And.intro ?_ ?_ | (with_reducible intro h9; exact absurd h9 (by simp only [cI, cN]; decide +kernel)) | with_reducible intro _ | exact (rfl : narrow _ _ = _) | decide | (unfold vp_in; decide) | refine Eq.mpr (fL_eq _ _) ?_ | refine Eq.mpr (fW_eq _ _) ?_ | refine Eq.mpr (fN_eq _ _) ?_))
      show ansC t (oTake N F.B.1 (nI i)) _ _
      refine ansC_y (y := F.b i 3) (N1 := (N.kps N.g).s_g (upd N.g (30 + 7 * i + 3) (-1))) ?_ rfl (cEnd_ch I (lc_take I.1.1 I.1.2.1 hi q3) k1 k2)
      unfold oTake
      rw [if_pos eD, eN, e3, if_neg (fun z => q2 (e5.mp z)), e4, if_pos q3]
  · show excC t [(2, 1), (1, 2)] (oTake N F.B.1 x) 2 _
    exact excC_n (if_neg (fun z => q (hasD_P z))) rfl (cEnd_co I _)
set_option maxRecDepth 20000 in
theorem c_recast (hg : gOK G) (I : cV F E H r X S sd er t N) (x : Int32) : Spec G 7 8 150 m_X8_recast [.ref 0, .int x] (ww F E H r X ht P S sd er t) (ansC t (oRecast N F.B.1 x)) (excC t [(2, 1), (1, 2)] (oRecast N F.B.1 x)) := by
  have h8 := I.nb.2
  have e1 : N.g 1 = F.p := I.1.1.1.2.1
  refine wp_spec (M := M_X8_recast) hg ok_X8_recast cut0 60 rfl rfl ?_
  repeat' (first | refine And.intro ?_ ?_ | (with_reducible intro h9; exact absurd h9 (by simp only [cI, cN]; decide +kernel)) | with_reducible intro _ | exact (rfl : narrow _ _ = _) | decide | (unfold vp_in; decide) | refine Eq.mpr (fL_eq _ _) ?_ | refine Eq.mpr (fW_eq _ _) ?_ | refine Eq.mpr (fN_eq _ _) ?_)
  refine ccn 31 [6, 7] (tb_has hg 12 8 F.B.1 F.B.2 x (by omega)) (by decide) (by decide) (by decide) rfl (by repeat' (first | exact trivial | refine And.intro ?_ ?_ | rfl)) (by first | rfl | (simp (discharger := omega) only [renVs, renV, rnI, cI, cN, ← nI_0, nI_ltI, nI_leI, nI_eq, nI_add, pk_mul, pk_sub, nI_clamp, vinI, not_true_eq_false, not_false_eq_true, iK0, iK1, iK2, iK3, iK4, iK5, iKm1, bK6, bK7, bK8, bK9, bK10, bK12, bK14, bK15, bK16, bK20, bK21, bK26, bK30, bK32, bK33, bK45, bK48, bK57, bK59, bK60, bK62, bK63, bK64, bK80, bK93, bK98, bK99, bK100, bK104, bK107, bK109, bK110, bK112, bK113, bK114, bK115, bK116, bK119, sK255, sK256, sK500, sK700, sK798, sK912, sK1400, sK2000])) ?_
  (rintro _ _ ⟨⟨rfl, q⟩ | ⟨rfl, q⟩, rfl⟩) <;> (repeat' (first | refine And.intro ?_ ?_ | (with_reducible intro h9; exact absurd h9 (by simp only [cI, cN]; decide +kernel)) | with_reducible intro _ | exact (rfl : narrow _ _ = _) | decide | (unfold vp_in; decide) | refine Eq.mpr (fL_eq _ _) ?_ | refine Eq.mpr (fW_eq _ _) ?_ | refine Eq.mpr (fN_eq _ _) ?_))
  · obtain ⟨i, hi, rfl⟩ := q
    have e3 : N.b i 3 = F.b i 3 := b_of I.1.1 hi (by omega)
    have e5 : F.b i 3 < nI 0 ↔ F.b i 3 = -1 := hall_lt (rk4 I.1.2.1 hi)
    obtain ⟨w, z, _, _, _, _, _, _, ek, ek2, _⟩ := gbk_F I.1.1 I.1.2.1 hi
    have e6 : gbk N.g i = F.back i := ek.trans ek2.symm
    have eD := hasD_i hi (by omega)
    have eN : (nI i).toNatClampNeg = i := nI_clamp (by omega)
    refine ccn 31 [1, 2, 3, 4, 5, 6, 7, 17] (fd_refK hg F I.1.2.1.B i hi r.1 r.2) (by decide) (by decide) (by decide) rfl (by repeat' (first | exact trivial | refine And.intro ?_ ?_ | rfl)) (by first | rfl | (simp (discharger := omega) only [renVs, renV, rnI, cI, cN, ← nI_0, nI_ltI, nI_leI, nI_eq, nI_add, pk_mul, pk_sub, nI_clamp, vinI, not_true_eq_false, not_false_eq_true, iK0, iK1, iK2, iK3, iK4, iK5, iKm1, bK6, bK7, bK8, bK9, bK10, bK12, bK14, bK15, bK16, bK20, bK21, bK26, bK30, bK32, bK33, bK45, bK48, bK57, bK59, bK60, bK62, bK63, bK64, bK80, bK93, bK98, bK99, bK100, bK104, bK107, bK109, bK110, bK112, bK113, bK114, bK115, bK116, bK119, sK255, sK256, sK500, sK700, sK798, sK912, sK1400, sK2000])) ?_
    (rintro _ _ (⟨q2, rfl, rfl⟩ | ⟨q2, q3, rfl, rfl⟩ | ⟨q2, q3, rfl, rfl⟩)) <;> (repeat' (first | refine And.intro ?_ ?_ | (with_reducible intro h9; exact absurd h9 (by simp only [cI, cN]; decide +kernel)) | with_reducible intro _ | exact (rfl : narrow _ _ = _) | decide | (unfold vp_in; decide) | refine Eq.mpr (fL_eq _ _) ?_ | refine Eq.mpr (fW_eq _ _) ?_ | refine Eq.mpr (fN_eq _ _) ?_))
    · show excC t [(2, 1), (1, 2)] (oRecast N F.B.1 (nI i)) 1 _
      refine excC_n (k := 1) (y := 0) (N1 := N.ref (nI 2) (nI 5) (F.b i 3)) ?_ rfl (cEnd_ref I _ _ _)
      unfold oRecast
      rw [if_pos eD, eN, e3, if_neg (fun z => q2 (e5.mp z))]
    · show excC t [(2, 1), (1, 2)] (oRecast N F.B.1 (nI i)) 1 _
      refine excC_n (k := 1) (y := 0) (N1 := N.ref (nI 2) (nI 1) (nI 2000)) ?_ rfl (cEnd_ref I _ _ _)
      unfold oRecast
      rw [if_pos eD, eN, e3, if_pos (e5.mpr q2), e1, e6, if_neg q3]
    · refine cci 31 (hi_rem hg I.2.1.1 I.2.1.2 I.1.1 I.1.2.1 I.len) (by decide) (by decide) (by decide) (by first | rfl | (simp only [renVs]; rfl)) (by first | rfl | (simp (discharger := omega) only [renVs, renV, rnI, cI, cN, ← nI_0, nI_ltI, nI_leI, nI_eq, nI_add, pk_mul, pk_sub, nI_clamp, vinI, not_true_eq_false, not_false_eq_true, iK0, iK1, iK2, iK3, iK4, iK5, iKm1, bK6, bK7, bK8, bK9, bK10, bK12, bK14, bK15, bK16, bK20, bK21, bK26, bK30, bK32, bK33, bK45, bK48, bK57, bK59, bK60, bK62, bK63, bK64, bK80, bK93, bK98, bK99, bK100, bK104, bK107, bK109, bK110, bK112, bK113, bK114, bK115, bK116, bK119, sK255, sK256, sK500, sK700, sK798, sK912, sK1400, sK2000])) ?_ (fun _ _ h => h.elim)
      (rintro _ _ ⟨rfl, H', t', rfl, k1, k2⟩) <;> (repeat' (first | refine And.intro ?_ ?_ | (with_reducible intro h9; exact absurd h9 (by simp only [cI, cN]; decide +kernel)) | with_reducible intro _ | exact (rfl : narrow _ _ = _) | decide | (unfold vp_in; decide) | refine Eq.mpr (fL_eq _ _) ?_ | refine Eq.mpr (fW_eq _ _) ?_ | refine Eq.mpr (fN_eq _ _) ?_))
      refine ccn 31 [1, 2, 3, 4, 5, 6, 7] (fd_recast hg F I.1.2.1.B i hi) (by decide) (by decide) (by decide) rfl (by repeat' (first | exact trivial | refine And.intro ?_ ?_ | rfl)) (by first | rfl | (simp (discharger := omega) only [renVs, renV, rnI, cI, cN, ← nI_0, nI_ltI, nI_leI, nI_eq, nI_add, pk_mul, pk_sub, nI_clamp, vinI, not_true_eq_false, not_false_eq_true, iK0, iK1, iK2, iK3, iK4, iK5, iKm1, bK6, bK7, bK8, bK9, bK10, bK12, bK14, bK15, bK16, bK20, bK21, bK26, bK30, bK32, bK33, bK45, bK48, bK57, bK59, bK60, bK62, bK63, bK64, bK80, bK93, bK98, bK99, bK100, bK104, bK107, bK109, bK110, bK112, bK113, bK114, bK115, bK116, bK119, sK255, sK256, sK500, sK700, sK798, sK912, sK1400, sK2000])) ?_
      (rintro _ _ ⟨rfl, rfl⟩) <;> (repeat' (first | refine And.intro ?_ ?_ | (with_reducible intro h9; exact absurd h9 (by simp only [cI, cN]; decide +kernel)) | with_reducible intro _ | exact (rfl : narrow _ _ = _) | decide | (unfold vp_in; decide) | refine Eq.mpr (fL_eq _ _) ?_ | refine Eq.mpr (fW_eq _ _) ?_ | refine Eq.mpr (fN_eq _ _) ?_))
      show ansC t (oRecast N F.B.1 (nI i)) _ _
      refine ansC_y (y := F.back i) (N1 := (N.kps N.g).s_g (grec N.g i F.B.1)) ?_ rfl (cEnd_ch I (lc_recast I.1.1 I.1.2.1 hi q3) k1 k2)
      unfold oRecast
      rw [if_pos eD, eN, e3, if_pos (e5.mpr q2), e1, e6, if_pos q3]
  · show excC t [(2, 1), (1, 2)] (oRecast N F.B.1 x) 2 _
    exact excC_n (if_neg (fun z => q (hasD_P z))) rfl (cEnd_co I _)
set_option maxRecDepth 20000 in
theorem c_ring (hg : gOK G) (I : cV F E H r X S sd er t N) (x : Int32) : Spec G 7 8 150 m_X8_ring [.ref 0, .int x] (ww F E H r X ht P S sd er t) (ansC t (oRing N F.B.1 x)) (excC t [(2, 1), (1, 2)] (oRing N F.B.1 x)) := by
  have h8 := I.nb.2
  refine wp_spec (M := M_X8_ring) hg ok_X8_ring cut0 60 rfl rfl ?_
  repeat' (first | refine And.intro ?_ ?_ | (with_reducible intro h9; exact absurd h9 (by simp only [cI, cN]; decide +kernel)) | with_reducible intro _ | exact (rfl : narrow _ _ = _) | decide | (unfold vp_in; decide) | refine Eq.mpr (fL_eq _ _) ?_ | refine Eq.mpr (fW_eq _ _) ?_ | refine Eq.mpr (fN_eq _ _) ?_)
  refine ccn 31 [6, 7] (tb_has hg 12 8 F.B.1 F.B.2 x (by omega)) (by decide) (by decide) (by decide) rfl (by repeat' (first | exact trivial | refine And.intro ?_ ?_ | rfl)) (by first | rfl | (simp (discharger := omega) only [renVs, renV, rnI, cI, cN, ← nI_0, nI_ltI, nI_leI, nI_eq, nI_add, pk_mul, pk_sub, nI_clamp, vinI, not_true_eq_false, not_false_eq_true, iK0, iK1, iK2, iK3, iK4, iK5, iKm1, bK6, bK7, bK8, bK9, bK10, bK12, bK14, bK15, bK16, bK20, bK21, bK26, bK30, bK32, bK33, bK45, bK48, bK57, bK59, bK60, bK62, bK63, bK64, bK80, bK93, bK98, bK99, bK100, bK104, bK107, bK109, bK110, bK112, bK113, bK114, bK115, bK116, bK119, sK255, sK256, sK500, sK700, sK798, sK912, sK1400, sK2000])) ?_
  (rintro _ _ ⟨⟨rfl, q⟩ | ⟨rfl, q⟩, rfl⟩) <;> (repeat' (first | refine And.intro ?_ ?_ | (with_reducible intro h9; exact absurd h9 (by simp only [cI, cN]; decide +kernel)) | with_reducible intro _ | exact (rfl : narrow _ _ = _) | decide | (unfold vp_in; decide) | refine Eq.mpr (fL_eq _ _) ?_ | refine Eq.mpr (fW_eq _ _) ?_ | refine Eq.mpr (fN_eq _ _) ?_))
  · obtain ⟨i, hi, rfl⟩ := q
    have e3 : N.b i 3 = F.b i 3 := b_of I.1.1 hi (by omega)
    have e4 : N.b i 5 = F.b i 5 := b_of I.1.1 hi (by omega)
    have e5 : F.b i 3 < nI 0 ↔ F.b i 3 = -1 := hall_lt (rk4 I.1.2.1 hi)
    have e6 : gnote N.g i = F.note i := gnote_F I.1.1 hi
    obtain ⟨w, k, s, l, hb⟩ := bN_ex I.1.2.1 hi
    have e7 : F.b i 5 = nI k := hb.2.2.2.2.2.1
    have hk9 : k ≤ 9 := hb.2.1
    have eD := hasD_i hi (by omega)
    have eN : (nI i).toNatClampNeg = i := nI_clamp (by omega)
    refine ccn 31 [1, 2, 3, 4, 5, 6, 7, 17] (fd_refO hg F I.1.2.1.B i hi r.1 r.2) (by decide) (by decide) (by decide) rfl (by repeat' (first | exact trivial | refine And.intro ?_ ?_ | rfl)) (by first | rfl | (simp (discharger := omega) only [renVs, renV, rnI, cI, cN, ← nI_0, nI_ltI, nI_leI, nI_eq, nI_add, pk_mul, pk_sub, nI_clamp, vinI, not_true_eq_false, not_false_eq_true, iK0, iK1, iK2, iK3, iK4, iK5, iKm1, bK6, bK7, bK8, bK9, bK10, bK12, bK14, bK15, bK16, bK20, bK21, bK26, bK30, bK32, bK33, bK45, bK48, bK57, bK59, bK60, bK62, bK63, bK64, bK80, bK93, bK98, bK99, bK100, bK104, bK107, bK109, bK110, bK112, bK113, bK114, bK115, bK116, bK119, sK255, sK256, sK500, sK700, sK798, sK912, sK1400, sK2000])) ?_
    (rintro _ _ (⟨q2, rfl, rfl⟩ | ⟨q2, rfl, rfl⟩)) <;> (repeat' (first | refine And.intro ?_ ?_ | (with_reducible intro h9; exact absurd h9 (by simp only [cI, cN]; decide +kernel)) | with_reducible intro _ | exact (rfl : narrow _ _ = _) | decide | (unfold vp_in; decide) | refine Eq.mpr (fL_eq _ _) ?_ | refine Eq.mpr (fW_eq _ _) ?_ | refine Eq.mpr (fN_eq _ _) ?_))
    · show excC t [(2, 1), (1, 2)] (oRing N F.B.1 (nI i)) 1 _
      refine excC_n (k := 1) (y := 0) (N1 := N.ref (nI 2) (nI 5) (F.b i 3)) ?_ rfl (cEnd_ref I _ _ _)
      unfold oRing
      rw [if_pos eD, eN, e3, if_neg (fun z => q2 (e5.mp z))]
    · refine cci 31 (hi_rem hg I.2.1.1 I.2.1.2 I.1.1 I.1.2.1 I.len) (by decide) (by decide) (by decide) (by first | rfl | (simp only [renVs]; rfl)) (by first | rfl | (simp (discharger := omega) only [renVs, renV, rnI, cI, cN, ← nI_0, nI_ltI, nI_leI, nI_eq, nI_add, pk_mul, pk_sub, nI_clamp, vinI, not_true_eq_false, not_false_eq_true, iK0, iK1, iK2, iK3, iK4, iK5, iKm1, bK6, bK7, bK8, bK9, bK10, bK12, bK14, bK15, bK16, bK20, bK21, bK26, bK30, bK32, bK33, bK45, bK48, bK57, bK59, bK60, bK62, bK63, bK64, bK80, bK93, bK98, bK99, bK100, bK104, bK107, bK109, bK110, bK112, bK113, bK114, bK115, bK116, bK119, sK255, sK256, sK500, sK700, sK798, sK912, sK1400, sK2000])) ?_ (fun _ _ h => h.elim)
      (rintro _ _ ⟨rfl, H', t', rfl, k1, k2⟩) <;> (repeat' (first | refine And.intro ?_ ?_ | (with_reducible intro h9; exact absurd h9 (by simp only [cI, cN]; decide +kernel)) | with_reducible intro _ | exact (rfl : narrow _ _ = _) | decide | (unfold vp_in; decide) | refine Eq.mpr (fL_eq _ _) ?_ | refine Eq.mpr (fW_eq _ _) ?_ | refine Eq.mpr (fN_eq _ _) ?_))
      refine ccn 31 [1, 2, 3, 4, 5, 6, 7] (fd_ring hg F I.1.2.1.B i hi) (by decide) (by decide) (by decide) rfl (by repeat' (first | exact trivial | refine And.intro ?_ ?_ | rfl)) (by first | rfl | (simp (discharger := omega) only [renVs, renV, rnI, cI, cN, ← nI_0, nI_ltI, nI_leI, nI_eq, nI_add, pk_mul, pk_sub, nI_clamp, vinI, not_true_eq_false, not_false_eq_true, iK0, iK1, iK2, iK3, iK4, iK5, iKm1, bK6, bK7, bK8, bK9, bK10, bK12, bK14, bK15, bK16, bK20, bK21, bK26, bK30, bK32, bK33, bK45, bK48, bK57, bK59, bK60, bK62, bK63, bK64, bK80, bK93, bK98, bK99, bK100, bK104, bK107, bK109, bK110, bK112, bK113, bK114, bK115, bK116, bK119, sK255, sK256, sK500, sK700, sK798, sK912, sK1400, sK2000])) ?_
      (rintro _ _ ⟨rfl, (⟨q3, q4, rfl⟩ | ⟨q3, rfl⟩)⟩) <;> (repeat' (first | refine And.intro ?_ ?_ | (with_reducible intro h9; exact absurd h9 (by simp only [cI, cN]; decide +kernel)) | with_reducible intro _ | exact (rfl : narrow _ _ = _) | decide | (unfold vp_in; decide) | refine Eq.mpr (fL_eq _ _) ?_ | refine Eq.mpr (fW_eq _ _) ?_ | refine Eq.mpr (fN_eq _ _) ?_))
      · show ansC t (oRing N F.B.1 (nI i)) _ _
        rw [e7, nI_ltI (by omega) (by omega)] at q3
        rw [e7, nI_leI (by omega) (by omega)] at q4
        have hq : nI 2 ≤ F.b i 5 ∧ F.b i 5 ≤ nI 8 := by
          rw [e7]
          exact btw' (by omega) (by omega) (by omega)
        have hl := lc_acr I.1.1 I.1.2.1 hi (z := 1) (by rw [e7, nI_add, nI_leI (by omega) (by omega)]; omega) (by omega)
        refine ansC_y (y := F.note i) (N1 := (N.kps N.g).s_g (upd N.g (30 + 7 * i + 5) (N.g (30 + 7 * i + 5) + nI 1))) ?_ rfl (cEnd_ch I hl k1 k2)
        unfold oRing
        rw [if_pos eD, eN, e3, if_pos (e5.mpr q2), e6, if_pos (by rw [e4]; exact hq)]
      · show ansC t (oRing N F.B.1 (nI i)) _ _
        have hq : ¬ (nI 2 ≤ F.b i 5 ∧ F.b i 5 ≤ nI 8) := by
          rintro ⟨z1, z2⟩
          rw [e7, nI_leI (by omega) (by omega)] at z1 z2
          rw [e7, nI_ltI (by omega) (by omega), nI_leI (by omega) (by omega)] at q3
          omega
        refine ansC_y (y := F.note i) (N1 := (N.kps N.g).s_g N.g) ?_ rfl (cEnd_ch I ⟨I.1.1, I.1.2.1⟩ k1 k2)
        unfold oRing
        rw [if_pos eD, eN, e3, if_pos (e5.mpr q2), e6, if_neg (by rw [e4]; exact hq)]
  · show excC t [(2, 1), (1, 2)] (oRing N F.B.1 x) 2 _
    exact excC_n (if_neg (fun z => q (hasD_P z))) rfl (cEnd_co I _)
set_option maxRecDepth 20000 in
theorem c_file (hg : gOK G) (I : cV F E H r X S sd er t N) (x y : Int32) : Spec G 7 8 150 m_X8_file [.ref 0, .int x, .int y] (ww F E H r X ht P S sd er t) (ansC t (oFile N F.B.1 x y)) (excC t [(2, 1), (0, 2), (1, 3)] (oFile N F.B.1 x y)) := by
  have h8 := I.nb.2
  refine wp_spec (M := M_X8_file) hg ok_X8_file cut0 60 rfl rfl ?_
  repeat' (first | refine And.intro ?_ ?_ | (with_reducible intro h9; exact absurd h9 (by simp only [cI, cN]; decide +kernel)) | with_reducible intro _ | exact (rfl : narrow _ _ = _) | decide | (unfold vp_in; decide) | refine Eq.mpr (fL_eq _ _) ?_ | refine Eq.mpr (fW_eq _ _) ?_ | refine Eq.mpr (fN_eq _ _) ?_)
  refine ccn 31 [6, 7] (tb_has hg 12 8 F.B.1 F.B.2 x (by omega)) (by decide) (by decide) (by decide) rfl (by repeat' (first | exact trivial | refine And.intro ?_ ?_ | rfl)) (by first | rfl | (simp (discharger := omega) only [renVs, renV, rnI, cI, cN, ← nI_0, nI_ltI, nI_leI, nI_eq, nI_add, pk_mul, pk_sub, nI_clamp, vinI, not_true_eq_false, not_false_eq_true, iK0, iK1, iK2, iK3, iK4, iK5, iKm1, bK6, bK7, bK8, bK9, bK10, bK12, bK14, bK15, bK16, bK20, bK21, bK26, bK30, bK32, bK33, bK45, bK48, bK57, bK59, bK60, bK62, bK63, bK64, bK80, bK93, bK98, bK99, bK100, bK104, bK107, bK109, bK110, bK112, bK113, bK114, bK115, bK116, bK119, sK255, sK256, sK500, sK700, sK798, sK912, sK1400, sK2000])) ?_
  (rintro _ _ ⟨⟨rfl, q⟩ | ⟨rfl, q⟩, rfl⟩) <;> (repeat' (first | refine And.intro ?_ ?_ | (with_reducible intro h9; exact absurd h9 (by simp only [cI, cN]; decide +kernel)) | with_reducible intro _ | exact (rfl : narrow _ _ = _) | decide | (unfold vp_in; decide) | refine Eq.mpr (fL_eq _ _) ?_ | refine Eq.mpr (fW_eq _ _) ?_ | refine Eq.mpr (fN_eq _ _) ?_))
  · obtain ⟨i, hi, rfl⟩ := q
    have e3 : N.b i 3 = F.b i 3 := b_of I.1.1 hi (by omega)
    have e4 : N.b i 6 = F.b i 6 := b_of I.1.1 hi (by omega)
    have e5 : F.b i 3 < nI 0 ↔ F.b i 3 = -1 := hall_lt (rk4 I.1.2.1 hi)
    have eD := hasD_i hi (by omega)
    have eN : (nI i).toNatClampNeg = i := nI_clamp (by omega)
    refine ccn 31 [] (bc_within hg y (nI 1) (nI 6)) (by decide) (by decide) (by decide) rfl (by repeat' (first | exact trivial | refine And.intro ?_ ?_ | rfl)) (by first | rfl | (simp (discharger := omega) only [renVs, renV, rnI, cI, cN, ← nI_0, nI_ltI, nI_leI, nI_eq, nI_add, pk_mul, pk_sub, nI_clamp, vinI, not_true_eq_false, not_false_eq_true, iK0, iK1, iK2, iK3, iK4, iK5, iKm1, bK6, bK7, bK8, bK9, bK10, bK12, bK14, bK15, bK16, bK20, bK21, bK26, bK30, bK32, bK33, bK45, bK48, bK57, bK59, bK60, bK62, bK63, bK64, bK80, bK93, bK98, bK99, bK100, bK104, bK107, bK109, bK110, bK112, bK113, bK114, bK115, bK116, bK119, sK255, sK256, sK500, sK700, sK798, sK912, sK1400, sK2000])) ?_
    (rintro _ _ ⟨⟨rfl, q⟩ | ⟨rfl, q⟩, rfl⟩) <;> (repeat' (first | refine And.intro ?_ ?_ | (with_reducible intro h9; exact absurd h9 (by simp only [cI, cN]; decide +kernel)) | with_reducible intro _ | exact (rfl : narrow _ _ = _) | decide | (unfold vp_in; decide) | refine Eq.mpr (fL_eq _ _) ?_ | refine Eq.mpr (fW_eq _ _) ?_ | refine Eq.mpr (fN_eq _ _) ?_))
    · obtain ⟨z, z1, z2, rfl⟩ := btw (by omega) (by omega) q
      refine ccn 31 [1, 2, 3, 4, 5, 6, 7, 17] (fd_refF hg F I.1.2.1.B i hi (nI z) r.1 r.2) (by decide) (by decide) (by decide) rfl (by repeat' (first | exact trivial | refine And.intro ?_ ?_ | rfl)) (by first | rfl | (simp (discharger := omega) only [renVs, renV, rnI, cI, cN, ← nI_0, nI_ltI, nI_leI, nI_eq, nI_add, pk_mul, pk_sub, nI_clamp, vinI, not_true_eq_false, not_false_eq_true, iK0, iK1, iK2, iK3, iK4, iK5, iKm1, bK6, bK7, bK8, bK9, bK10, bK12, bK14, bK15, bK16, bK20, bK21, bK26, bK30, bK32, bK33, bK45, bK48, bK57, bK59, bK60, bK62, bK63, bK64, bK80, bK93, bK98, bK99, bK100, bK104, bK107, bK109, bK110, bK112, bK113, bK114, bK115, bK116, bK119, sK255, sK256, sK500, sK700, sK798, sK912, sK1400, sK2000])) ?_
      (rintro _ _ (⟨q2, rfl, rfl⟩ | ⟨q2, q3, rfl, rfl⟩ | ⟨q2, q3, rfl, rfl⟩)) <;> (repeat' (first | refine And.intro ?_ ?_ | (with_reducible intro h9; exact absurd h9 (by simp only [cI, cN]; decide +kernel)) | with_reducible intro _ | exact (rfl : narrow _ _ = _) | decide | (unfold vp_in; decide) | refine Eq.mpr (fL_eq _ _) ?_ | refine Eq.mpr (fW_eq _ _) ?_ | refine Eq.mpr (fN_eq _ _) ?_))
      · show excC t [(2, 1), (0, 2), (1, 3)] (oFile N F.B.1 (nI i) (nI z)) 1 _
        refine excC_n (k := 2) (y := 0) (N1 := N.ref (nI 3) (nI 5) (F.b i 3)) ?_ rfl (cEnd_ref I _ _ _)
        unfold oFile
        rw [if_pos eD, if_pos q, eN, e3, if_neg (fun z => q2 (e5.mp z))]
      · show excC t [(2, 1), (0, 2), (1, 3)] (oFile N F.B.1 (nI i) (nI z)) 1 _
        refine excC_n (k := 2) (y := 0) (N1 := N.ref (nI 3) (nI 7) (F.b i 6)) ?_ rfl (cEnd_ref I _ _ _)
        unfold oFile
        rw [if_pos eD, if_pos q, eN, e3, if_pos (e5.mpr q2), e4, if_neg q3]
      · have l := lc_amk I.1.1 I.1.2.1 hi (z := z) q3 z2
        refine cci 31 (hi_rem hg I.2.1.1 I.2.1.2 I.1.1 I.1.2.1 I.len) (by decide) (by decide) (by decide) (by first | rfl | (simp only [renVs]; rfl)) (by first | rfl | (simp (discharger := omega) only [renVs, renV, rnI, cI, cN, ← nI_0, nI_ltI, nI_leI, nI_eq, nI_add, pk_mul, pk_sub, nI_clamp, vinI, not_true_eq_false, not_false_eq_true, iK0, iK1, iK2, iK3, iK4, iK5, iKm1, bK6, bK7, bK8, bK9, bK10, bK12, bK14, bK15, bK16, bK20, bK21, bK26, bK30, bK32, bK33, bK45, bK48, bK57, bK59, bK60, bK62, bK63, bK64, bK80, bK93, bK98, bK99, bK100, bK104, bK107, bK109, bK110, bK112, bK113, bK114, bK115, bK116, bK119, sK255, sK256, sK500, sK700, sK798, sK912, sK1400, sK2000])) ?_ (fun _ _ h => h.elim)
        (rintro _ _ ⟨rfl, H', t', rfl, k1, k2⟩) <;> (repeat' (first | refine And.intro ?_ ?_ | (with_reducible intro h9; exact absurd h9 (by simp only [cI, cN]; decide +kernel)) | with_reducible intro _ | exact (rfl : narrow _ _ = _) | decide | (unfold vp_in; decide) | refine Eq.mpr (fL_eq _ _) ?_ | refine Eq.mpr (fW_eq _ _) ?_ | refine Eq.mpr (fN_eq _ _) ?_))
        refine ccn 31 [1, 2, 3, 4, 5, 6, 7] (fd_addM hg F I.1.2.1.B i hi (nI z)) (by decide) (by decide) (by decide) rfl (by repeat' (first | exact trivial | refine And.intro ?_ ?_ | rfl)) (by first | rfl | (simp (discharger := omega) only [renVs, renV, rnI, cI, cN, ← nI_0, nI_ltI, nI_leI, nI_eq, nI_add, pk_mul, pk_sub, nI_clamp, vinI, not_true_eq_false, not_false_eq_true, iK0, iK1, iK2, iK3, iK4, iK5, iKm1, bK6, bK7, bK8, bK9, bK10, bK12, bK14, bK15, bK16, bK20, bK21, bK26, bK30, bK32, bK33, bK45, bK48, bK57, bK59, bK60, bK62, bK63, bK64, bK80, bK93, bK98, bK99, bK100, bK104, bK107, bK109, bK110, bK112, bK113, bK114, bK115, bK116, bK119, sK255, sK256, sK500, sK700, sK798, sK912, sK1400, sK2000])) ?_
        (rintro _ _ ⟨rfl, rfl⟩) <;> (repeat' (first | refine And.intro ?_ ?_ | (with_reducible intro h9; exact absurd h9 (by simp only [cI, cN]; decide +kernel)) | with_reducible intro _ | exact (rfl : narrow _ _ = _) | decide | (unfold vp_in; decide) | refine Eq.mpr (fL_eq _ _) ?_ | refine Eq.mpr (fW_eq _ _) ?_ | refine Eq.mpr (fN_eq _ _) ?_))
        refine ccn 31 [1, 2, 3, 4, 5, 6, 7] (fd_note hg (F.sB (amk F.B.2 i (nI z))) l.2.B i hi) (by decide) (by decide) (by decide) rfl (by repeat' (first | exact trivial | refine And.intro ?_ ?_ | rfl)) (by first | rfl | (simp (discharger := omega) only [renVs, renV, rnI, cI, cN, ← nI_0, nI_ltI, nI_leI, nI_eq, nI_add, pk_mul, pk_sub, nI_clamp, vinI, not_true_eq_false, not_false_eq_true, iK0, iK1, iK2, iK3, iK4, iK5, iKm1, bK6, bK7, bK8, bK9, bK10, bK12, bK14, bK15, bK16, bK20, bK21, bK26, bK30, bK32, bK33, bK45, bK48, bK57, bK59, bK60, bK62, bK63, bK64, bK80, bK93, bK98, bK99, bK100, bK104, bK107, bK109, bK110, bK112, bK113, bK114, bK115, bK116, bK119, sK255, sK256, sK500, sK700, sK798, sK912, sK1400, sK2000])) ?_
        (rintro _ _ ⟨rfl, rfl⟩) <;> (repeat' (first | refine And.intro ?_ ?_ | (with_reducible intro h9; exact absurd h9 (by simp only [cI, cN]; decide +kernel)) | with_reducible intro _ | exact (rfl : narrow _ _ = _) | decide | (unfold vp_in; decide) | refine Eq.mpr (fL_eq _ _) ?_ | refine Eq.mpr (fW_eq _ _) ?_ | refine Eq.mpr (fN_eq _ _) ?_))
        show ansC t (oFile N F.B.1 (nI i) (nI z)) _ _
        refine ansC_y (y := gnote (upd N.g (30 + 7 * i + 6) (N.g (30 + 7 * i + 6) + nI z)) i) (N1 := (N.kps N.g).s_g (upd N.g (30 + 7 * i + 6) (N.g (30 + 7 * i + 6) + nI z))) ?_ (gnote_F l.1 hi).symm (cEnd_ch I l k1 k2)
        unfold oFile
        rw [if_pos eD, if_pos q, eN, e3, if_pos (e5.mpr q2), if_pos (by rw [e4]; exact q3)]
    · show excC t [(2, 1), (0, 2), (1, 3)] (oFile N F.B.1 (nI i) y) 0 _
      exact excC_n (k := 1) (y := 0) (N1 := N.s_co (nI 2)) ((if_pos eD).trans (if_neg q)) rfl (cEnd_co I _)
  · show excC t [(2, 1), (0, 2), (1, 3)] (oFile N F.B.1 x y) 2 _
    exact excC_n (if_neg (fun z => q (hasD_P z))) rfl (cEnd_co I _)
set_option maxRecDepth 20000 in
theorem c_pour (hg : gOK G) (I : cV F E H r X S sd er t N) (x y : Int32) : Spec G 7 8 150 m_X8_pour [.ref 0, .int x, .int y] (ww F E H r X ht P S sd er t) (ansC t (oPour N F.M.1 F.R.1 F.B.1 x y)) (excC t [(2, 1), (1, 2)] (oPour N F.M.1 F.R.1 F.B.1 x y)) := by
  have h8 := I.nm.2
  have h4 := I.nr.2
  have e0 : N.g 0 = F.h := I.1.1.1.1
  have e1 : N.g 1 = F.p := I.1.1.1.2.1
  have eo : ∀ z, gon N.g z F.B.1 = F.on z := fun z => gon_B I.1.1.2.2.2 z
  refine wp_spec (M := M_X8_pour) hg ok_X8_pour cut0 60 rfl rfl ?_
  repeat' (first | refine And.intro ?_ ?_ | (with_reducible intro h9; exact absurd h9 (by simp only [cI, cN]; decide +kernel)) | with_reducible intro _ | exact (rfl : narrow _ _ = _) | decide | (unfold vp_in; decide) | refine Eq.mpr (fL_eq _ _) ?_ | refine Eq.mpr (fW_eq _ _) ?_ | refine Eq.mpr (fN_eq _ _) ?_)
  refine ccn 31 [1, 2, 3, 4, 5, 6, 7] (fd_both hg F I.1.2.1.B x y) (by decide) (by decide) (by decide) rfl (by repeat' (first | exact trivial | refine And.intro ?_ ?_ | rfl)) (by first | rfl | (simp (discharger := omega) only [renVs, renV, rnI, cI, cN, ← nI_0, nI_ltI, nI_leI, nI_eq, nI_add, pk_mul, pk_sub, nI_clamp, vinI, not_true_eq_false, not_false_eq_true, iK0, iK1, iK2, iK3, iK4, iK5, iKm1, bK6, bK7, bK8, bK9, bK10, bK12, bK14, bK15, bK16, bK20, bK21, bK26, bK30, bK32, bK33, bK45, bK48, bK57, bK59, bK60, bK62, bK63, bK64, bK80, bK93, bK98, bK99, bK100, bK104, bK107, bK109, bK110, bK112, bK113, bK114, bK115, bK116, bK119, sK255, sK256, sK500, sK700, sK798, sK912, sK1400, sK2000])) ?_
  (rintro _ _ ⟨⟨rfl, q⟩ | ⟨rfl, q⟩, rfl⟩) <;> (repeat' (first | refine And.intro ?_ ?_ | (with_reducible intro h9; exact absurd h9 (by simp only [cI, cN]; decide +kernel)) | with_reducible intro _ | exact (rfl : narrow _ _ = _) | decide | (unfold vp_in; decide) | refine Eq.mpr (fL_eq _ _) ?_ | refine Eq.mpr (fW_eq _ _) ?_ | refine Eq.mpr (fN_eq _ _) ?_))
  · obtain ⟨⟨i, hi, rfl⟩, ⟨j, hj, rfl⟩⟩ := q
    have eD : hasD (nI i) F.M.1 ∧ hasD (nI j) F.R.1 := ⟨hasD_i hi (by omega), hasD_i hj (by omega)⟩
    have eN : (nI i).toNatClampNeg = i := nI_clamp (by omega)
    have ec : N.g (10 + 2 * i) = F.m i 0 := I.1.1.2.1 i 0 hi (by omega)
    have h3 : F.on (nI j) ≤ 3 := I.1.2.1.2.2.2.2.2.2 j hj
    refine ccn 31 [1, 2, 3, 4, 5, 6, 7, 17] (fd_refPo hg F I.1.2.1.B i j hi (nI j) r.1 r.2) (by decide) (by decide) (by decide) rfl (by repeat' (first | exact trivial | refine And.intro ?_ ?_ | rfl)) (by first | rfl | (simp (discharger := omega) only [renVs, renV, rnI, cI, cN, ← nI_0, nI_ltI, nI_leI, nI_eq, nI_add, pk_mul, pk_sub, nI_clamp, vinI, not_true_eq_false, not_false_eq_true, iK0, iK1, iK2, iK3, iK4, iK5, iKm1, bK6, bK7, bK8, bK9, bK10, bK12, bK14, bK15, bK16, bK20, bK21, bK26, bK30, bK32, bK33, bK45, bK48, bK57, bK59, bK60, bK62, bK63, bK64, bK80, bK93, bK98, bK99, bK100, bK104, bK107, bK109, bK110, bK112, bK113, bK114, bK115, bK116, bK119, sK255, sK256, sK500, sK700, sK798, sK912, sK1400, sK2000])) ?_
    (rintro _ _ (⟨q2, rfl, rfl⟩ | ⟨q2, q3, rfl, rfl⟩ | ⟨q2, q3, q4, rfl, rfl⟩ | ⟨q2, q3, q4, q5, rfl, rfl⟩ | ⟨q2, q3, q4, q5, rfl, rfl⟩)) <;> (repeat' (first | refine And.intro ?_ ?_ | (with_reducible intro h9; exact absurd h9 (by simp only [cI, cN]; decide +kernel)) | with_reducible intro _ | exact (rfl : narrow _ _ = _) | decide | (unfold vp_in; decide) | refine Eq.mpr (fL_eq _ _) ?_ | refine Eq.mpr (fW_eq _ _) ?_ | refine Eq.mpr (fN_eq _ _) ?_))
    · show excC t [(2, 1), (1, 2)] (oPour N F.M.1 F.R.1 F.B.1 (nI i) (nI j)) 1 _
      refine excC_n (k := 1) (y := 0) (N1 := N.ref (nI 2) (nI 1) (nI 12)) ?_ rfl (cEnd_ref I _ _ _)
      unfold oPour
      rw [if_pos eD, if_pos q2]
    · show excC t [(2, 1), (1, 2)] (oPour N F.M.1 F.R.1 F.B.1 (nI i) (nI j)) 1 _
      refine excC_n (k := 1) (y := 0) (N1 := N.ref (nI 2) (nI 1) (nI 3)) ?_ rfl (cEnd_ref I _ _ _)
      unfold oPour
      rw [if_pos eD, if_neg (by omega), if_pos (by rw [eo]; omega)]
    · show excC t [(2, 1), (1, 2)] (oPour N F.M.1 F.R.1 F.B.1 (nI i) (nI j)) 1 _
      refine excC_n (k := 1) (y := 0) (N1 := N.ref (nI 2) (nI 2) (nI 5 * F.m i 0 + nI 10 - F.p)) ?_ rfl (cEnd_ref I _ _ _)
      unfold oPour
      rw [if_pos eD, if_neg (by omega), if_neg (by rw [eo]; omega), eN, ec, e1, if_neg q4]
    · show excC t [(2, 1), (1, 2)] (oPour N F.M.1 F.R.1 F.B.1 (nI i) (nI j)) 1 _
      refine excC_n (k := 1) (y := 0) (N1 := N.ref (nI 2) (nI 3) (nI 700 + nI 8 * F.m i 0 - F.h)) ?_ rfl (cEnd_ref I _ _ _)
      unfold oPour
      rw [if_pos eD, if_neg (by omega), if_neg (by rw [eo]; omega), eN, ec, e1, if_pos q4, e0, if_neg q5]
    · refine cci 31 (hi_rem hg I.2.1.1 I.2.1.2 I.1.1 I.1.2.1 I.len) (by decide) (by decide) (by decide) (by first | rfl | (simp only [renVs]; rfl)) (by first | rfl | (simp (discharger := omega) only [renVs, renV, rnI, cI, cN, ← nI_0, nI_ltI, nI_leI, nI_eq, nI_add, pk_mul, pk_sub, nI_clamp, vinI, not_true_eq_false, not_false_eq_true, iK0, iK1, iK2, iK3, iK4, iK5, iKm1, bK6, bK7, bK8, bK9, bK10, bK12, bK14, bK15, bK16, bK20, bK21, bK26, bK30, bK32, bK33, bK45, bK48, bK57, bK59, bK60, bK62, bK63, bK64, bK80, bK93, bK98, bK99, bK100, bK104, bK107, bK109, bK110, bK112, bK113, bK114, bK115, bK116, bK119, sK255, sK256, sK500, sK700, sK798, sK912, sK1400, sK2000])) ?_ (fun _ _ h => h.elim)
      (rintro _ _ ⟨rfl, H', t', rfl, k1, k2⟩) <;> (repeat' (first | refine And.intro ?_ ?_ | (with_reducible intro h9; exact absurd h9 (by simp only [cI, cN]; decide +kernel)) | with_reducible intro _ | exact (rfl : narrow _ _ = _) | decide | (unfold vp_in; decide) | refine Eq.mpr (fL_eq _ _) ?_ | refine Eq.mpr (fW_eq _ _) ?_ | refine Eq.mpr (fN_eq _ _) ?_))
      refine ccn 31 [1, 2, 3, 4, 5, 6, 7] (fd_pour hg F I.1.2.1.B i hi q2 (nI j)) (by decide) (by decide) (by decide) rfl (by repeat' (first | exact trivial | refine And.intro ?_ ?_ | rfl)) (by first | rfl | (simp (discharger := omega) only [renVs, renV, rnI, cI, cN, ← nI_0, nI_ltI, nI_leI, nI_eq, nI_add, pk_mul, pk_sub, nI_clamp, vinI, not_true_eq_false, not_false_eq_true, iK0, iK1, iK2, iK3, iK4, iK5, iKm1, bK6, bK7, bK8, bK9, bK10, bK12, bK14, bK15, bK16, bK20, bK21, bK26, bK30, bK32, bK33, bK45, bK48, bK57, bK59, bK60, bK62, bK63, bK64, bK80, bK93, bK98, bK99, bK100, bK104, bK107, bK109, bK110, bK112, bK113, bK114, bK115, bK116, bK119, sK255, sK256, sK500, sK700, sK798, sK912, sK1400, sK2000])) ?_
      (rintro _ _ ⟨rfl, rfl⟩) <;> (repeat' (first | refine And.intro ?_ ?_ | (with_reducible intro h9; exact absurd h9 (by simp only [cI, cN]; decide +kernel)) | with_reducible intro _ | exact (rfl : narrow _ _ = _) | decide | (unfold vp_in; decide) | refine Eq.mpr (fL_eq _ _) ?_ | refine Eq.mpr (fW_eq _ _) ?_ | refine Eq.mpr (fN_eq _ _) ?_))
      show ansC t (oPour N F.M.1 F.R.1 F.B.1 (nI i) (nI j)) _ _
      refine ansC_y (y := nI F.B.1) (N1 := (N.kps N.g).s_g (gpou N.g F.B.1 i F.M.1 (nI j))) ?_ rfl (cEnd_ch I (lc_pour I.1.1 I.1.2.1 hi hj q2 (show ¬ F.on (nI j) = 3 by omega) q4 q5) k1 k2)
      unfold oPour
      rw [if_pos eD, if_neg (by omega), if_neg (by rw [eo]; omega), eN, ec, e1, if_pos q4, e0, if_pos q5]
  · show excC t [(2, 1), (1, 2)] (oPour N F.M.1 F.R.1 F.B.1 x y) 2 _
    exact excC_n (if_neg (fun z => q ⟨hasD_P z.1, hasD_P z.2⟩)) rfl (cEnd_co I _)
end CO
