/-! ===== pourable, first, means, isWell: the class's ===== -/
theorem nI_any (x : Int32) : ∃ n, x = nI n := ⟨x.toBitVec.toNat, by
  refine Int32.toBitVec_inj.mp ?_
  show x.toBitVec = BitVec.ofNat 32 x.toBitVec.toNat
  rw [BitVec.ofNat_toNat, BitVec.setWidth_eq]⟩
section CO
variable {G : gT} {F E : fT} {H : hT} {r : Int32 × Int32} {X : xT} {ht : Nat → Int32} {P : pT7} {S : sT4} {sd : Value} {er : Int32} {t : xW} {N : nT}
set_option maxRecDepth 20000 in
theorem x_look (hg : gOK G) (iF : fI F) : Spec G 2 0 0 m_X4_lookAt [.ref 24, .ref 1] (ww F E H r X ht P S sd er t) (fun v w' => v = none ∧ ∃ co hlf plf mb, pOK (dF F) co ∧ w' = ww F E H r X ht (co, (nI (dF F).2.1, nI (dF F).2.2.1, nI (dF F).2.2.2), hlf, plf, mb) S sd er t) NX := by
  obtain ⟨co, ⟨n0, h0, p0⟩, hlf, plf, mb⟩ := P
  obtain ⟨n, rfl⟩ := nI_any n0
  obtain ⟨_, _, _, _, _, _, d7, d8⟩ := dF_ok iF
  refine Spec.frs [1, 2, 3, 4, 5, 6, 7, 24, 25, 26, 27, 28] (pr_look hg F iF.B co n h0 p0 hlf plf mb) (by decide) (by repeat' (first | exact trivial | refine And.intro ?_ ?_ | rfl)) rfl ?_
  rintro _ _ ⟨rfl, co', hc, rfl⟩
  refine ⟨rfl, co', hlf, plf, mb, pOK_F iF hc, ?_⟩
  rw [d7, d8]
  rfl
set_option maxRecDepth 20000 in
theorem x_pourable (hg : gOK G) (iF : fI F) (b : Int32) : Spec G 6 0 0 m_X8_pourable [.ref 0, .int b] (ww F E H r X ht P S sd er t) (fun v w' => ∃ P' y, w' = ww F E H r X ht P' S sd er t ∧ v = some (.int y) ∧ ((¬ b = 0 ∧ ∃ m, m ≤ 8 ∧ isMx (dF F) 0 m ∧ y = nI m) ∨ (b = 0 ∧ ∃ s q, sim (dF F) (dF F).2.1 s q ∧ y = nI (pc q)))) NX := by
  refine wp_spec (M := M_X8_pourable) hg ok_X8_pourable cut0 60 rfl rfl ?_
  repeat' (first | refine And.intro ?_ ?_ | (with_reducible intro h9; exact absurd h9 (by simp only [cI, cN]; decide +kernel)) | with_reducible intro _ | exact (rfl : narrow _ _ = _) | decide | (unfold vp_in; decide) | refine Eq.mpr (fL_eq _ _) ?_ | refine Eq.mpr (fW_eq _ _) ?_ | refine Eq.mpr (fN_eq _ _) ?_)
  refine cci 31 (x_look hg iF) (by decide) (by decide) (by decide) (by first | rfl | (simp only [renVs]; rfl)) (by first | rfl | (simp (discharger := omega) only [renVs, renV, rnI, cI, cN, ← nI_0, nI_ltI, nI_leI, nI_eq, nI_add, pk_mul, pk_sub, nI_clamp, vinI, not_true_eq_false, not_false_eq_true, iK0, iK1, iK2, iK3, iK4, iK5, iKm1, bK6, bK7, bK8, bK9, bK10, bK12, bK14, bK15, bK16, bK20, bK21, bK26, bK30, bK32, bK33, bK45, bK48, bK57, bK59, bK60, bK62, bK63, bK64, bK80, bK93, bK98, bK99, bK100, bK104, bK107, bK109, bK110, bK112, bK113, bK114, bK115, bK116, bK119, sK255, sK256, sK500, sK700, sK798, sK912, sK1400, sK2000])) ?_ (fun _ _ h => h.elim)
  (rintro _ _ ⟨rfl, co, hlf, plf, mb, hp, rfl⟩) <;> (repeat' (first | refine And.intro ?_ ?_ | (with_reducible intro h9; exact absurd h9 (by simp only [cI, cN]; decide +kernel)) | with_reducible intro _ | exact (rfl : narrow _ _ = _) | decide | (unfold vp_in; decide) | refine Eq.mpr (fL_eq _ _) ?_ | refine Eq.mpr (fW_eq _ _) ?_ | refine Eq.mpr (fN_eq _ _) ?_))
  · rename_i g
    refine ccn 31 [24, 25, 26, 27, 28] (pr_hottest hg (dF F) co hlf plf mb hp) (by decide) (by decide) (by decide) rfl (by repeat' (first | exact trivial | refine And.intro ?_ ?_ | rfl)) (by first | rfl | (simp (discharger := omega) only [renVs, renV, rnI, cI, cN, ← nI_0, nI_ltI, nI_leI, nI_eq, nI_add, pk_mul, pk_sub, nI_clamp, vinI, not_true_eq_false, not_false_eq_true, iK0, iK1, iK2, iK3, iK4, iK5, iKm1, bK6, bK7, bK8, bK9, bK10, bK12, bK14, bK15, bK16, bK20, bK21, bK26, bK30, bK32, bK33, bK45, bK48, bK57, bK59, bK60, bK62, bK63, bK64, bK80, bK93, bK98, bK99, bK100, bK104, bK107, bK109, bK110, bK112, bK113, bK114, bK115, bK116, bK119, sK255, sK256, sK500, sK700, sK798, sK912, sK1400, sK2000])) ?_
    (rintro _ _ ⟨⟨s, q, hs, rfl⟩, rfl⟩) <;> (repeat' (first | refine And.intro ?_ ?_ | (with_reducible intro h9; exact absurd h9 (by simp only [cI, cN]; decide +kernel)) | with_reducible intro _ | exact (rfl : narrow _ _ = _) | decide | (unfold vp_in; decide) | refine Eq.mpr (fL_eq _ _) ?_ | refine Eq.mpr (fW_eq _ _) ?_ | refine Eq.mpr (fN_eq _ _) ?_))
    simp only [cN, cI, Classical.not_not] at g
    exact ⟨(co, (nI (dF F).2.1, nI (dF F).2.2.1, nI (dF F).2.2.2), hlf, plf, mb), _, rfl, rfl, Or.inr ⟨g, s, q, hs, rfl⟩⟩
  · rename_i g
    refine ccn 31 [24, 25, 26, 27, 28] (pr_best hg (dF F) co hlf plf mb hp) (by decide) (by decide) (by decide) rfl (by repeat' (first | exact trivial | refine And.intro ?_ ?_ | rfl)) (by first | rfl | (simp (discharger := omega) only [renVs, renV, rnI, cI, cN, ← nI_0, nI_ltI, nI_leI, nI_eq, nI_add, pk_mul, pk_sub, nI_clamp, vinI, not_true_eq_false, not_false_eq_true, iK0, iK1, iK2, iK3, iK4, iK5, iKm1, bK6, bK7, bK8, bK9, bK10, bK12, bK14, bK15, bK16, bK20, bK21, bK26, bK30, bK32, bK33, bK45, bK48, bK57, bK59, bK60, bK62, bK63, bK64, bK80, bK93, bK98, bK99, bK100, bK104, bK107, bK109, bK110, bK112, bK113, bK114, bK115, bK116, bK119, sK255, sK256, sK500, sK700, sK798, sK912, sK1400, sK2000])) ?_
    (rintro _ _ ⟨m, hlf, plf, mb, h8, hm, _, _, rfl, rfl⟩) <;> (repeat' (first | refine And.intro ?_ ?_ | (with_reducible intro h9; exact absurd h9 (by simp only [cI, cN]; decide +kernel)) | with_reducible intro _ | exact (rfl : narrow _ _ = _) | decide | (unfold vp_in; decide) | refine Eq.mpr (fL_eq _ _) ?_ | refine Eq.mpr (fW_eq _ _) ?_ | refine Eq.mpr (fN_eq _ _) ?_))
    exact ⟨(co, (nI (dF F).2.1, nI (dF F).2.2.1, nI (dF F).2.2.2), hlf, plf, mb), _, rfl, rfl, Or.inl ⟨g, m, h8, hm, rfl⟩⟩
theorem cEnd_P (I : cV F E H r X S sd er t N) (cb : Nat → Int32) (k : Int32) (ht' : Nat → Int32) (P' : pT7) : cEnd t ((N.s_co k).s_cb cb) (ww F E H r X ht' P' S sd er t) :=
  ⟨_, _, _, _, _, _, _, _, _, _, _, rfl, cV_cb (cV_co I k) cb, keep11.rf⟩
set_option maxRecDepth 20000 in
theorem c_pourable (hg : gOK G) (I : cV F E H r X S sd er t N) (b : Int32) : Spec G 6 0 0 m_X8_pourable [.ref 0, .int b] (ww F E H r X ht P S sd er t) (ansCR t (okPour (dF F) N b)) NX := by
  refine Spec.mono (x_pourable hg I.1.2.1 b) ?_ (fun _ _ h => h)
  rintro _ _ ⟨P', y, rfl, rfl, ⟨h, m, h8, hm, rfl⟩ | ⟨h, s, q, hs, rfl⟩⟩
  · exact ⟨_, ⟨N.cb, Or.inl ⟨h, m, hm, rfl⟩⟩, ansC_y rfl rfl (cEnd_P I _ _ _ _)⟩
  · exact ⟨_, ⟨N.cb, Or.inr ⟨h, s, q, hs, rfl⟩⟩, ansC_y rfl rfl (cEnd_P I _ _ _ _)⟩
set_option maxRecDepth 20000 in
theorem c_first (hg : gOK G) (I : cV F E H r X S sd er t N) : Spec G 7 8 150 m_X8_first [.ref 0] (ww F E H r X ht P S sd er t) (ansCR t (okFirst (dF F) N)) (excCR t [(3, 1)] (okFirst (dF F) N)) := by
  have h8 := (dF_ok I.1.2.1).1
  refine wp_spec (M := M_X8_first) hg ok_X8_first cut0 60 rfl rfl ?_
  repeat' (first | refine And.intro ?_ ?_ | (with_reducible intro h9; exact absurd h9 (by simp only [cI, cN]; decide +kernel)) | with_reducible intro _ | exact (rfl : narrow _ _ = _) | decide | (unfold vp_in; decide) | refine Eq.mpr (fL_eq _ _) ?_ | refine Eq.mpr (fW_eq _ _) ?_ | refine Eq.mpr (fN_eq _ _) ?_)
  refine cci 31 (x_look hg I.1.2.1) (by decide) (by decide) (by decide) (by first | rfl | (simp only [renVs]; rfl)) (by first | rfl | (simp (discharger := omega) only [renVs, renV, rnI, cI, cN, ← nI_0, nI_ltI, nI_leI, nI_eq, nI_add, pk_mul, pk_sub, nI_clamp, vinI, not_true_eq_false, not_false_eq_true, iK0, iK1, iK2, iK3, iK4, iK5, iKm1, bK6, bK7, bK8, bK9, bK10, bK12, bK14, bK15, bK16, bK20, bK21, bK26, bK30, bK32, bK33, bK45, bK48, bK57, bK59, bK60, bK62, bK63, bK64, bK80, bK93, bK98, bK99, bK100, bK104, bK107, bK109, bK110, bK112, bK113, bK114, bK115, bK116, bK119, sK255, sK256, sK500, sK700, sK798, sK912, sK1400, sK2000])) ?_ (fun _ _ h => h.elim)
  (rintro _ _ ⟨rfl, co, hlf, plf, mb, hp, rfl⟩) <;> (repeat' (first | refine And.intro ?_ ?_ | (with_reducible intro h9; exact absurd h9 (by simp only [cI, cN]; decide +kernel)) | with_reducible intro _ | exact (rfl : narrow _ _ = _) | decide | (unfold vp_in; decide) | refine Eq.mpr (fL_eq _ _) ?_ | refine Eq.mpr (fW_eq _ _) ?_ | refine Eq.mpr (fN_eq _ _) ?_))
  refine ccn 31 [24, 25, 26, 27, 28] (pr_first hg (dF F) co hlf plf mb hp) (by decide) (by decide) (by decide) rfl (by repeat' (first | exact trivial | refine And.intro ?_ ?_ | rfl)) (by first | rfl | (simp (discharger := omega) only [renVs, renV, rnI, cI, cN, ← nI_0, nI_ltI, nI_leI, nI_eq, nI_add, pk_mul, pk_sub, nI_clamp, vinI, not_true_eq_false, not_false_eq_true, iK0, iK1, iK2, iK3, iK4, iK5, iKm1, bK6, bK7, bK8, bK9, bK10, bK12, bK14, bK15, bK16, bK20, bK21, bK26, bK30, bK32, bK33, bK45, bK48, bK57, bK59, bK60, bK62, bK63, bK64, bK80, bK93, bK98, bK99, bK100, bK104, bK107, bK109, bK110, bK112, bK113, bK114, bK115, bK116, bK119, sK255, sK256, sK500, sK700, sK798, sK912, sK1400, sK2000])) ?_
  (rintro _ _ ⟨⟨m, hm, (⟨k, h0, hk, h2, rfl⟩ | ⟨h2, rfl⟩)⟩, hlf, plf, mb, rfl⟩) <;> (repeat' (first | refine And.intro ?_ ?_ | (with_reducible intro h9; exact absurd h9 (by simp only [cI, cN]; decide +kernel)) | with_reducible intro _ | exact (rfl : narrow _ _ = _) | decide | (unfold vp_in; decide) | refine Eq.mpr (fL_eq _ _) ?_ | refine Eq.mpr (fW_eq _ _) ?_ | refine Eq.mpr (fN_eq _ _) ?_))
  · show ansCR t (okFirst (dF F) N) _ _
    exact ⟨_, ⟨m, N.cb, hm, Or.inr ⟨h0, k, hk, h2, rfl⟩⟩, ansC_y rfl rfl (cEnd_P I N.cb (nI 0) ht (co, (nI (dF F).2.1, nI (dF F).2.2.1, nI (dF F).2.2.2), hlf, plf, mb))⟩
  · rename_i g
    exfalso
    have hk8 : k < 8 := Nat.lt_of_lt_of_le hk.1.1 h8
    simp only [cN, Classical.not_not] at g
    have g2 : ¬ nI k < 0 := nI_pos (by omega)
    first | exact g2 g | exact g (Int32.not_lt.mp g2)
  · show excCR t [(3, 1)] (okFirst (dF F) N) 3 _
    have h0 : m = 0 := by
      rcases h2 with h2 | h2
      · exact h2
      · by_cases z : 0 < m
        · obtain ⟨k, hk, hf⟩ := fi_ex hm z
          exact absurd hf (h2 k hk)
        · omega
    exact ⟨_, ⟨m, N.cb, hm, Or.inl ⟨h0, rfl⟩⟩, excC_n rfl rfl ⟨F, E, H, r, X, ht, (co, (nI (dF F).2.1, nI (dF F).2.2.1, nI (dF F).2.2.2), hlf, plf, mb), S, sd, er, t, rfl, cV_co (cV_cb I _) _, keep11.rf⟩⟩
def ansD (t : xW) (N : nT) (nb : Nat) (v : Option Value) (w' : xW) : Prop := ∃ N1, (0 < nb ∧ N1 = N.s_co (nI 0)) ∧ v = some (.double (FP.ddiv (FP.i2d (bsum (gnote N.g) nb)) (FP.i2d (nI nb)))) ∧ cEnd t N1 w'
def ansF (t : xW) (N : nT) (nb : Nat) (v : Option Value) (w' : xW) : Prop := ∃ N1, (0 < nb ∧ N1 = N.s_co (nI 0)) ∧ v = some (.float (FP.fdiv (FP.i2f (nI (cnt (gsnd N.g 0) nb))) (FP.i2f (nI nb)))) ∧ cEnd t N1 w'
def excD (t : xW) (N : nT) (nb : Nat) (x : Nat) (w' : xW) : Prop := ∃ N1, (nb = 0 ∧ N1 = N.s_co (nI 1)) ∧ x = 5 ∧ cEnd t N1 w'
set_option maxRecDepth 20000 in
theorem c_mean (hg : gOK G) (I : cV F E H r X S sd er t N) : Spec G 7 8 150 m_X8_meanNote [.ref 0] (ww F E H r X ht P S sd er t) (ansD t N F.B.1) (excD t N F.B.1) := by
  have h12 := I.nb.2
  have eb := bsum_F I.1.1
  refine wp_spec (M := M_X8_meanNote) hg ok_X8_meanNote cut0 60 rfl rfl ?_
  repeat' (first | refine And.intro ?_ ?_ | (with_reducible intro h9; exact absurd h9 (by simp only [cI, cN]; decide +kernel)) | with_reducible intro _ | exact (rfl : narrow _ _ = _) | decide | (unfold vp_in; decide) | refine Eq.mpr (fL_eq _ _) ?_ | refine Eq.mpr (fW_eq _ _) ?_ | refine Eq.mpr (fN_eq _ _) ?_)
  refine ccn 31 [6, 7] (tb_size hg 12 8 F.B.1 F.B.2) (by decide) (by decide) (by decide) rfl (by repeat' (first | exact trivial | refine And.intro ?_ ?_ | rfl)) (by first | rfl | (simp (discharger := omega) only [renVs, renV, rnI, cI, cN, ← nI_0, nI_ltI, nI_leI, nI_eq, nI_add, pk_mul, pk_sub, nI_clamp, vinI, not_true_eq_false, not_false_eq_true, iK0, iK1, iK2, iK3, iK4, iK5, iKm1, bK6, bK7, bK8, bK9, bK10, bK12, bK14, bK15, bK16, bK20, bK21, bK26, bK30, bK32, bK33, bK45, bK48, bK57, bK59, bK60, bK62, bK63, bK64, bK80, bK93, bK98, bK99, bK100, bK104, bK107, bK109, bK110, bK112, bK113, bK114, bK115, bK116, bK119, sK255, sK256, sK500, sK700, sK798, sK912, sK1400, sK2000])) ?_
  (rintro _ _ ⟨rfl, rfl⟩) <;> (repeat' (first | refine And.intro ?_ ?_ | (with_reducible intro h9; exact absurd h9 (by simp only [cI, cN]; decide +kernel)) | with_reducible intro _ | exact (rfl : narrow _ _ = _) | decide | (unfold vp_in; decide) | refine Eq.mpr (fL_eq _ _) ?_ | refine Eq.mpr (fW_eq _ _) ?_ | refine Eq.mpr (fN_eq _ _) ?_))
  · rename_i g
    have hz : ¬ nI F.B.1 = 0 := g
    have hn : 0 < F.B.1 := by
      rw [← nI_0, nI_eq (by omega) (by omega)] at hz
      omega
    refine ccn 31 [1, 2, 3, 4, 5, 6, 7] (fd_sum hg F I.1.2.1.B) (by decide) (by decide) (by decide) rfl (by repeat' (first | exact trivial | refine And.intro ?_ ?_ | rfl)) (by first | rfl | (simp (discharger := omega) only [renVs, renV, rnI, cI, cN, ← nI_0, nI_ltI, nI_leI, nI_eq, nI_add, pk_mul, pk_sub, nI_clamp, vinI, not_true_eq_false, not_false_eq_true, iK0, iK1, iK2, iK3, iK4, iK5, iKm1, bK6, bK7, bK8, bK9, bK10, bK12, bK14, bK15, bK16, bK20, bK21, bK26, bK30, bK32, bK33, bK45, bK48, bK57, bK59, bK60, bK62, bK63, bK64, bK80, bK93, bK98, bK99, bK100, bK104, bK107, bK109, bK110, bK112, bK113, bK114, bK115, bK116, bK119, sK255, sK256, sK500, sK700, sK798, sK912, sK1400, sK2000])) ?_
    (rintro _ _ ⟨rfl, rfl⟩) <;> (repeat' (first | refine And.intro ?_ ?_ | (with_reducible intro h9; exact absurd h9 (by simp only [cI, cN]; decide +kernel)) | with_reducible intro _ | exact (rfl : narrow _ _ = _) | decide | (unfold vp_in; decide) | refine Eq.mpr (fL_eq _ _) ?_ | refine Eq.mpr (fW_eq _ _) ?_ | refine Eq.mpr (fN_eq _ _) ?_))
    · exact ddiv_okN _ _ hz
    · show ansD t N F.B.1 _ _
      exact ⟨_, ⟨hn, rfl⟩, by rw [eb], cEnd_co I _⟩
  · rename_i g
    simp only [cN, Classical.not_not] at g
    have hn : F.B.1 = 0 := by
      rw [← nI_0, nI_eq (by omega) (by omega)] at g
      exact g
    show excD t N F.B.1 5 _
    exact ⟨_, ⟨hn, rfl⟩, rfl, cEnd_co I _⟩
set_option maxRecDepth 20000 in
theorem c_share (hg : gOK G) (I : cV F E H r X S sd er t N) : Spec G 7 8 150 m_X8_soundShare [.ref 0] (ww F E H r X ht P S sd er t) (ansF t N F.B.1) (excD t N F.B.1) := by
  have h12 := I.nb.2
  have eb := gsnd0_F I.1.1
  refine wp_spec (M := M_X8_soundShare) hg ok_X8_soundShare cut0 60 rfl rfl ?_
  repeat' (first | refine And.intro ?_ ?_ | (with_reducible intro h9; exact absurd h9 (by simp only [cI, cN]; decide +kernel)) | with_reducible intro _ | exact (rfl : narrow _ _ = _) | decide | (unfold vp_in; decide) | refine Eq.mpr (fL_eq _ _) ?_ | refine Eq.mpr (fW_eq _ _) ?_ | refine Eq.mpr (fN_eq _ _) ?_)
  refine ccn 31 [6, 7] (tb_size hg 12 8 F.B.1 F.B.2) (by decide) (by decide) (by decide) rfl (by repeat' (first | exact trivial | refine And.intro ?_ ?_ | rfl)) (by first | rfl | (simp (discharger := omega) only [renVs, renV, rnI, cI, cN, ← nI_0, nI_ltI, nI_leI, nI_eq, nI_add, pk_mul, pk_sub, nI_clamp, vinI, not_true_eq_false, not_false_eq_true, iK0, iK1, iK2, iK3, iK4, iK5, iKm1, bK6, bK7, bK8, bK9, bK10, bK12, bK14, bK15, bK16, bK20, bK21, bK26, bK30, bK32, bK33, bK45, bK48, bK57, bK59, bK60, bK62, bK63, bK64, bK80, bK93, bK98, bK99, bK100, bK104, bK107, bK109, bK110, bK112, bK113, bK114, bK115, bK116, bK119, sK255, sK256, sK500, sK700, sK798, sK912, sK1400, sK2000])) ?_
  (rintro _ _ ⟨rfl, rfl⟩) <;> (repeat' (first | refine And.intro ?_ ?_ | (with_reducible intro h9; exact absurd h9 (by simp only [cI, cN]; decide +kernel)) | with_reducible intro _ | exact (rfl : narrow _ _ = _) | decide | (unfold vp_in; decide) | refine Eq.mpr (fL_eq _ _) ?_ | refine Eq.mpr (fW_eq _ _) ?_ | refine Eq.mpr (fN_eq _ _) ?_))
  · rename_i g
    have hz : ¬ nI F.B.1 = 0 := g
    have hn : 0 < F.B.1 := by
      rw [← nI_0, nI_eq (by omega) (by omega)] at hz
      omega
    refine ccn 31 [6, 7] (tb_count hg 12 8 F.B.1 5 F.B.2 (nI 0) h12 (by omega) (by omega) (by omega) (by omega)) (by decide) (by decide) (by decide) rfl (by repeat' (first | exact trivial | refine And.intro ?_ ?_ | rfl)) (by first | rfl | (simp (discharger := omega) only [renVs, renV, rnI, cI, cN, ← nI_0, nI_ltI, nI_leI, nI_eq, nI_add, pk_mul, pk_sub, nI_clamp, vinI, not_true_eq_false, not_false_eq_true, iK0, iK1, iK2, iK3, iK4, iK5, iKm1, bK6, bK7, bK8, bK9, bK10, bK12, bK14, bK15, bK16, bK20, bK21, bK26, bK30, bK32, bK33, bK45, bK48, bK57, bK59, bK60, bK62, bK63, bK64, bK80, bK93, bK98, bK99, bK100, bK104, bK107, bK109, bK110, bK112, bK113, bK114, bK115, bK116, bK119, sK255, sK256, sK500, sK700, sK798, sK912, sK1400, sK2000])) ?_
    (rintro _ _ ⟨rfl, rfl⟩) <;> (repeat' (first | refine And.intro ?_ ?_ | (with_reducible intro h9; exact absurd h9 (by simp only [cI, cN]; decide +kernel)) | with_reducible intro _ | exact (rfl : narrow _ _ = _) | decide | (unfold vp_in; decide) | refine Eq.mpr (fL_eq _ _) ?_ | refine Eq.mpr (fW_eq _ _) ?_ | refine Eq.mpr (fN_eq _ _) ?_))
    · exact fdiv_okN _ _ hz
    · show ansF t N F.B.1 _ _
      exact ⟨_, ⟨hn, rfl⟩, by rw [eb], cEnd_co I _⟩
  · rename_i g
    simp only [cN, Classical.not_not] at g
    have hn : F.B.1 = 0 := by
      rw [← nI_0, nI_eq (by omega) (by omega)] at g
      exact g
    show excD t N F.B.1 5 _
    exact ⟨_, ⟨hn, rfl⟩, rfl, cEnd_co I _⟩
set_option maxRecDepth 20000 in
theorem x_alike_l (hg : gOK G) (iF : fI F) (th : Nat → Int32) (h : tld F th F.B.1) {K : Option Value → xW → Prop} {KX : Nat → xW → Prop} (hK : K (some (.int (nI 1))) (ww F E H r X th P S sd er t)) : ∀ (c k : Nat) (hk : k ≤ 101) (hc9 : 101 - k = c),
    AW G M_X8_arePealsAlike 6 0 0 13 [some (.ref 0), some (.int (nI k))] [] (ww F E H r X th P S sd er t) K KX := by
  intro c
  induction c with
  | zero =>
    intro k hk hc9
    refine wp_ok (M := M_X8_arePealsAlike) hg ok_X8_arePealsAlike (lkp []) 60 _ _ _ _ _ _ ?_
    repeat' (first | refine And.intro ?_ ?_ | (with_reducible intro h9; exact absurd h9 (by simp only [cI, cN]; decide +kernel)) | with_reducible intro _ | exact (rfl : narrow _ _ = _) | decide | (unfold vp_in; decide) | refine Eq.mpr (fL_eq _ _) ?_ | refine Eq.mpr (fW_eq _ _) ?_ | refine Eq.mpr (fN_eq _ _) ?_)
    · rename_i g
      exact hK
    · rename_i g
      exfalso
      simp only [cN, bK100] at g
      exact g ((nI_ltI (by omega) (by omega)).mpr (by omega))
  | succ c ih =>
    intro k hk hc9
    refine wp_ok (M := M_X8_arePealsAlike) hg ok_X8_arePealsAlike (lkp [(40, [true, true])]) 60 _ _ _ _ _ _ ?_
    repeat' (first | refine And.intro ?_ ?_ | (with_reducible intro h9; exact absurd h9 (by simp only [cI, cN]; decide +kernel)) | with_reducible intro _ | exact (rfl : narrow _ _ = _) | decide | (unfold vp_in; decide) | refine Eq.mpr (fL_eq _ _) ?_ | refine Eq.mpr (fW_eq _ _) ?_ | refine Eq.mpr (fN_eq _ _) ?_)
    · rename_i g
      exfalso
      simp only [cI, bK100] at g
      have := (nI_ltI (by omega) (by omega)).mp g
      omega
    · refine ccn 31 [22, 23] (hl_peal hg th (tld_ok h) (nI k)) (by decide) (by decide) (by decide) rfl (by repeat' (first | exact trivial | refine And.intro ?_ ?_ | rfl)) (by first | rfl | (simp (discharger := omega) only [renVs, renV, rnI, cI, cN, ← nI_0, nI_ltI, nI_leI, nI_eq, nI_add, pk_mul, pk_sub, nI_clamp, vinI, not_true_eq_false, not_false_eq_true, iK0, iK1, iK2, iK3, iK4, iK5, iKm1, bK6, bK7, bK8, bK9, bK10, bK12, bK14, bK15, bK16, bK20, bK21, bK26, bK30, bK32, bK33, bK45, bK48, bK57, bK59, bK60, bK62, bK63, bK64, bK80, bK93, bK98, bK99, bK100, bK104, bK107, bK109, bK110, bK112, bK113, bK114, bK115, bK116, bK119, sK255, sK256, sK500, sK700, sK798, sK912, sK1400, sK2000])) ?_
      (rintro _ _ ⟨⟨s, hs, rfl⟩, rfl⟩) <;> (repeat' (first | refine And.intro ?_ ?_ | (with_reducible intro h9; exact absurd h9 (by simp only [cI, cN]; decide +kernel)) | with_reducible intro _ | exact (rfl : narrow _ _ = _) | decide | (unfold vp_in; decide) | refine Eq.mpr (fL_eq _ _) ?_ | refine Eq.mpr (fW_eq _ _) ?_ | refine Eq.mpr (fN_eq _ _) ?_))
      refine ccn 31 [1, 2, 3, 4, 5, 6, 7] (fd_peal hg F iF.B (nI k)) (by decide) (by decide) (by decide) rfl (by repeat' (first | exact trivial | refine And.intro ?_ ?_ | rfl)) (by first | rfl | (simp (discharger := omega) only [renVs, renV, rnI, cI, cN, ← nI_0, nI_ltI, nI_leI, nI_eq, nI_add, pk_mul, pk_sub, nI_clamp, vinI, not_true_eq_false, not_false_eq_true, iK0, iK1, iK2, iK3, iK4, iK5, iKm1, bK6, bK7, bK8, bK9, bK10, bK12, bK14, bK15, bK16, bK20, bK21, bK26, bK30, bK32, bK33, bK45, bK48, bK57, bK59, bK60, bK62, bK63, bK64, bK80, bK93, bK98, bK99, bK100, bK104, bK107, bK109, bK110, bK112, bK113, bK114, bK115, bK116, bK119, sK255, sK256, sK500, sK700, sK798, sK912, sK1400, sK2000])) ?_
      (rintro _ _ ⟨⟨s2, hs2, rfl⟩, rfl⟩) <;> (repeat' (first | refine And.intro ?_ ?_ | (with_reducible intro h9; exact absurd h9 (by simp only [cI, cN]; decide +kernel)) | with_reducible intro _ | exact (rfl : narrow _ _ = _) | decide | (unfold vp_in; decide) | refine Eq.mpr (fL_eq _ _) ?_ | refine Eq.mpr (fW_eq _ _) ?_ | refine Eq.mpr (fN_eq _ _) ?_))
      · refine wp_ok (M := M_X8_arePealsAlike) hg ok_X8_arePealsAlike (lkp [(13, [true, true])]) 60 _ _ _ _ _ _ ?_
        repeat' (first | refine And.intro ?_ ?_ | (with_reducible intro h9; exact absurd h9 (by simp only [cI, cN]; decide +kernel)) | with_reducible intro _ | exact (rfl : narrow _ _ = _) | decide | (unfold vp_in; decide) | refine Eq.mpr (fL_eq _ _) ?_ | refine Eq.mpr (fW_eq _ _) ?_ | refine Eq.mpr (fN_eq _ _) ?_)
        exact AW.cg (ih (k + 1) (by omega) (by omega)) rfl rfl rfl (by first | rfl | (simp (discharger := omega) only [msk, clr_i, clr_r, cI, cN, ← nI_0, nI_ltI, nI_leI, nI_eq, nI_add, pk_mul, pk_sub, nI_clamp, vinI, not_true_eq_false, not_false_eq_true, iK0, iK1, iK2, iK3, iK4, iK5, iKm1, bK6, bK7, bK8, bK9, bK10, bK12, bK14, bK15, bK16, bK20, bK21, bK26, bK30, bK32, bK33, bK45, bK48, bK57, bK59, bK60, bK62, bK63, bK64, bK80, bK93, bK98, bK99, bK100, bK104, bK107, bK109, bK110, bK112, bK113, bK114, bK115, bK116, bK119, sK255, sK256, sK500, sK700, sK798, sK912, sK1400, sK2000]; done) | (simp (discharger := omega) only [msk, clr_i, clr_r, cI, cN, ← nI_0, nI_ltI, nI_leI, nI_eq, nI_add, pk_mul, pk_sub, nI_clamp, vinI, not_true_eq_false, not_false_eq_true, iK0, iK1, iK2, iK3, iK4, iK5, iKm1, bK6, bK7, bK8, bK9, bK10, bK12, bK14, bK15, bK16, bK20, bK21, bK26, bK30, bK32, bK33, bK45, bK48, bK57, bK59, bK60, bK62, bK63, bK64, bK80, bK93, bK98, bK99, bK100, bK104, bK107, bK109, bK110, bK112, bK113, bK114, bK115, bK116, bK119, sK255, sK256, sK500, sK700, sK798, sK912, sK1400, sK2000]; rfl)) rfl rfl
      · rename_i g
        exfalso
        have e : s = s2 := isLd_u (isLd_cg hs fun j hj => told_F h (by omega) hj) hs2
        subst e
        exact g rfl
set_option maxRecDepth 20000 in
theorem x_alike (hg : gOK G) (iF : fI F) : Spec G 6 0 0 m_X8_arePealsAlike [.ref 0] (ww F E H r X ht P S sd er t) (fun v w' => v = some (.int (nI 1)) ∧ ∃ ht', w' = ww F E H r X ht' P S sd er t) NX := by
  refine wp_spec (M := M_X8_arePealsAlike) hg ok_X8_arePealsAlike (lkp [(13, [true, true])]) 60 rfl rfl ?_
  repeat' (first | refine And.intro ?_ ?_ | (with_reducible intro h9; exact absurd h9 (by simp only [cI, cN]; decide +kernel)) | with_reducible intro _ | exact (rfl : narrow _ _ = _) | decide | (unfold vp_in; decide) | refine Eq.mpr (fL_eq _ _) ?_ | refine Eq.mpr (fW_eq _ _) ?_ | refine Eq.mpr (fN_eq _ _) ?_)
  refine ccn 31 [1, 2, 3, 4, 5, 6, 7, 22, 23] (hl_gather hg F iF.B ht) (by decide) (by decide) (by decide) rfl (by repeat' (first | exact trivial | refine And.intro ?_ ?_ | rfl)) (by first | rfl | (simp (discharger := omega) only [renVs, renV, rnI, cI, cN, ← nI_0, nI_ltI, nI_leI, nI_eq, nI_add, pk_mul, pk_sub, nI_clamp, vinI, not_true_eq_false, not_false_eq_true, iK0, iK1, iK2, iK3, iK4, iK5, iKm1, bK6, bK7, bK8, bK9, bK10, bK12, bK14, bK15, bK16, bK20, bK21, bK26, bK30, bK32, bK33, bK45, bK48, bK57, bK59, bK60, bK62, bK63, bK64, bK80, bK93, bK98, bK99, bK100, bK104, bK107, bK109, bK110, bK112, bK113, bK114, bK115, bK116, bK119, sK255, sK256, sK500, sK700, sK798, sK912, sK1400, sK2000])) ?_
  (rintro _ _ ⟨rfl, t', k1, rfl⟩) <;> (repeat' (first | refine And.intro ?_ ?_ | (with_reducible intro h9; exact absurd h9 (by simp only [cI, cN]; decide +kernel)) | with_reducible intro _ | exact (rfl : narrow _ _ = _) | decide | (unfold vp_in; decide) | refine Eq.mpr (fL_eq _ _) ?_ | refine Eq.mpr (fW_eq _ _) ?_ | refine Eq.mpr (fN_eq _ _) ?_))
  exact AW.cg (x_alike_l (E := E) (H := H) (r := r) (X := X) (P := P) (S := S) (sd := sd) (er := er) (t := t) hg iF t' k1 ⟨rfl, t', rfl⟩ _ 0 (by omega) rfl) rfl rfl rfl (by first | rfl | (simp (discharger := omega) only [msk, clr_i, clr_r, cI, cN, ← nI_0, nI_ltI, nI_leI, nI_eq, nI_add, pk_mul, pk_sub, nI_clamp, vinI, not_true_eq_false, not_false_eq_true, iK0, iK1, iK2, iK3, iK4, iK5, iKm1, bK6, bK7, bK8, bK9, bK10, bK12, bK14, bK15, bK16, bK20, bK21, bK26, bK30, bK32, bK33, bK45, bK48, bK57, bK59, bK60, bK62, bK63, bK64, bK80, bK93, bK98, bK99, bK100, bK104, bK107, bK109, bK110, bK112, bK113, bK114, bK115, bK116, bK119, sK255, sK256, sK500, sK700, sK798, sK912, sK1400, sK2000]; done) | (simp (discharger := omega) only [msk, clr_i, clr_r, cI, cN, ← nI_0, nI_ltI, nI_leI, nI_eq, nI_add, pk_mul, pk_sub, nI_clamp, vinI, not_true_eq_false, not_false_eq_true, iK0, iK1, iK2, iK3, iK4, iK5, iKm1, bK6, bK7, bK8, bK9, bK10, bK12, bK14, bK15, bK16, bK20, bK21, bK26, bK30, bK32, bK33, bK45, bK48, bK57, bK59, bK60, bK62, bK63, bK64, bK80, bK93, bK98, bK99, bK100, bK104, bK107, bK109, bK110, bK112, bK113, bK114, bK115, bK116, bK119, sK255, sK256, sK500, sK700, sK798, sK912, sK1400, sK2000]; rfl)) rfl rfl
end CO
