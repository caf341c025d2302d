/-! ===== the law's calls ===== -/
section LC
variable {G : gT} {F E : fT} {H : hT} {r : Int32 × Int32} {X : xT} {ht : Nat → Int32} {P : pT7} {S : sT4} {sd : Value} {er i : Int32} {N : nT} {fo : Nat → Int64} {fd : Nat → UInt64} {u : xW} {bc bs : Nat} {K : Option Value → xW → Prop}
set_option maxRecDepth 20000 in
set_option maxRecDepth 20000 in
theorem law_bellOf (hg : gOK G) (I : cV F E H r X S sd er (tl N fo fd u) N) (v1 : vp_in (i + Int32.ofInt 1) G.L) (v2 : vp_in (i + Int32.ofInt 2) G.L) (hb : 51 ≤ bc) (hs : 1710 ≤ bs) (HN : lNext G (bc - 51) (bs - 1710) i K) : AW G M_L_law 12 bc bs 1052 (lsL i) [] (ww F E H r X ht P S sd er (tl N fo fd u)) K NX := by
  refine wp_okL (M := M_L_law) hg okL_law (lkp [(2253, [true, true, true, true, true, true, false, false, false])]) 120 _ _ _ _ _ _ ?_
  repeat' (first | refine And.intro ?_ ?_ | with_reducible exact v1 | with_reducible exact v2 | (with_reducible intro h9; exact absurd h9 (by simp only [cI, cN]; decide +kernel)) | with_reducible intro _ | exact (rfl : narrow _ _ = _) | decide | (unfold vp_in; decide) | refine Eq.mpr (fL_eq _ _) ?_ | refine Eq.mpr (fW_eq _ _) ?_ | refine Eq.mpr (fN_eq _ _) ?_)
  refine cci 42 (l_bellOf hg I rfl _ _) (by decide) (by omega) (by omega) rfl rfl ?_ (fun _ _ h => h.elim)
  rintro _ _ ⟨o, F', E', H', r', X', ht', P', S', sd', er', t', fo', hR, rfl, rfl, I', h9', h0', kp⟩
  obtain ⟨u', rfl⟩ := tl_9 h9' kp
  repeat' (first | refine And.intro ?_ ?_ | with_reducible exact v1 | with_reducible exact v2 | (with_reducible intro h9; exact absurd h9 (by simp only [cI, cN]; decide +kernel)) | with_reducible intro _ | exact (rfl : narrow _ _ = _) | decide | (unfold vp_in; decide) | refine Eq.mpr (fL_eq _ _) ?_ | refine Eq.mpr (fW_eq _ _) ?_ | refine Eq.mpr (fN_eq _ _) ?_)
  refine ccn 42 [31, 32, 33, 34, 35, 36, 37, 38, 39] (sp_R (r_bellOf hg N _ I.nb _ _)) (by decide) (Nat.zero_le _) (Nat.zero_le _) rfl (by repeat' (first | exact trivial | refine And.intro ?_ ?_ | rfl)) rfl ?_
  rintro _ _ ⟨o', hR', q1, rfl, b, rfl, q2⟩
  have hu := uniq_f o o' hR hR'
  have I2 := cV_tl (N' := o'.2.2) (cV_v I' hu.2.2)
  have hco : o'.2.2.co = nI o.1 := q1.trans (nI_uq hu.1.symm)
  have hz : nI o.1 = 0 → lg_cmp (fo' 0) b.toInt64 = 0 := fun z => by
    have z0 := nI_z (lt_oTwo o hR) z
    rw [h0' z0, q2 (hu.1.symm.trans z0), hu.2.1 z0]
    exact lgc
  repeat' (first | refine And.intro ?_ ?_ | with_reducible exact v1 | with_reducible exact v2 | (with_reducible intro h9; exact absurd h9 (by simp only [cI, cN]; decide +kernel)) | with_reducible intro _ | exact (rfl : narrow _ _ = _) | decide | (unfold vp_in; decide) | refine Eq.mpr (fL_eq _ _) ?_ | refine Eq.mpr (fW_eq _ _) ?_ | refine Eq.mpr (fN_eq _ _) ?_)
  refine ccn 42 [31, 32, 33, 34, 35, 36, 37, 38, 39] (md_thrown hg o'.2.2) (by decide) (Nat.zero_le _) (Nat.zero_le _) rfl (by repeat' (first | exact trivial | refine And.intro ?_ ?_ | rfl)) rfl ?_
  rintro _ _ ⟨rfl, rfl⟩
  repeat' (first | refine And.intro ?_ ?_ | with_reducible exact v1 | with_reducible exact v2 | (with_reducible intro h9; exact absurd h9 (by simp only [cI, cN]; decide +kernel)) | with_reducible intro _ | exact (rfl : narrow _ _ = _) | decide | (unfold vp_in; decide) | refine Eq.mpr (fL_eq _ _) ?_ | refine Eq.mpr (fW_eq _ _) ?_ | refine Eq.mpr (fN_eq _ _) ?_)
  all_goals first
    | exact HN _ _ _ _ _ _ _ _ _ _ _ _ _ _ I2
    | (rename_i g; exact absurd hco g)
    | (rename_i g2 g3; exact absurd (hz g2) g3)
set_option maxRecDepth 20000 in
set_option maxRecDepth 20000 in
theorem law_note (hg : gOK G) (I : cV F E H r X S sd er (tl N fo fd u) N) (v1 : vp_in (i + Int32.ofInt 1) G.L) (v2 : vp_in (i + Int32.ofInt 2) G.L) (hb : 51 ≤ bc) (hs : 1710 ≤ bs) (HN : lNext G (bc - 51) (bs - 1710) i K) : AW G M_L_law 12 bc bs 1120 (lsL i) [] (ww F E H r X ht P S sd er (tl N fo fd u)) K NX := by
  refine wp_okL (M := M_L_law) hg okL_law (lkp [(2253, [true, true, true, true, true, true, false, false, false])]) 120 _ _ _ _ _ _ ?_
  by_cases z : G.xs (i + Int32.ofInt 2).toNatClampNeg = 0
  · repeat' (first | refine And.intro ?_ ?_ | with_reducible exact v1 | with_reducible exact v2 | (with_reducible intro h9; exact absurd h9 (by simp only [cI, cN]; decide +kernel)) | ((with_reducible intro h9); exact absurd z h9) | ((with_reducible intro h9); exact absurd h9 z) | with_reducible intro _ | exact (rfl : narrow _ _ = _) | decide | (unfold vp_in; decide) | refine Eq.mpr (fL_eq _ _) ?_ | refine Eq.mpr (fW_eq _ _) ?_ | refine Eq.mpr (fN_eq _ _) ?_)
    refine cci 42 (l_note hg I rfl _ _) (by decide) (by omega) (by omega) rfl rfl ?_ (fun _ _ h => h.elim)
    rintro _ _ ⟨o, F', E', H', r', X', ht', P', S', sd', er', t', fo', hR, rfl, rfl, I', h9', h0', kp⟩
    obtain ⟨u', rfl⟩ := tl_9 h9' kp
    repeat' (first | refine And.intro ?_ ?_ | with_reducible exact v1 | with_reducible exact v2 | (with_reducible intro h9; exact absurd h9 (by simp only [cI, cN]; decide +kernel)) | ((with_reducible intro h9); exact absurd z h9) | ((with_reducible intro h9); exact absurd h9 z) | with_reducible intro _ | exact (rfl : narrow _ _ = _) | decide | (unfold vp_in; decide) | refine Eq.mpr (fL_eq _ _) ?_ | refine Eq.mpr (fW_eq _ _) ?_ | refine Eq.mpr (fN_eq _ _) ?_)
    refine ccn 42 [31, 32, 33, 34, 35, 36, 37, 38, 39] (sp_R (r_note hg N _ I.nb _ _)) (by decide) (Nat.zero_le _) (Nat.zero_le _) rfl (by repeat' (first | exact trivial | refine And.intro ?_ ?_ | rfl)) rfl ?_
    rintro _ _ ⟨o', hR', q1, rfl, b, rfl, q2⟩
    have hu := uniq_f o o' hR hR'
    have I2 := cV_tl (N' := o'.2.2) (cV_v I' hu.2.2)
    have hco : o'.2.2.co = nI o.1 := q1.trans (nI_uq hu.1.symm)
    have hz : nI o.1 = 0 → lg_cmp (fo' 0) b.toInt64 = 0 := fun z => by
      have z0 := nI_z (lt_oOne o hR) z
      rw [h0' z0, q2 (hu.1.symm.trans z0), hu.2.1 z0]
      exact lgc
    repeat' (first | refine And.intro ?_ ?_ | with_reducible exact v1 | with_reducible exact v2 | (with_reducible intro h9; exact absurd h9 (by simp only [cI, cN]; decide +kernel)) | ((with_reducible intro h9); exact absurd z h9) | ((with_reducible intro h9); exact absurd h9 z) | with_reducible intro _ | exact (rfl : narrow _ _ = _) | decide | (unfold vp_in; decide) | refine Eq.mpr (fL_eq _ _) ?_ | refine Eq.mpr (fW_eq _ _) ?_ | refine Eq.mpr (fN_eq _ _) ?_)
    refine ccn 42 [31, 32, 33, 34, 35, 36, 37, 38, 39] (md_thrown hg o'.2.2) (by decide) (Nat.zero_le _) (Nat.zero_le _) rfl (by repeat' (first | exact trivial | refine And.intro ?_ ?_ | rfl)) rfl ?_
    rintro _ _ ⟨rfl, rfl⟩
    repeat' (first | refine And.intro ?_ ?_ | with_reducible exact v1 | with_reducible exact v2 | (with_reducible intro h9; exact absurd h9 (by simp only [cI, cN]; decide +kernel)) | ((with_reducible intro h9); exact absurd z h9) | ((with_reducible intro h9); exact absurd h9 z) | with_reducible intro _ | exact (rfl : narrow _ _ = _) | decide | (unfold vp_in; decide) | refine Eq.mpr (fL_eq _ _) ?_ | refine Eq.mpr (fW_eq _ _) ?_ | refine Eq.mpr (fN_eq _ _) ?_)
    all_goals first
      | exact HN _ _ _ _ _ _ _ _ _ _ _ _ _ _ I2
      | (rename_i g; exact absurd hco g)
      | (rename_i g2 g3; exact absurd (hz g2) g3)
  · repeat' (first | refine And.intro ?_ ?_ | with_reducible exact v1 | with_reducible exact v2 | (with_reducible intro h9; exact absurd h9 (by simp only [cI, cN]; decide +kernel)) | ((with_reducible intro h9); exact absurd z h9) | ((with_reducible intro h9); exact absurd h9 z) | with_reducible intro _ | exact (rfl : narrow _ _ = _) | decide | (unfold vp_in; decide) | refine Eq.mpr (fL_eq _ _) ?_ | refine Eq.mpr (fW_eq _ _) ?_ | refine Eq.mpr (fN_eq _ _) ?_)
    refine cci 42 (l_note hg I rfl _ _) (by decide) (by omega) (by omega) rfl rfl ?_ (fun _ _ h => h.elim)
    rintro _ _ ⟨o, F', E', H', r', X', ht', P', S', sd', er', t', fo', hR, rfl, rfl, I', h9', h0', kp⟩
    obtain ⟨u', rfl⟩ := tl_9 h9' kp
    repeat' (first | refine And.intro ?_ ?_ | with_reducible exact v1 | with_reducible exact v2 | (with_reducible intro h9; exact absurd h9 (by simp only [cI, cN]; decide +kernel)) | ((with_reducible intro h9); exact absurd z h9) | ((with_reducible intro h9); exact absurd h9 z) | with_reducible intro _ | exact (rfl : narrow _ _ = _) | decide | (unfold vp_in; decide) | refine Eq.mpr (fL_eq _ _) ?_ | refine Eq.mpr (fW_eq _ _) ?_ | refine Eq.mpr (fN_eq _ _) ?_)
    refine ccn 42 [31, 32, 33, 34, 35, 36, 37, 38, 39] (sp_R (r_note hg N _ I.nb _ _)) (by decide) (Nat.zero_le _) (Nat.zero_le _) rfl (by repeat' (first | exact trivial | refine And.intro ?_ ?_ | rfl)) rfl ?_
    rintro _ _ ⟨o', hR', q1, rfl, b, rfl, q2⟩
    have hu := uniq_f o o' hR hR'
    have I2 := cV_tl (N' := o'.2.2) (cV_v I' hu.2.2)
    have hco : o'.2.2.co = nI o.1 := q1.trans (nI_uq hu.1.symm)
    have hz : nI o.1 = 0 → lg_cmp (fo' 0) b.toInt64 = 0 := fun z => by
      have z0 := nI_z (lt_oOne o hR) z
      rw [h0' z0, q2 (hu.1.symm.trans z0), hu.2.1 z0]
      exact lgc
    repeat' (first | refine And.intro ?_ ?_ | with_reducible exact v1 | with_reducible exact v2 | (with_reducible intro h9; exact absurd h9 (by simp only [cI, cN]; decide +kernel)) | ((with_reducible intro h9); exact absurd z h9) | ((with_reducible intro h9); exact absurd h9 z) | with_reducible intro _ | exact (rfl : narrow _ _ = _) | decide | (unfold vp_in; decide) | refine Eq.mpr (fL_eq _ _) ?_ | refine Eq.mpr (fW_eq _ _) ?_ | refine Eq.mpr (fN_eq _ _) ?_)
    refine ccn 42 [31, 32, 33, 34, 35, 36, 37, 38, 39] (md_thrown hg o'.2.2) (by decide) (Nat.zero_le _) (Nat.zero_le _) rfl (by repeat' (first | exact trivial | refine And.intro ?_ ?_ | rfl)) rfl ?_
    rintro _ _ ⟨rfl, rfl⟩
    repeat' (first | refine And.intro ?_ ?_ | with_reducible exact v1 | with_reducible exact v2 | (with_reducible intro h9; exact absurd h9 (by simp only [cI, cN]; decide +kernel)) | ((with_reducible intro h9); exact absurd z h9) | ((with_reducible intro h9); exact absurd h9 z) | with_reducible intro _ | exact (rfl : narrow _ _ = _) | decide | (unfold vp_in; decide) | refine Eq.mpr (fL_eq _ _) ?_ | refine Eq.mpr (fW_eq _ _) ?_ | refine Eq.mpr (fN_eq _ _) ?_)
    all_goals first
      | exact HN _ _ _ _ _ _ _ _ _ _ _ _ _ _ I2
      | (rename_i g; exact absurd hco g)
      | (rename_i g2 g3; exact absurd (hz g2) g3)
set_option maxRecDepth 20000 in
set_option maxRecDepth 20000 in
theorem law_wouldCrack (hg : gOK G) (I : cV F E H r X S sd er (tl N fo fd u) N) (v1 : vp_in (i + Int32.ofInt 1) G.L) (v2 : vp_in (i + Int32.ofInt 2) G.L) (hb : 51 ≤ bc) (hs : 1710 ≤ bs) (HN : lNext G (bc - 51) (bs - 1710) i K) : AW G M_L_law 12 bc bs 1204 (lsL i) [] (ww F E H r X ht P S sd er (tl N fo fd u)) K NX := by
  refine wp_okL (M := M_L_law) hg okL_law (lkp [(2253, [true, true, true, true, true, true, false, false, false])]) 120 _ _ _ _ _ _ ?_
  repeat' (first | refine And.intro ?_ ?_ | with_reducible exact v1 | with_reducible exact v2 | (with_reducible intro h9; exact absurd h9 (by simp only [cI, cN]; decide +kernel)) | with_reducible intro _ | exact (rfl : narrow _ _ = _) | decide | (unfold vp_in; decide) | refine Eq.mpr (fL_eq _ _) ?_ | refine Eq.mpr (fW_eq _ _) ?_ | refine Eq.mpr (fN_eq _ _) ?_)
  refine cci 42 (l_wouldCrack hg I rfl _ _) (by decide) (by omega) (by omega) rfl rfl ?_ (fun _ _ h => h.elim)
  rintro _ _ ⟨o, F', E', H', r', X', ht', P', S', sd', er', t', fo', hR, rfl, rfl, I', h9', h0', kp⟩
  obtain ⟨u', rfl⟩ := tl_9 h9' kp
  repeat' (first | refine And.intro ?_ ?_ | with_reducible exact v1 | with_reducible exact v2 | (with_reducible intro h9; exact absurd h9 (by simp only [cI, cN]; decide +kernel)) | with_reducible intro _ | exact (rfl : narrow _ _ = _) | decide | (unfold vp_in; decide) | refine Eq.mpr (fL_eq _ _) ?_ | refine Eq.mpr (fW_eq _ _) ?_ | refine Eq.mpr (fN_eq _ _) ?_)
  refine ccn 42 [31, 32, 33, 34, 35, 36, 37, 38, 39] (sp_R (r_would hg N _ I.nb (gH_F I.1.1 I.1.2.1) _ _)) (by decide) (Nat.zero_le _) (Nat.zero_le _) rfl (by repeat' (first | exact trivial | refine And.intro ?_ ?_ | rfl)) rfl ?_
  rintro _ _ ⟨o', hR', q1, rfl, b, rfl, q2⟩
  have hu := uniq_f o o' hR hR'
  have I2 := cV_tl (N' := o'.2.2) (cV_v I' hu.2.2)
  have hco : o'.2.2.co = nI o.1 := q1.trans (nI_uq hu.1.symm)
  have hz : nI o.1 = 0 → lg_cmp (fo' 0) b.toInt64 = 0 := fun z => by
    have z0 := nI_z (lt_oWould o hR) z
    rw [h0' z0, q2 (hu.1.symm.trans z0), hu.2.1 z0]
    exact lgc
  repeat' (first | refine And.intro ?_ ?_ | with_reducible exact v1 | with_reducible exact v2 | (with_reducible intro h9; exact absurd h9 (by simp only [cI, cN]; decide +kernel)) | with_reducible intro _ | exact (rfl : narrow _ _ = _) | decide | (unfold vp_in; decide) | refine Eq.mpr (fL_eq _ _) ?_ | refine Eq.mpr (fW_eq _ _) ?_ | refine Eq.mpr (fN_eq _ _) ?_)
  refine ccn 42 [31, 32, 33, 34, 35, 36, 37, 38, 39] (md_thrown hg o'.2.2) (by decide) (Nat.zero_le _) (Nat.zero_le _) rfl (by repeat' (first | exact trivial | refine And.intro ?_ ?_ | rfl)) rfl ?_
  rintro _ _ ⟨rfl, rfl⟩
  repeat' (first | refine And.intro ?_ ?_ | with_reducible exact v1 | with_reducible exact v2 | (with_reducible intro h9; exact absurd h9 (by simp only [cI, cN]; decide +kernel)) | with_reducible intro _ | exact (rfl : narrow _ _ = _) | decide | (unfold vp_in; decide) | refine Eq.mpr (fL_eq _ _) ?_ | refine Eq.mpr (fW_eq _ _) ?_ | refine Eq.mpr (fN_eq _ _) ?_)
  all_goals first
    | exact HN _ _ _ _ _ _ _ _ _ _ _ _ _ _ I2
    | (rename_i g; exact absurd hco g)
    | (rename_i g2 g3; exact absurd (hz g2) g3)
set_option maxRecDepth 20000 in
set_option maxRecDepth 20000 in
theorem law_coldIn (hg : gOK G) (I : cV F E H r X S sd er (tl N fo fd u) N) (v1 : vp_in (i + Int32.ofInt 1) G.L) (v2 : vp_in (i + Int32.ofInt 2) G.L) (hb : 51 ≤ bc) (hs : 1710 ≤ bs) (HN : lNext G (bc - 51) (bs - 1710) i K) : AW G M_L_law 12 bc bs 1272 (lsL i) [] (ww F E H r X ht P S sd er (tl N fo fd u)) K NX := by
  refine wp_okL (M := M_L_law) hg okL_law (lkp [(2253, [true, true, true, true, true, true, false, false, false])]) 120 _ _ _ _ _ _ ?_
  repeat' (first | refine And.intro ?_ ?_ | with_reducible exact v1 | with_reducible exact v2 | (with_reducible intro h9; exact absurd h9 (by simp only [cI, cN]; decide +kernel)) | with_reducible intro _ | exact (rfl : narrow _ _ = _) | decide | (unfold vp_in; decide) | refine Eq.mpr (fL_eq _ _) ?_ | refine Eq.mpr (fW_eq _ _) ?_ | refine Eq.mpr (fN_eq _ _) ?_)
  refine cci 42 (l_coldIn hg I rfl _) (by decide) (by omega) (by omega) rfl rfl ?_ (fun _ _ h => h.elim)
  rintro _ _ ⟨o, F', E', H', r', X', ht', P', S', sd', er', t', fo', hR, rfl, rfl, I', h9', h0', kp⟩
  obtain ⟨u', rfl⟩ := tl_9 h9' kp
  repeat' (first | refine And.intro ?_ ?_ | with_reducible exact v1 | with_reducible exact v2 | (with_reducible intro h9; exact absurd h9 (by simp only [cI, cN]; decide +kernel)) | with_reducible intro _ | exact (rfl : narrow _ _ = _) | decide | (unfold vp_in; decide) | refine Eq.mpr (fL_eq _ _) ?_ | refine Eq.mpr (fW_eq _ _) ?_ | refine Eq.mpr (fN_eq _ _) ?_)
  refine ccn 42 [31, 32, 33, 34, 35, 36, 37, 38, 39] (sp_R (r_coldIn hg N _ I.nb (gH_F I.1.1 I.1.2.1) _)) (by decide) (Nat.zero_le _) (Nat.zero_le _) rfl (by repeat' (first | exact trivial | refine And.intro ?_ ?_ | rfl)) rfl ?_
  rintro _ _ ⟨o', hR', q1, rfl, b, rfl, q2⟩
  have hu := uniq_f o o' hR hR'
  have I2 := cV_tl (N' := o'.2.2) (cV_v I' hu.2.2)
  have hco : o'.2.2.co = nI o.1 := q1.trans (nI_uq hu.1.symm)
  have hz : nI o.1 = 0 → lg_cmp (fo' 0) b.toInt64 = 0 := fun z => by
    have z0 := nI_z (lt_oOne o hR) z
    rw [h0' z0, q2 (hu.1.symm.trans z0), hu.2.1 z0]
    exact lgc
  repeat' (first | refine And.intro ?_ ?_ | with_reducible exact v1 | with_reducible exact v2 | (with_reducible intro h9; exact absurd h9 (by simp only [cI, cN]; decide +kernel)) | with_reducible intro _ | exact (rfl : narrow _ _ = _) | decide | (unfold vp_in; decide) | refine Eq.mpr (fL_eq _ _) ?_ | refine Eq.mpr (fW_eq _ _) ?_ | refine Eq.mpr (fN_eq _ _) ?_)
  refine ccn 42 [31, 32, 33, 34, 35, 36, 37, 38, 39] (md_thrown hg o'.2.2) (by decide) (Nat.zero_le _) (Nat.zero_le _) rfl (by repeat' (first | exact trivial | refine And.intro ?_ ?_ | rfl)) rfl ?_
  rintro _ _ ⟨rfl, rfl⟩
  repeat' (first | refine And.intro ?_ ?_ | with_reducible exact v1 | with_reducible exact v2 | (with_reducible intro h9; exact absurd h9 (by simp only [cI, cN]; decide +kernel)) | with_reducible intro _ | exact (rfl : narrow _ _ = _) | decide | (unfold vp_in; decide) | refine Eq.mpr (fL_eq _ _) ?_ | refine Eq.mpr (fW_eq _ _) ?_ | refine Eq.mpr (fN_eq _ _) ?_)
  all_goals first
    | exact HN _ _ _ _ _ _ _ _ _ _ _ _ _ _ I2
    | (rename_i g; exact absurd hco g)
    | (rename_i g2 g3; exact absurd (hz g2) g3)
set_option maxRecDepth 20000 in
set_option maxRecDepth 20000 in
theorem law_peal (hg : gOK G) (I : cV F E H r X S sd er (tl N fo fd u) N) (v1 : vp_in (i + Int32.ofInt 1) G.L) (v2 : vp_in (i + Int32.ofInt 2) G.L) (hb : 51 ≤ bc) (hs : 1710 ≤ bs) (HN : lNext G (bc - 51) (bs - 1710) i K) : AW G M_L_law 12 bc bs 1328 (lsL i) [] (ww F E H r X ht P S sd er (tl N fo fd u)) K NX := by
  refine wp_okL (M := M_L_law) hg okL_law (lkp [(2253, [true, true, true, true, true, true, false, false, false])]) 120 _ _ _ _ _ _ ?_
  by_cases z : G.xs (i + Int32.ofInt 2).toNatClampNeg = 0
  · repeat' (first | refine And.intro ?_ ?_ | with_reducible exact v1 | with_reducible exact v2 | (with_reducible intro h9; exact absurd h9 (by simp only [cI, cN]; decide +kernel)) | ((with_reducible intro h9); exact absurd z h9) | ((with_reducible intro h9); exact absurd h9 z) | with_reducible intro _ | exact (rfl : narrow _ _ = _) | decide | (unfold vp_in; decide) | refine Eq.mpr (fL_eq _ _) ?_ | refine Eq.mpr (fW_eq _ _) ?_ | refine Eq.mpr (fN_eq _ _) ?_)
    refine cci 42 (l_peal hg I rfl _ _) (by decide) (by omega) (by omega) rfl rfl ?_ (fun _ _ h => h.elim)
    rintro _ _ ⟨o, F', E', H', r', X', ht', P', S', sd', er', t', fo', hR, rfl, rfl, I', h9', h0', kp⟩
    obtain ⟨u', rfl⟩ := tl_9 h9' kp
    repeat' (first | refine And.intro ?_ ?_ | with_reducible exact v1 | with_reducible exact v2 | (with_reducible intro h9; exact absurd h9 (by simp only [cI, cN]; decide +kernel)) | ((with_reducible intro h9); exact absurd z h9) | ((with_reducible intro h9); exact absurd h9 z) | with_reducible intro _ | exact (rfl : narrow _ _ = _) | decide | (unfold vp_in; decide) | refine Eq.mpr (fL_eq _ _) ?_ | refine Eq.mpr (fW_eq _ _) ?_ | refine Eq.mpr (fN_eq _ _) ?_)
    refine ccn 42 [31, 32, 33, 34, 35, 36, 37, 38, 39] (r_peal hg N _ I.nb _ _) (by decide) (Nat.zero_le _) (Nat.zero_le _) rfl (by repeat' (first | exact trivial | refine And.intro ?_ ?_ | rfl)) rfl ?_
    rintro _ _ ⟨o', hR', q1, rfl, b, rfl, q2⟩
    have hu := uniq_peal o o' hR hR'
    have I2 := cV_tl (N' := o'.2.2) (cV_v I' hu.2.2)
    have hco : o'.2.2.co = nI o.1 := q1.trans (nI_uq hu.1.symm)
    have hz : nI o.1 = 0 → lg_cmp (fo' 0) b.toInt64 = 0 := fun z => by
      have z0 := nI_z (lt_okPeal o hR) z
      rw [h0' z0, q2 (hu.1.symm.trans z0), hu.2.1 z0]
      exact lgc
    repeat' (first | refine And.intro ?_ ?_ | with_reducible exact v1 | with_reducible exact v2 | (with_reducible intro h9; exact absurd h9 (by simp only [cI, cN]; decide +kernel)) | ((with_reducible intro h9); exact absurd z h9) | ((with_reducible intro h9); exact absurd h9 z) | with_reducible intro _ | exact (rfl : narrow _ _ = _) | decide | (unfold vp_in; decide) | refine Eq.mpr (fL_eq _ _) ?_ | refine Eq.mpr (fW_eq _ _) ?_ | refine Eq.mpr (fN_eq _ _) ?_)
    refine ccn 42 [31, 32, 33, 34, 35, 36, 37, 38, 39] (md_thrown hg o'.2.2) (by decide) (Nat.zero_le _) (Nat.zero_le _) rfl (by repeat' (first | exact trivial | refine And.intro ?_ ?_ | rfl)) rfl ?_
    rintro _ _ ⟨rfl, rfl⟩
    repeat' (first | refine And.intro ?_ ?_ | with_reducible exact v1 | with_reducible exact v2 | (with_reducible intro h9; exact absurd h9 (by simp only [cI, cN]; decide +kernel)) | ((with_reducible intro h9); exact absurd z h9) | ((with_reducible intro h9); exact absurd h9 z) | with_reducible intro _ | exact (rfl : narrow _ _ = _) | decide | (unfold vp_in; decide) | refine Eq.mpr (fL_eq _ _) ?_ | refine Eq.mpr (fW_eq _ _) ?_ | refine Eq.mpr (fN_eq _ _) ?_)
    all_goals first
      | exact HN _ _ _ _ _ _ _ _ _ _ _ _ _ _ I2
      | (rename_i g; exact absurd hco g)
      | (rename_i g2 g3; exact absurd (hz g2) g3)
  · repeat' (first | refine And.intro ?_ ?_ | with_reducible exact v1 | with_reducible exact v2 | (with_reducible intro h9; exact absurd h9 (by simp only [cI, cN]; decide +kernel)) | ((with_reducible intro h9); exact absurd z h9) | ((with_reducible intro h9); exact absurd h9 z) | with_reducible intro _ | exact (rfl : narrow _ _ = _) | decide | (unfold vp_in; decide) | refine Eq.mpr (fL_eq _ _) ?_ | refine Eq.mpr (fW_eq _ _) ?_ | refine Eq.mpr (fN_eq _ _) ?_)
    refine cci 42 (l_peal hg I rfl _ _) (by decide) (by omega) (by omega) rfl rfl ?_ (fun _ _ h => h.elim)
    rintro _ _ ⟨o, F', E', H', r', X', ht', P', S', sd', er', t', fo', hR, rfl, rfl, I', h9', h0', kp⟩
    obtain ⟨u', rfl⟩ := tl_9 h9' kp
    repeat' (first | refine And.intro ?_ ?_ | with_reducible exact v1 | with_reducible exact v2 | (with_reducible intro h9; exact absurd h9 (by simp only [cI, cN]; decide +kernel)) | ((with_reducible intro h9); exact absurd z h9) | ((with_reducible intro h9); exact absurd h9 z) | with_reducible intro _ | exact (rfl : narrow _ _ = _) | decide | (unfold vp_in; decide) | refine Eq.mpr (fL_eq _ _) ?_ | refine Eq.mpr (fW_eq _ _) ?_ | refine Eq.mpr (fN_eq _ _) ?_)
    refine ccn 42 [31, 32, 33, 34, 35, 36, 37, 38, 39] (r_peal hg N _ I.nb _ _) (by decide) (Nat.zero_le _) (Nat.zero_le _) rfl (by repeat' (first | exact trivial | refine And.intro ?_ ?_ | rfl)) rfl ?_
    rintro _ _ ⟨o', hR', q1, rfl, b, rfl, q2⟩
    have hu := uniq_peal o o' hR hR'
    have I2 := cV_tl (N' := o'.2.2) (cV_v I' hu.2.2)
    have hco : o'.2.2.co = nI o.1 := q1.trans (nI_uq hu.1.symm)
    have hz : nI o.1 = 0 → lg_cmp (fo' 0) b.toInt64 = 0 := fun z => by
      have z0 := nI_z (lt_okPeal o hR) z
      rw [h0' z0, q2 (hu.1.symm.trans z0), hu.2.1 z0]
      exact lgc
    repeat' (first | refine And.intro ?_ ?_ | with_reducible exact v1 | with_reducible exact v2 | (with_reducible intro h9; exact absurd h9 (by simp only [cI, cN]; decide +kernel)) | ((with_reducible intro h9); exact absurd z h9) | ((with_reducible intro h9); exact absurd h9 z) | with_reducible intro _ | exact (rfl : narrow _ _ = _) | decide | (unfold vp_in; decide) | refine Eq.mpr (fL_eq _ _) ?_ | refine Eq.mpr (fW_eq _ _) ?_ | refine Eq.mpr (fN_eq _ _) ?_)
    refine ccn 42 [31, 32, 33, 34, 35, 36, 37, 38, 39] (md_thrown hg o'.2.2) (by decide) (Nat.zero_le _) (Nat.zero_le _) rfl (by repeat' (first | exact trivial | refine And.intro ?_ ?_ | rfl)) rfl ?_
    rintro _ _ ⟨rfl, rfl⟩
    repeat' (first | refine And.intro ?_ ?_ | with_reducible exact v1 | with_reducible exact v2 | (with_reducible intro h9; exact absurd h9 (by simp only [cI, cN]; decide +kernel)) | ((with_reducible intro h9); exact absurd z h9) | ((with_reducible intro h9); exact absurd h9 z) | with_reducible intro _ | exact (rfl : narrow _ _ = _) | decide | (unfold vp_in; decide) | refine Eq.mpr (fL_eq _ _) ?_ | refine Eq.mpr (fW_eq _ _) ?_ | refine Eq.mpr (fN_eq _ _) ?_)
    all_goals first
      | exact HN _ _ _ _ _ _ _ _ _ _ _ _ _ _ I2
      | (rename_i g; exact absurd hco g)
      | (rename_i g2 g3; exact absurd (hz g2) g3)
set_option maxRecDepth 20000 in
set_option maxRecDepth 20000 in
theorem law_longest (hg : gOK G) (I : cV F E H r X S sd er (tl N fo fd u) N) (v1 : vp_in (i + Int32.ofInt 1) G.L) (v2 : vp_in (i + Int32.ofInt 2) G.L) (hb : 51 ≤ bc) (hs : 1710 ≤ bs) (HN : lNext G (bc - 51) (bs - 1710) i K) : AW G M_L_law 12 bc bs 1412 (lsL i) [] (ww F E H r X ht P S sd er (tl N fo fd u)) K NX := by
  refine wp_okL (M := M_L_law) hg okL_law (lkp [(2253, [true, true, true, true, true, true, false, false, false])]) 120 _ _ _ _ _ _ ?_
  repeat' (first | refine And.intro ?_ ?_ | with_reducible exact v1 | with_reducible exact v2 | (with_reducible intro h9; exact absurd h9 (by simp only [cI, cN]; decide +kernel)) | with_reducible intro _ | exact (rfl : narrow _ _ = _) | decide | (unfold vp_in; decide) | refine Eq.mpr (fL_eq _ _) ?_ | refine Eq.mpr (fW_eq _ _) ?_ | refine Eq.mpr (fN_eq _ _) ?_)
  refine cci 42 (l_longest hg I rfl) (by decide) (by omega) (by omega) rfl rfl ?_ (fun _ _ h => h.elim)
  rintro _ _ ⟨o, F', E', H', r', X', ht', P', S', sd', er', t', fo', hR, rfl, rfl, I', h9', h0', kp⟩
  obtain ⟨u', rfl⟩ := tl_9 h9' kp
  repeat' (first | refine And.intro ?_ ?_ | with_reducible exact v1 | with_reducible exact v2 | (with_reducible intro h9; exact absurd h9 (by simp only [cI, cN]; decide +kernel)) | with_reducible intro _ | exact (rfl : narrow _ _ = _) | decide | (unfold vp_in; decide) | refine Eq.mpr (fL_eq _ _) ?_ | refine Eq.mpr (fW_eq _ _) ?_ | refine Eq.mpr (fN_eq _ _) ?_)
  refine ccn 42 [31, 32, 33, 34, 35, 36, 37, 38, 39] (r_long hg N _ I.nb) (by decide) (Nat.zero_le _) (Nat.zero_le _) rfl (by repeat' (first | exact trivial | refine And.intro ?_ ?_ | rfl)) rfl ?_
  rintro _ _ ⟨o', hR', q1, rfl, b, rfl, q2⟩
  have hu := uniq_long o o' hR hR'
  have I2 := cV_tl (N' := o'.2.2) (cV_v I' hu.2.2)
  have hco : o'.2.2.co = nI o.1 := q1.trans (nI_uq hu.1.symm)
  have hz : nI o.1 = 0 → lg_cmp (fo' 0) b.toInt64 = 0 := fun z => by
    have z0 := nI_z (lt_okLong o hR) z
    rw [h0' z0, q2 (hu.1.symm.trans z0), hu.2.1 z0]
    exact lgc
  repeat' (first | refine And.intro ?_ ?_ | with_reducible exact v1 | with_reducible exact v2 | (with_reducible intro h9; exact absurd h9 (by simp only [cI, cN]; decide +kernel)) | with_reducible intro _ | exact (rfl : narrow _ _ = _) | decide | (unfold vp_in; decide) | refine Eq.mpr (fL_eq _ _) ?_ | refine Eq.mpr (fW_eq _ _) ?_ | refine Eq.mpr (fN_eq _ _) ?_)
  refine ccn 42 [31, 32, 33, 34, 35, 36, 37, 38, 39] (md_thrown hg o'.2.2) (by decide) (Nat.zero_le _) (Nat.zero_le _) rfl (by repeat' (first | exact trivial | refine And.intro ?_ ?_ | rfl)) rfl ?_
  rintro _ _ ⟨rfl, rfl⟩
  repeat' (first | refine And.intro ?_ ?_ | with_reducible exact v1 | with_reducible exact v2 | (with_reducible intro h9; exact absurd h9 (by simp only [cI, cN]; decide +kernel)) | with_reducible intro _ | exact (rfl : narrow _ _ = _) | decide | (unfold vp_in; decide) | refine Eq.mpr (fL_eq _ _) ?_ | refine Eq.mpr (fW_eq _ _) ?_ | refine Eq.mpr (fN_eq _ _) ?_)
  all_goals first
    | exact HN _ _ _ _ _ _ _ _ _ _ _ _ _ _ I2
    | (rename_i g; exact absurd hco g)
    | (rename_i g2 g3; exact absurd (hz g2) g3)
set_option maxRecDepth 20000 in
set_option maxRecDepth 20000 in
theorem law_ranked (hg : gOK G) (I : cV F E H r X S sd er (tl N fo fd u) N) (v1 : vp_in (i + Int32.ofInt 1) G.L) (v2 : vp_in (i + Int32.ofInt 2) G.L) (hb : 51 ≤ bc) (hs : 1710 ≤ bs) (HN : lNext G (bc - 51) (bs - 1710) i K) : AW G M_L_law 12 bc bs 1456 (lsL i) [] (ww F E H r X ht P S sd er (tl N fo fd u)) K NX := by
  refine wp_okL (M := M_L_law) hg okL_law (lkp [(2253, [true, true, true, true, true, true, false, false, false])]) 120 _ _ _ _ _ _ ?_
  repeat' (first | refine And.intro ?_ ?_ | with_reducible exact v1 | with_reducible exact v2 | (with_reducible intro h9; exact absurd h9 (by simp only [cI, cN]; decide +kernel)) | with_reducible intro _ | exact (rfl : narrow _ _ = _) | decide | (unfold vp_in; decide) | refine Eq.mpr (fL_eq _ _) ?_ | refine Eq.mpr (fW_eq _ _) ?_ | refine Eq.mpr (fN_eq _ _) ?_)
  refine cci 42 (l_ranked hg I rfl _) (by decide) (by omega) (by omega) rfl rfl ?_ (fun _ _ h => h.elim)
  rintro _ _ ⟨o, F', E', H', r', X', ht', P', S', sd', er', t', fo', hR, rfl, rfl, I', h9', h0', kp⟩
  obtain ⟨u', rfl⟩ := tl_9 h9' kp
  repeat' (first | refine And.intro ?_ ?_ | with_reducible exact v1 | with_reducible exact v2 | (with_reducible intro h9; exact absurd h9 (by simp only [cI, cN]; decide +kernel)) | with_reducible intro _ | exact (rfl : narrow _ _ = _) | decide | (unfold vp_in; decide) | refine Eq.mpr (fL_eq _ _) ?_ | refine Eq.mpr (fW_eq _ _) ?_ | refine Eq.mpr (fN_eq _ _) ?_)
  refine ccn 42 [31, 32, 33, 34, 35, 36, 37, 38, 39] (r_rank hg N _ I.nb _) (by decide) (Nat.zero_le _) (Nat.zero_le _) rfl (by repeat' (first | exact trivial | refine And.intro ?_ ?_ | rfl)) rfl ?_
  rintro _ _ ⟨o', hR', q1, rfl, b, rfl, q2⟩
  have hu := (uniq_rank I.1.1 I.1.2.1 _) o o' hR hR'
  have I2 := cV_tl (N' := o'.2.2) (cV_v I' hu.2.2)
  have hco : o'.2.2.co = nI o.1 := q1.trans (nI_uq hu.1.symm)
  have hz : nI o.1 = 0 → lg_cmp (fo' 0) b.toInt64 = 0 := fun z => by
    have z0 := nI_z (lt_okRank o hR) z
    rw [h0' z0, q2 (hu.1.symm.trans z0), hu.2.1 z0]
    exact lgc
  repeat' (first | refine And.intro ?_ ?_ | with_reducible exact v1 | with_reducible exact v2 | (with_reducible intro h9; exact absurd h9 (by simp only [cI, cN]; decide +kernel)) | with_reducible intro _ | exact (rfl : narrow _ _ = _) | decide | (unfold vp_in; decide) | refine Eq.mpr (fL_eq _ _) ?_ | refine Eq.mpr (fW_eq _ _) ?_ | refine Eq.mpr (fN_eq _ _) ?_)
  refine ccn 42 [31, 32, 33, 34, 35, 36, 37, 38, 39] (md_thrown hg o'.2.2) (by decide) (Nat.zero_le _) (Nat.zero_le _) rfl (by repeat' (first | exact trivial | refine And.intro ?_ ?_ | rfl)) rfl ?_
  rintro _ _ ⟨rfl, rfl⟩
  repeat' (first | refine And.intro ?_ ?_ | with_reducible exact v1 | with_reducible exact v2 | (with_reducible intro h9; exact absurd h9 (by simp only [cI, cN]; decide +kernel)) | with_reducible intro _ | exact (rfl : narrow _ _ = _) | decide | (unfold vp_in; decide) | refine Eq.mpr (fL_eq _ _) ?_ | refine Eq.mpr (fW_eq _ _) ?_ | refine Eq.mpr (fN_eq _ _) ?_)
  all_goals first
    | exact HN _ _ _ _ _ _ _ _ _ _ _ _ _ _ I2
    | (rename_i g; exact absurd hco g)
    | (rename_i g2 g3; exact absurd (hz g2) g3)
end LC
