/-! ===== the law's calls ===== -/
section LC
variable {G : gT} {F E : fT} {H : hT} {r : Int32 × Int32} {X : xT} {ht : Nat → Int32} {P : pT7} {S : sT4} {sd : Value} {er i : Int32} {N : nT} {fo : Nat → Int64} {fd : Nat → UInt64} {u : xW} {bc bs : Nat} {K : Option Value → xW → Prop}
set_option maxRecDepth 20000 in
set_option maxRecDepth 20000 in
theorem law_pourable (hg : gOK G) (I : cV F E H r X S sd er (tl N fo fd u) N) (v1 : vp_in (i + Int32.ofInt 1) G.L) (v2 : vp_in (i + Int32.ofInt 2) G.L) (hb : 51 ≤ bc) (hs : 1710 ≤ bs) (HN : lNext G (bc - 51) (bs - 1710) i K) : AW G M_L_law 12 bc bs 1512 (lsL i) [] (ww F E H r X ht P S sd er (tl N fo fd u)) K NX := by
  refine wp_okL (M := M_L_law) hg okL_law (lkp [(2253, [true, true, true, true, true, true, false, false, false])]) 120 _ _ _ _ _ _ ?_
  by_cases z : G.xs (i + Int32.ofInt 1).toNatClampNeg = 0
  · repeat' (first | refine And.intro ?_ ?_ | with_reducible exact v1 | with_reducible exact v2 | (with_reducible intro h9; exact absurd h9 (by simp only [cI, cN]; decide +kernel)) | ((with_reducible intro h9); exact absurd z h9) | ((with_reducible intro h9); exact absurd h9 z) | with_reducible intro _ | exact (rfl : narrow _ _ = _) | decide | (unfold vp_in; decide) | refine Eq.mpr (fL_eq _ _) ?_ | refine Eq.mpr (fW_eq _ _) ?_ | refine Eq.mpr (fN_eq _ _) ?_)
    refine cci 42 (c_pourable hg I _) (by decide) (by omega) (by omega) rfl rfl ?_ (fun _ _ h => h.elim)
    rintro _ _ ⟨o, hR, y, N1, rfl, rfl, F', E', H', r', X', ht', P', S', sd', er', t', rfl, I', kp⟩
    obtain ⟨u', rfl⟩ := tl_k kp
    repeat' (first | refine And.intro ?_ ?_ | with_reducible exact v1 | with_reducible exact v2 | (with_reducible intro h9; exact absurd h9 (by simp only [cI, cN]; decide +kernel)) | ((with_reducible intro h9); exact absurd z h9) | ((with_reducible intro h9); exact absurd h9 z) | with_reducible intro _ | exact (rfl : narrow _ _ = _) | decide | (unfold vp_in; decide) | refine Eq.mpr (fL_eq _ _) ?_ | refine Eq.mpr (fW_eq _ _) ?_ | refine Eq.mpr (fN_eq _ _) ?_)
    refine ccn 42 [31, 32, 33, 34, 35, 36, 37, 38, 39] (r_pourable hg N (dF F) (gD_F I.1.1 I.1.2.1) _) (by decide) (Nat.zero_le _) (Nat.zero_le _) rfl (by repeat' (first | exact trivial | refine And.intro ?_ ?_ | rfl)) rfl ?_
    rintro _ _ ⟨o', hR', q1, rfl, b, rfl, q2⟩
    have hu := uniq_pour _ o' hR hR'
    have I2 := cV_tl (N' := o'.2.2) (cV_v I' hu.2.2)
    have hyb : y = b := (hu.2.1 rfl).trans (q2 hu.1.symm).symm
    repeat' (first | refine And.intro ?_ ?_ | with_reducible exact v1 | with_reducible exact v2 | (with_reducible intro h9; exact absurd h9 (by simp only [cI, cN]; decide +kernel)) | ((with_reducible intro h9); exact absurd z h9) | ((with_reducible intro h9); exact absurd h9 z) | with_reducible intro _ | exact (rfl : narrow _ _ = _) | decide | (unfold vp_in; decide) | refine Eq.mpr (fL_eq _ _) ?_ | refine Eq.mpr (fW_eq _ _) ?_ | refine Eq.mpr (fN_eq _ _) ?_)
    all_goals first
      | exact AW.up (HN _ _ _ _ _ _ _ _ _ _ _ _ _ _ I2) (by omega) (by omega)
      | (rename_i g; exact absurd hyb g)
  · repeat' (first | refine And.intro ?_ ?_ | with_reducible exact v1 | with_reducible exact v2 | (with_reducible intro h9; exact absurd h9 (by simp only [cI, cN]; decide +kernel)) | ((with_reducible intro h9); exact absurd z h9) | ((with_reducible intro h9); exact absurd h9 z) | with_reducible intro _ | exact (rfl : narrow _ _ = _) | decide | (unfold vp_in; decide) | refine Eq.mpr (fL_eq _ _) ?_ | refine Eq.mpr (fW_eq _ _) ?_ | refine Eq.mpr (fN_eq _ _) ?_)
    refine cci 42 (c_pourable hg I _) (by decide) (by omega) (by omega) rfl rfl ?_ (fun _ _ h => h.elim)
    rintro _ _ ⟨o, hR, y, N1, rfl, rfl, F', E', H', r', X', ht', P', S', sd', er', t', rfl, I', kp⟩
    obtain ⟨u', rfl⟩ := tl_k kp
    repeat' (first | refine And.intro ?_ ?_ | with_reducible exact v1 | with_reducible exact v2 | (with_reducible intro h9; exact absurd h9 (by simp only [cI, cN]; decide +kernel)) | ((with_reducible intro h9); exact absurd z h9) | ((with_reducible intro h9); exact absurd h9 z) | with_reducible intro _ | exact (rfl : narrow _ _ = _) | decide | (unfold vp_in; decide) | refine Eq.mpr (fL_eq _ _) ?_ | refine Eq.mpr (fW_eq _ _) ?_ | refine Eq.mpr (fN_eq _ _) ?_)
    refine ccn 42 [31, 32, 33, 34, 35, 36, 37, 38, 39] (r_pourable hg N (dF F) (gD_F I.1.1 I.1.2.1) _) (by decide) (Nat.zero_le _) (Nat.zero_le _) rfl (by repeat' (first | exact trivial | refine And.intro ?_ ?_ | rfl)) rfl ?_
    rintro _ _ ⟨o', hR', q1, rfl, b, rfl, q2⟩
    have hu := uniq_pour _ o' hR hR'
    have I2 := cV_tl (N' := o'.2.2) (cV_v I' hu.2.2)
    have hyb : y = b := (hu.2.1 rfl).trans (q2 hu.1.symm).symm
    repeat' (first | refine And.intro ?_ ?_ | with_reducible exact v1 | with_reducible exact v2 | (with_reducible intro h9; exact absurd h9 (by simp only [cI, cN]; decide +kernel)) | ((with_reducible intro h9); exact absurd z h9) | ((with_reducible intro h9); exact absurd h9 z) | with_reducible intro _ | exact (rfl : narrow _ _ = _) | decide | (unfold vp_in; decide) | refine Eq.mpr (fL_eq _ _) ?_ | refine Eq.mpr (fW_eq _ _) ?_ | refine Eq.mpr (fN_eq _ _) ?_)
    all_goals first
      | exact AW.up (HN _ _ _ _ _ _ _ _ _ _ _ _ _ _ I2) (by omega) (by omega)
      | (rename_i g; exact absurd hyb g)
set_option maxRecDepth 20000 in
set_option maxRecDepth 20000 in
theorem law_first (hg : gOK G) (I : cV F E H r X S sd er (tl N fo fd u) N) (v1 : vp_in (i + Int32.ofInt 1) G.L) (v2 : vp_in (i + Int32.ofInt 2) G.L) (hb : 51 ≤ bc) (hs : 1710 ≤ bs) (HN : lNext G (bc - 51) (bs - 1710) i K) : AW G M_L_law 12 bc bs 1553 (lsL i) [] (ww F E H r X ht P S sd er (tl N fo fd u)) K NX := by
  refine wp_okL (M := M_L_law) hg okL_law (lkp [(2253, [true, true, true, true, true, true, false, false, false])]) 120 _ _ _ _ _ _ ?_
  repeat' (first | refine And.intro ?_ ?_ | with_reducible exact v1 | with_reducible exact v2 | (with_reducible intro h9; exact absurd h9 (by simp only [cI, cN]; decide +kernel)) | with_reducible intro _ | exact (rfl : narrow _ _ = _) | decide | (unfold vp_in; decide) | refine Eq.mpr (fL_eq _ _) ?_ | refine Eq.mpr (fW_eq _ _) ?_ | refine Eq.mpr (fN_eq _ _) ?_)
  refine cci 42 (l_first hg I rfl) (by decide) (by omega) (by omega) rfl rfl ?_ (fun _ _ h => h.elim)
  rintro _ _ ⟨o, F', E', H', r', X', ht', P', S', sd', er', t', fo', hR, rfl, rfl, I', h9', h0', kp⟩
  obtain ⟨u', rfl⟩ := tl_9 h9' kp
  repeat' (first | refine And.intro ?_ ?_ | with_reducible exact v1 | with_reducible exact v2 | (with_reducible intro h9; exact absurd h9 (by simp only [cI, cN]; decide +kernel)) | with_reducible intro _ | exact (rfl : narrow _ _ = _) | decide | (unfold vp_in; decide) | refine Eq.mpr (fL_eq _ _) ?_ | refine Eq.mpr (fW_eq _ _) ?_ | refine Eq.mpr (fN_eq _ _) ?_)
  refine ccn 42 [31, 32, 33, 34, 35, 36, 37, 38, 39] (r_first hg N (dF F) (gD_F I.1.1 I.1.2.1)) (by decide) (Nat.zero_le _) (Nat.zero_le _) rfl (by repeat' (first | exact trivial | refine And.intro ?_ ?_ | rfl)) rfl ?_
  rintro _ _ ⟨o', hR', q1, rfl, b, rfl, q2⟩
  have hu := uniq_first o o' hR hR'
  have I2 := cV_tl (N' := o'.2.2) (cV_v I' hu.2.2)
  have hco : o'.2.2.co = nI o.1 := q1.trans (nI_uq hu.1.symm)
  have hz : nI o.1 = 0 → lg_cmp (fo' 0) b.toInt64 = 0 := fun z => by
    have z0 := nI_z (lt_okFirst o hR) z
    rw [h0' z0, q2 (hu.1.symm.trans z0), hu.2.1 z0]
    exact lgc
  repeat' (first | refine And.intro ?_ ?_ | with_reducible exact v1 | with_reducible exact v2 | (with_reducible intro h9; exact absurd h9 (by simp only [cI, cN]; decide +kernel)) | with_reducible intro _ | exact (rfl : narrow _ _ = _) | decide | (unfold vp_in; decide) | refine Eq.mpr (fL_eq _ _) ?_ | refine Eq.mpr (fW_eq _ _) ?_ | refine Eq.mpr (fN_eq _ _) ?_)
  refine ccn 42 [31, 32, 33, 34, 35, 36, 37, 38, 39] (md_thrown hg o'.2.2) (by decide) (Nat.zero_le _) (Nat.zero_le _) rfl (by repeat' (first | exact trivial | refine And.intro ?_ ?_ | rfl)) rfl ?_
  rintro _ _ ⟨rfl, rfl⟩
  repeat' (first | refine And.intro ?_ ?_ | with_reducible exact v1 | with_reducible exact v2 | (with_reducible intro h9; exact absurd h9 (by simp only [cI, cN]; decide +kernel)) | with_reducible intro _ | exact (rfl : narrow _ _ = _) | decide | (unfold vp_in; decide) | refine Eq.mpr (fL_eq _ _) ?_ | refine Eq.mpr (fW_eq _ _) ?_ | refine Eq.mpr (fN_eq _ _) ?_)
  all_goals first
    | exact HN _ _ _ _ _ _ _ _ _ _ _ _ _ _ I2
    | (rename_i g; exact absurd hco g)
    | (rename_i g2 g3; exact absurd (hz g2) g3)
set_option maxRecDepth 20000 in
set_option maxRecDepth 20000 in
theorem law_line (hg : gOK G) (I : cV F E H r X S sd er (tl N fo fd u) N) (v1 : vp_in (i + Int32.ofInt 1) G.L) (v2 : vp_in (i + Int32.ofInt 2) G.L) (hb : 51 ≤ bc) (hs : 1710 ≤ bs) (HN : lNext G (bc - 51) (bs - 1710) i K) : AW G M_L_law 12 bc bs 1597 (lsL i) [] (ww F E H r X ht P S sd er (tl N fo fd u)) K NX := by
  refine wp_okL (M := M_L_law) hg okL_law (lkp [(2253, [true, true, true, true, true, true, false, false, false])]) 120 _ _ _ _ _ _ ?_
  repeat' (first | refine And.intro ?_ ?_ | with_reducible exact v1 | with_reducible exact v2 | (with_reducible intro h9; exact absurd h9 (by simp only [cI, cN]; decide +kernel)) | with_reducible intro _ | exact (rfl : narrow _ _ = _) | decide | (unfold vp_in; decide) | refine Eq.mpr (fL_eq _ _) ?_ | refine Eq.mpr (fW_eq _ _) ?_ | refine Eq.mpr (fN_eq _ _) ?_)
  refine cci 42 (l_line hg I rfl _) (by decide) (by omega) (by omega) rfl rfl ?_ (fun _ _ h => h.elim)
  rintro _ _ ⟨o, F', E', H', r', X', ht', P', S', sd', er', t', fo', hR, rfl, rfl, I', h9', h0', kp⟩
  obtain ⟨u', rfl⟩ := tl_9 h9' kp
  repeat' (first | refine And.intro ?_ ?_ | with_reducible exact v1 | with_reducible exact v2 | (with_reducible intro h9; exact absurd h9 (by simp only [cI, cN]; decide +kernel)) | with_reducible intro _ | exact (rfl : narrow _ _ = _) | decide | (unfold vp_in; decide) | refine Eq.mpr (fL_eq _ _) ?_ | refine Eq.mpr (fW_eq _ _) ?_ | refine Eq.mpr (fN_eq _ _) ?_)
  refine ccn 42 [31, 32, 33, 34, 35, 36, 37, 38, 39] (r_line hg I _) (by decide) (Nat.zero_le _) (Nat.zero_le _) rfl (by repeat' (first | exact trivial | refine And.intro ?_ ?_ | rfl)) rfl ?_
  rintro _ _ ⟨o', hR', q1, rfl, b, rfl, q2⟩
  have hu := (uniq_line I.nb.2) o o' hR hR'
  have I2 := cV_tl (N' := o'.2.2) (cV_v I' hu.2.2)
  have hco : o'.2.2.co = nI o.1 := q1.trans (nI_uq hu.1.symm)
  have hz : nI o.1 = 0 → lg_cmp (fo' 0) b.toInt64 = 0 := fun z => by
    have z0 := nI_z (lt_okLine o hR) z
    rw [h0' z0, q2 (hu.1.symm.trans z0), hu.2.1 z0]
    exact lgc
  repeat' (first | refine And.intro ?_ ?_ | with_reducible exact v1 | with_reducible exact v2 | (with_reducible intro h9; exact absurd h9 (by simp only [cI, cN]; decide +kernel)) | with_reducible intro _ | exact (rfl : narrow _ _ = _) | decide | (unfold vp_in; decide) | refine Eq.mpr (fL_eq _ _) ?_ | refine Eq.mpr (fW_eq _ _) ?_ | refine Eq.mpr (fN_eq _ _) ?_)
  refine ccn 42 [31, 32, 33, 34, 35, 36, 37, 38, 39] (md_thrown hg o'.2.2) (by decide) (Nat.zero_le _) (Nat.zero_le _) rfl (by repeat' (first | exact trivial | refine And.intro ?_ ?_ | rfl)) rfl ?_
  rintro _ _ ⟨rfl, rfl⟩
  repeat' (first | refine And.intro ?_ ?_ | with_reducible exact v1 | with_reducible exact v2 | (with_reducible intro h9; exact absurd h9 (by simp only [cI, cN]; decide +kernel)) | with_reducible intro _ | exact (rfl : narrow _ _ = _) | decide | (unfold vp_in; decide) | refine Eq.mpr (fL_eq _ _) ?_ | refine Eq.mpr (fW_eq _ _) ?_ | refine Eq.mpr (fN_eq _ _) ?_)
  all_goals first
    | exact HN _ _ _ _ _ _ _ _ _ _ _ _ _ _ I2
    | (rename_i g; exact absurd hco g)
    | (rename_i g2 g3; exact absurd (hz g2) g3)
set_option maxRecDepth 20000 in
set_option maxRecDepth 20000 in
theorem law_rackLine (hg : gOK G) (I : cV F E H r X S sd er (tl N fo fd u) N) (v1 : vp_in (i + Int32.ofInt 1) G.L) (v2 : vp_in (i + Int32.ofInt 2) G.L) (hb : 51 ≤ bc) (hs : 1710 ≤ bs) (HN : lNext G (bc - 51) (bs - 1710) i K) : AW G M_L_law 12 bc bs 1653 (lsL i) [] (ww F E H r X ht P S sd er (tl N fo fd u)) K NX := by
  refine wp_okL (M := M_L_law) hg okL_law (lkp [(2253, [true, true, true, true, true, true, false, false, false])]) 120 _ _ _ _ _ _ ?_
  repeat' (first | refine And.intro ?_ ?_ | with_reducible exact v1 | with_reducible exact v2 | (with_reducible intro h9; exact absurd h9 (by simp only [cI, cN]; decide +kernel)) | with_reducible intro _ | exact (rfl : narrow _ _ = _) | decide | (unfold vp_in; decide) | refine Eq.mpr (fL_eq _ _) ?_ | refine Eq.mpr (fW_eq _ _) ?_ | refine Eq.mpr (fN_eq _ _) ?_)
  refine cci 42 (l_rackLine hg I rfl _) (by decide) (by omega) (by omega) rfl rfl ?_ (fun _ _ h => h.elim)
  rintro _ _ ⟨o, F', E', H', r', X', ht', P', S', sd', er', t', fo', hR, rfl, rfl, I', h9', h0', kp⟩
  obtain ⟨u', rfl⟩ := tl_9 h9' kp
  repeat' (first | refine And.intro ?_ ?_ | with_reducible exact v1 | with_reducible exact v2 | (with_reducible intro h9; exact absurd h9 (by simp only [cI, cN]; decide +kernel)) | with_reducible intro _ | exact (rfl : narrow _ _ = _) | decide | (unfold vp_in; decide) | refine Eq.mpr (fL_eq _ _) ?_ | refine Eq.mpr (fW_eq _ _) ?_ | refine Eq.mpr (fN_eq _ _) ?_)
  refine ccn 42 [31, 32, 33, 34, 35, 36, 37, 38, 39] (r_rl hg I _) (by decide) (Nat.zero_le _) (Nat.zero_le _) rfl (by repeat' (first | exact trivial | refine And.intro ?_ ?_ | rfl)) rfl ?_
  rintro _ _ ⟨o', hR', q1, rfl, b, rfl, q2⟩
  have hu := uniq_rl o o' hR hR'
  have I2 := cV_tl (N' := o'.2.2) (cV_v I' hu.2.2)
  have hco : o'.2.2.co = nI o.1 := q1.trans (nI_uq hu.1.symm)
  have hz : nI o.1 = 0 → lg_cmp (fo' 0) b.toInt64 = 0 := fun z => by
    have z0 := nI_z (lt_okRl o hR) z
    rw [h0' z0, q2 (hu.1.symm.trans z0), hu.2.1 z0]
    exact lgc
  repeat' (first | refine And.intro ?_ ?_ | with_reducible exact v1 | with_reducible exact v2 | (with_reducible intro h9; exact absurd h9 (by simp only [cI, cN]; decide +kernel)) | with_reducible intro _ | exact (rfl : narrow _ _ = _) | decide | (unfold vp_in; decide) | refine Eq.mpr (fL_eq _ _) ?_ | refine Eq.mpr (fW_eq _ _) ?_ | refine Eq.mpr (fN_eq _ _) ?_)
  refine ccn 42 [31, 32, 33, 34, 35, 36, 37, 38, 39] (md_thrown hg o'.2.2) (by decide) (Nat.zero_le _) (Nat.zero_le _) rfl (by repeat' (first | exact trivial | refine And.intro ?_ ?_ | rfl)) rfl ?_
  rintro _ _ ⟨rfl, rfl⟩
  repeat' (first | refine And.intro ?_ ?_ | with_reducible exact v1 | with_reducible exact v2 | (with_reducible intro h9; exact absurd h9 (by simp only [cI, cN]; decide +kernel)) | with_reducible intro _ | exact (rfl : narrow _ _ = _) | decide | (unfold vp_in; decide) | refine Eq.mpr (fL_eq _ _) ?_ | refine Eq.mpr (fW_eq _ _) ?_ | refine Eq.mpr (fN_eq _ _) ?_)
  all_goals first
    | exact HN _ _ _ _ _ _ _ _ _ _ _ _ _ _ I2
    | (rename_i g; exact absurd hco g)
    | (rename_i g2 g3; exact absurd (hz g2) g3)
set_option maxRecDepth 20000 in
set_option maxRecDepth 20000 in
theorem law_character (hg : gOK G) (I : cV F E H r X S sd er (tl N fo fd u) N) (v1 : vp_in (i + Int32.ofInt 1) G.L) (v2 : vp_in (i + Int32.ofInt 2) G.L) (hb : 51 ≤ bc) (hs : 1710 ≤ bs) (HN : lNext G (bc - 51) (bs - 1710) i K) : AW G M_L_law 12 bc bs 1709 (lsL i) [] (ww F E H r X ht P S sd er (tl N fo fd u)) K NX := by
  refine wp_okL (M := M_L_law) hg okL_law (lkp [(2253, [true, true, true, true, true, true, false, false, false])]) 120 _ _ _ _ _ _ ?_
  obtain ⟨n, a1, a2, a3, sp⟩ := l_char (ht := ht) (P := P) hg I rfl (G.xs (i + Int32.ofInt 1).toNatClampNeg)
  repeat' (first | refine And.intro ?_ ?_ | with_reducible exact v1 | with_reducible exact v2 | (with_reducible intro h9; exact absurd h9 (by simp only [cI, cN]; decide +kernel)) | with_reducible intro _ | exact (rfl : narrow _ _ = _) | decide | (unfold vp_in; decide) | refine Eq.mpr (fL_eq _ _) ?_ | refine Eq.mpr (fW_eq _ _) ?_ | refine Eq.mpr (fN_eq _ _) ?_)
  refine cci 42 (sp) (by decide) (by omega) (by omega) rfl rfl ?_ (fun _ _ h => h.elim)
  rintro _ _ ⟨o, F', E', H', r', X', ht', P', S', sd', er', t', fo', hR, rfl, rfl, I', h9', h0', kp⟩
  obtain ⟨u', rfl⟩ := tl_9 h9' kp
  repeat' (first | refine And.intro ?_ ?_ | with_reducible exact v1 | with_reducible exact v2 | (with_reducible intro h9; exact absurd h9 (by simp only [cI, cN]; decide +kernel)) | with_reducible intro _ | exact (rfl : narrow _ _ = _) | decide | (unfold vp_in; decide) | refine Eq.mpr (fL_eq _ _) ?_ | refine Eq.mpr (fW_eq _ _) ?_ | refine Eq.mpr (fN_eq _ _) ?_)
  refine ccn 42 [31, 32, 33, 34, 35, 36, 37, 38, 39] (sp_R (r_char hg I a1 a2 a3 _)) (by decide) (Nat.zero_le _) (Nat.zero_le _) rfl (by repeat' (first | exact trivial | refine And.intro ?_ ?_ | rfl)) rfl ?_
  rintro _ _ ⟨o', hR', q1, rfl, b, rfl, q2⟩
  have hu := uniq_f o o' hR hR'
  have I2 := cV_tl (N' := o'.2.2) (cV_v I' hu.2.2)
  have hco : o'.2.2.co = nI o.1 := q1.trans (nI_uq hu.1.symm)
  have hz : nI o.1 = 0 → lg_cmp (fo' 0) b.toInt64 = 0 := fun z => by
    have z0 := nI_z (lt_oOne o hR) z
    rw [h0' z0, q2 (hu.1.symm.trans z0), hu.2.1 z0]
    exact lgc
  repeat' (first | refine And.intro ?_ ?_ | with_reducible exact v1 | with_reducible exact v2 | (with_reducible intro h9; exact absurd h9 (by simp only [cI, cN]; decide +kernel)) | with_reducible intro _ | exact (rfl : narrow _ _ = _) | decide | (unfold vp_in; decide) | refine Eq.mpr (fL_eq _ _) ?_ | refine Eq.mpr (fW_eq _ _) ?_ | refine Eq.mpr (fN_eq _ _) ?_)
  refine ccn 42 [31, 32, 33, 34, 35, 36, 37, 38, 39] (md_thrown hg o'.2.2) (by decide) (Nat.zero_le _) (Nat.zero_le _) rfl (by repeat' (first | exact trivial | refine And.intro ?_ ?_ | rfl)) rfl ?_
  rintro _ _ ⟨rfl, rfl⟩
  repeat' (first | refine And.intro ?_ ?_ | with_reducible exact v1 | with_reducible exact v2 | (with_reducible intro h9; exact absurd h9 (by simp only [cI, cN]; decide +kernel)) | with_reducible intro _ | exact (rfl : narrow _ _ = _) | decide | (unfold vp_in; decide) | refine Eq.mpr (fL_eq _ _) ?_ | refine Eq.mpr (fW_eq _ _) ?_ | refine Eq.mpr (fN_eq _ _) ?_)
  all_goals first
    | exact HN _ _ _ _ _ _ _ _ _ _ _ _ _ _ I2
    | (rename_i g; exact absurd hco g)
    | (rename_i g2 g3; exact absurd (hz g2) g3)
set_option maxRecDepth 20000 in
set_option maxRecDepth 20000 in
theorem law_append (hg : gOK G) (I : cV F E H r X S sd er (tl N fo fd u) N) (v1 : vp_in (i + Int32.ofInt 1) G.L) (v2 : vp_in (i + Int32.ofInt 2) G.L) (hb : 51 ≤ bc) (hs : 1710 ≤ bs) (HN : lNext G (bc - 51) (bs - 1710) i K) : AW G M_L_law 12 bc bs 1765 (lsL i) [] (ww F E H r X ht P S sd er (tl N fo fd u)) K NX := by
  refine wp_okL (M := M_L_law) hg okL_law (lkp [(2253, [true, true, true, true, true, true, false, false, false])]) 120 _ _ _ _ _ _ ?_
  repeat' (first | refine And.intro ?_ ?_ | with_reducible exact v1 | with_reducible exact v2 | (with_reducible intro h9; exact absurd h9 (by simp only [cI, cN]; decide +kernel)) | with_reducible intro _ | exact (rfl : narrow _ _ = _) | decide | (unfold vp_in; decide) | refine Eq.mpr (fL_eq _ _) ?_ | refine Eq.mpr (fW_eq _ _) ?_ | refine Eq.mpr (fN_eq _ _) ?_)
  refine cci 42 (l_append hg I rfl _ (pk_vc _)) (by decide) (by omega) (by omega) rfl rfl ?_ (fun _ _ h => h.elim)
  rintro _ _ ⟨o, F', E', H', r', X', ht', P', S', sd', er', t', fo', hR, rfl, rfl, I', h9', h0', kp⟩
  obtain ⟨u', rfl⟩ := tl_9 h9' kp
  repeat' (first | refine And.intro ?_ ?_ | with_reducible exact v1 | with_reducible exact v2 | (with_reducible intro h9; exact absurd h9 (by simp only [cI, cN]; decide +kernel)) | with_reducible intro _ | exact (rfl : narrow _ _ = _) | decide | (unfold vp_in; decide) | refine Eq.mpr (fL_eq _ _) ?_ | refine Eq.mpr (fW_eq _ _) ?_ | refine Eq.mpr (fN_eq _ _) ?_)
  refine ccn 42 [31, 32, 33, 34, 35, 36, 37, 38, 39] (sp_R (r_append hg N _ I.2.2.2.1.2.2 I.2.2.2.1.2.1 _)) (by decide) (Nat.zero_le _) (Nat.zero_le _) rfl (by repeat' (first | exact trivial | refine And.intro ?_ ?_ | rfl)) rfl ?_
  rintro _ _ ⟨o', hR', q1, rfl, b, rfl, q2⟩
  have hu := uniq_f o o' hR hR'
  have I2 := cV_tl (N' := o'.2.2) (cV_v I' hu.2.2)
  have hco : o'.2.2.co = nI o.1 := q1.trans (nI_uq hu.1.symm)
  have hz : nI o.1 = 0 → lg_cmp (fo' 0) b.toInt64 = 0 := fun z => by
    have z0 := nI_z (lt_oAppend o hR) z
    rw [h0' z0, q2 (hu.1.symm.trans z0), hu.2.1 z0]
    exact lgc
  repeat' (first | refine And.intro ?_ ?_ | with_reducible exact v1 | with_reducible exact v2 | (with_reducible intro h9; exact absurd h9 (by simp only [cI, cN]; decide +kernel)) | with_reducible intro _ | exact (rfl : narrow _ _ = _) | decide | (unfold vp_in; decide) | refine Eq.mpr (fL_eq _ _) ?_ | refine Eq.mpr (fW_eq _ _) ?_ | refine Eq.mpr (fN_eq _ _) ?_)
  refine ccn 42 [31, 32, 33, 34, 35, 36, 37, 38, 39] (md_thrown hg o'.2.2) (by decide) (Nat.zero_le _) (Nat.zero_le _) rfl (by repeat' (first | exact trivial | refine And.intro ?_ ?_ | rfl)) rfl ?_
  rintro _ _ ⟨rfl, rfl⟩
  repeat' (first | refine And.intro ?_ ?_ | with_reducible exact v1 | with_reducible exact v2 | (with_reducible intro h9; exact absurd h9 (by simp only [cI, cN]; decide +kernel)) | with_reducible intro _ | exact (rfl : narrow _ _ = _) | decide | (unfold vp_in; decide) | refine Eq.mpr (fL_eq _ _) ?_ | refine Eq.mpr (fW_eq _ _) ?_ | refine Eq.mpr (fN_eq _ _) ?_)
  all_goals first
    | exact HN _ _ _ _ _ _ _ _ _ _ _ _ _ _ I2
    | (rename_i g; exact absurd hco g)
    | (rename_i g2 g3; exact absurd (hz g2) g3)
set_option maxRecDepth 20000 in
set_option maxRecDepth 20000 in
theorem law_run (hg : gOK G) (I : cV F E H r X S sd er (tl N fo fd u) N) (v1 : vp_in (i + Int32.ofInt 1) G.L) (v2 : vp_in (i + Int32.ofInt 2) G.L) (hb : 51 ≤ bc) (hs : 1710 ≤ bs) (HN : lNext G (bc - 51) (bs - 1710) i K) : AW G M_L_law 12 bc bs 1823 (lsL i) [] (ww F E H r X ht P S sd er (tl N fo fd u)) K NX := by
  refine wp_okL (M := M_L_law) hg okL_law (lkp [(2253, [true, true, true, true, true, true, false, false, false])]) 120 _ _ _ _ _ _ ?_
  repeat' (first | refine And.intro ?_ ?_ | with_reducible exact v1 | with_reducible exact v2 | (with_reducible intro h9; exact absurd h9 (by simp only [cI, cN]; decide +kernel)) | with_reducible intro _ | exact (rfl : narrow _ _ = _) | decide | (unfold vp_in; decide) | refine Eq.mpr (fL_eq _ _) ?_ | refine Eq.mpr (fW_eq _ _) ?_ | refine Eq.mpr (fN_eq _ _) ?_)
  refine cci 42 (l_run hg I rfl) (by decide) (by omega) (by omega) rfl rfl ?_ (fun _ _ h => h.elim)
  rintro _ _ ⟨o, F', E', H', r', X', ht', P', S', sd', er', t', fo', hR, rfl, rfl, I', h9', h0', kp⟩
  obtain ⟨u', rfl⟩ := tl_9 h9' kp
  repeat' (first | refine And.intro ?_ ?_ | with_reducible exact v1 | with_reducible exact v2 | (with_reducible intro h9; exact absurd h9 (by simp only [cI, cN]; decide +kernel)) | with_reducible intro _ | exact (rfl : narrow _ _ = _) | decide | (unfold vp_in; decide) | refine Eq.mpr (fL_eq _ _) ?_ | refine Eq.mpr (fW_eq _ _) ?_ | refine Eq.mpr (fN_eq _ _) ?_)
  refine ccn 42 [31, 32, 33, 34, 35, 36, 37, 38, 39] (r_run hg I) (by decide) (Nat.zero_le _) (Nat.zero_le _) rfl (by repeat' (first | exact trivial | refine And.intro ?_ ?_ | rfl)) rfl ?_
  rintro _ _ ⟨o', hR', q1, rfl, b, rfl, q2⟩
  have hu := uniq_run o o' hR hR'
  have I2 := cV_tl (N' := o'.2.2) (cV_v I' hu.2.2)
  have hco : o'.2.2.co = nI o.1 := q1.trans (nI_uq hu.1.symm)
  have hz : nI o.1 = 0 → lg_cmp (fo' 0) b.toInt64 = 0 := fun z => by
    have z0 := nI_z (lt_run o hR) z
    rw [h0' z0, q2 (hu.1.symm.trans z0), hu.2.1 z0]
    exact lgc
  repeat' (first | refine And.intro ?_ ?_ | with_reducible exact v1 | with_reducible exact v2 | (with_reducible intro h9; exact absurd h9 (by simp only [cI, cN]; decide +kernel)) | with_reducible intro _ | exact (rfl : narrow _ _ = _) | decide | (unfold vp_in; decide) | refine Eq.mpr (fL_eq _ _) ?_ | refine Eq.mpr (fW_eq _ _) ?_ | refine Eq.mpr (fN_eq _ _) ?_)
  refine ccn 42 [31, 32, 33, 34, 35, 36, 37, 38, 39] (md_thrown hg o'.2.2) (by decide) (Nat.zero_le _) (Nat.zero_le _) rfl (by repeat' (first | exact trivial | refine And.intro ?_ ?_ | rfl)) rfl ?_
  rintro _ _ ⟨rfl, rfl⟩
  repeat' (first | refine And.intro ?_ ?_ | with_reducible exact v1 | with_reducible exact v2 | (with_reducible intro h9; exact absurd h9 (by simp only [cI, cN]; decide +kernel)) | with_reducible intro _ | exact (rfl : narrow _ _ = _) | decide | (unfold vp_in; decide) | refine Eq.mpr (fL_eq _ _) ?_ | refine Eq.mpr (fW_eq _ _) ?_ | refine Eq.mpr (fN_eq _ _) ?_)
  all_goals first
    | exact HN _ _ _ _ _ _ _ _ _ _ _ _ _ _ I2
    | (rename_i g; exact absurd hco g)
    | (rename_i g2 g3; exact absurd (hz g2) g3)
end LC
