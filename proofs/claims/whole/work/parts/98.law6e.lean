/-! ===== the law's calls ===== -/
section LC
variable {G : gT} {F E : fT} {H : hT} {r : Int32 × Int32} {X : xT} {ht : Nat → Int32} {P : pT7} {S : sT4} {sd : Value} {er i : Int32} {N : nT} {fo : Nat → Int64} {fd : Nat → UInt64} {u : xW} {bc bs : Nat} {K : Option Value → xW → Prop}
set_option maxRecDepth 20000 in
set_option maxRecDepth 20000 in
theorem law_errorPosition (hg : gOK G) (I : cV F E H r X S sd er (tl N fo fd u) N) (v1 : vp_in (i + Int32.ofInt 1) G.L) (v2 : vp_in (i + Int32.ofInt 2) G.L) (hb : 51 ≤ bc) (hs : 1710 ≤ bs) (HN : lNext G (bc - 51) (bs - 1710) i K) : AW G M_L_law 12 bc bs 1867 (lsL i) [] (ww F E H r X ht P S sd er (tl N fo fd u)) K NX := by
  refine wp_okL (M := M_L_law) hg okL_law (lkp [(2253, [true, true, true, true, true, true, false, false, false])]) 120 _ _ _ _ _ _ ?_
  repeat' (first | refine And.intro ?_ ?_ | with_reducible exact v1 | with_reducible exact v2 | (with_reducible intro h9; exact absurd h9 (by simp only [cI, cN]; decide +kernel)) | with_reducible intro _ | exact (rfl : narrow _ _ = _) | decide | (unfold vp_in; decide) | refine Eq.mpr (fL_eq _ _) ?_ | refine Eq.mpr (fW_eq _ _) ?_ | refine Eq.mpr (fN_eq _ _) ?_)
  refine cci 42 ((sp_C (c_err hg I))) (by decide) (by omega) (by omega) rfl rfl ?_ (fun _ _ h => h.elim)
  rintro _ _ ⟨o, hR, y, N1, rfl, rfl, F', E', H', r', X', ht', P', S', sd', er', t', rfl, I', kp⟩
  obtain ⟨u', rfl⟩ := tl_k kp
  repeat' (first | refine And.intro ?_ ?_ | with_reducible exact v1 | with_reducible exact v2 | (with_reducible intro h9; exact absurd h9 (by simp only [cI, cN]; decide +kernel)) | with_reducible intro _ | exact (rfl : narrow _ _ = _) | decide | (unfold vp_in; decide) | refine Eq.mpr (fL_eq _ _) ?_ | refine Eq.mpr (fW_eq _ _) ?_ | refine Eq.mpr (fN_eq _ _) ?_)
  refine ccn 42 [31, 32, 33, 34, 35, 36, 37, 38, 39] (sp_R (r_err hg N)) (by decide) (Nat.zero_le _) (Nat.zero_le _) rfl (by repeat' (first | exact trivial | refine And.intro ?_ ?_ | rfl)) rfl ?_
  rintro _ _ ⟨o', hR', q1, rfl, b, rfl, q2⟩
  have hu := uniq_f _ o' hR hR'
  have I2 := cV_tl (N' := o'.2.2) (cV_v I' hu.2.2)
  have hyb : y = b := (hu.2.1 rfl).trans (q2 hu.1.symm).symm
  repeat' (first | refine And.intro ?_ ?_ | with_reducible exact v1 | with_reducible exact v2 | (with_reducible intro h9; exact absurd h9 (by simp only [cI, cN]; decide +kernel)) | with_reducible intro _ | exact (rfl : narrow _ _ = _) | decide | (unfold vp_in; decide) | refine Eq.mpr (fL_eq _ _) ?_ | refine Eq.mpr (fW_eq _ _) ?_ | refine Eq.mpr (fN_eq _ _) ?_)
  all_goals first
    | exact AW.up (HN _ _ _ _ _ _ _ _ _ _ _ _ _ _ I2) (by omega) (by omega)
    | (rename_i g; exact absurd hyb g)
set_option maxRecDepth 20000 in
set_option maxRecDepth 20000 in
theorem law_refusal (hg : gOK G) (I : cV F E H r X S sd er (tl N fo fd u) N) (v1 : vp_in (i + Int32.ofInt 1) G.L) (v2 : vp_in (i + Int32.ofInt 2) G.L) (hb : 51 ≤ bc) (hs : 1710 ≤ bs) (HN : lNext G (bc - 51) (bs - 1710) i K) : AW G M_L_law 12 bc bs 1880 (lsL i) [] (ww F E H r X ht P S sd er (tl N fo fd u)) K NX := by
  refine wp_okL (M := M_L_law) hg okL_law (lkp [(2253, [true, true, true, true, true, true, false, false, false])]) 120 _ _ _ _ _ _ ?_
  by_cases z : G.xs (i + Int32.ofInt 1).toNatClampNeg = 0
  · repeat' (first | refine And.intro ?_ ?_ | with_reducible exact v1 | with_reducible exact v2 | (with_reducible intro h9; exact absurd h9 (by simp only [cI, cN]; decide +kernel)) | ((with_reducible intro h9); exact absurd z h9) | ((with_reducible intro h9); exact absurd h9 z) | with_reducible intro _ | exact (rfl : narrow _ _ = _) | decide | (unfold vp_in; decide) | refine Eq.mpr (fL_eq _ _) ?_ | refine Eq.mpr (fW_eq _ _) ?_ | refine Eq.mpr (fN_eq _ _) ?_)
    refine cci 42 (l_refusal hg I rfl _) (by decide) (by omega) (by omega) rfl rfl ?_ (fun _ _ h => h.elim)
    rintro _ _ ⟨o, F', E', H', r', X', ht', P', S', sd', er', t', fo', hR, rfl, rfl, I', h9', h0', kp⟩
    obtain ⟨u', rfl⟩ := tl_9 h9' kp
    repeat' (first | refine And.intro ?_ ?_ | with_reducible exact v1 | with_reducible exact v2 | (with_reducible intro h9; exact absurd h9 (by simp only [cI, cN]; decide +kernel)) | ((with_reducible intro h9); exact absurd z h9) | ((with_reducible intro h9); exact absurd h9 z) | with_reducible intro _ | exact (rfl : narrow _ _ = _) | decide | (unfold vp_in; decide) | refine Eq.mpr (fL_eq _ _) ?_ | refine Eq.mpr (fW_eq _ _) ?_ | refine Eq.mpr (fN_eq _ _) ?_)
    refine ccn 42 [31, 32, 33, 34, 35, 36, 37, 38, 39] (sp_R (r_refusal hg N _)) (by decide) (Nat.zero_le _) (Nat.zero_le _) rfl (by repeat' (first | exact trivial | refine And.intro ?_ ?_ | rfl)) rfl ?_
    rintro _ _ ⟨o', hR', q1, rfl, b, rfl, q2⟩
    have hu := uniq_f o o' hR hR'
    have I2 := cV_tl (N' := o'.2.2) (cV_v I' hu.2.2)
    have hco : o'.2.2.co = nI o.1 := q1.trans (nI_uq hu.1.symm)
    have hz : nI o.1 = 0 → lg_cmp (fo' 0) b.toInt64 = 0 := fun z => by
      have z0 := nI_z (lt_oRefusal o hR) z
      rw [h0' z0, q2 (hu.1.symm.trans z0), hu.2.1 z0]
      exact lgc
    repeat' (first | refine And.intro ?_ ?_ | with_reducible exact v1 | with_reducible exact v2 | (with_reducible intro h9; exact absurd h9 (by simp only [cI, cN]; decide +kernel)) | ((with_reducible intro h9); exact absurd z h9) | ((with_reducible intro h9); exact absurd h9 z) | with_reducible intro _ | exact (rfl : narrow _ _ = _) | decide | (unfold vp_in; decide) | refine Eq.mpr (fL_eq _ _) ?_ | refine Eq.mpr (fW_eq _ _) ?_ | refine Eq.mpr (fN_eq _ _) ?_)
    refine ccn 42 [31, 32, 33, 34, 35, 36, 37, 38, 39] (md_thrown hg o'.2.2) (by decide) (Nat.zero_le _) (Nat.zero_le _) rfl (by repeat' (first | exact trivial | refine And.intro ?_ ?_ | rfl)) rfl ?_
    rintro _ _ ⟨rfl, rfl⟩
    repeat' (first | refine And.intro ?_ ?_ | with_reducible exact v1 | with_reducible exact v2 | (with_reducible intro h9; exact absurd h9 (by simp only [cI, cN]; decide +kernel)) | ((with_reducible intro h9); exact absurd z h9) | ((with_reducible intro h9); exact absurd h9 z) | with_reducible intro _ | exact (rfl : narrow _ _ = _) | decide | (unfold vp_in; decide) | refine Eq.mpr (fL_eq _ _) ?_ | refine Eq.mpr (fW_eq _ _) ?_ | refine Eq.mpr (fN_eq _ _) ?_)
    all_goals first
      | exact HN _ _ _ _ _ _ _ _ _ _ _ _ _ _ I2
      | (rename_i g; exact absurd hco g)
      | (rename_i g2 g3; exact absurd (hz g2) g3)
  · repeat' (first | refine And.intro ?_ ?_ | with_reducible exact v1 | with_reducible exact v2 | (with_reducible intro h9; exact absurd h9 (by simp only [cI, cN]; decide +kernel)) | ((with_reducible intro h9); exact absurd z h9) | ((with_reducible intro h9); exact absurd h9 z) | with_reducible intro _ | exact (rfl : narrow _ _ = _) | decide | (unfold vp_in; decide) | refine Eq.mpr (fL_eq _ _) ?_ | refine Eq.mpr (fW_eq _ _) ?_ | refine Eq.mpr (fN_eq _ _) ?_)
    refine cci 42 (l_refusal hg I rfl _) (by decide) (by omega) (by omega) rfl rfl ?_ (fun _ _ h => h.elim)
    rintro _ _ ⟨o, F', E', H', r', X', ht', P', S', sd', er', t', fo', hR, rfl, rfl, I', h9', h0', kp⟩
    obtain ⟨u', rfl⟩ := tl_9 h9' kp
    repeat' (first | refine And.intro ?_ ?_ | with_reducible exact v1 | with_reducible exact v2 | (with_reducible intro h9; exact absurd h9 (by simp only [cI, cN]; decide +kernel)) | ((with_reducible intro h9); exact absurd z h9) | ((with_reducible intro h9); exact absurd h9 z) | with_reducible intro _ | exact (rfl : narrow _ _ = _) | decide | (unfold vp_in; decide) | refine Eq.mpr (fL_eq _ _) ?_ | refine Eq.mpr (fW_eq _ _) ?_ | refine Eq.mpr (fN_eq _ _) ?_)
    refine ccn 42 [31, 32, 33, 34, 35, 36, 37, 38, 39] (sp_R (r_refusal hg N _)) (by decide) (Nat.zero_le _) (Nat.zero_le _) rfl (by repeat' (first | exact trivial | refine And.intro ?_ ?_ | rfl)) rfl ?_
    rintro _ _ ⟨o', hR', q1, rfl, b, rfl, q2⟩
    have hu := uniq_f o o' hR hR'
    have I2 := cV_tl (N' := o'.2.2) (cV_v I' hu.2.2)
    have hco : o'.2.2.co = nI o.1 := q1.trans (nI_uq hu.1.symm)
    have hz : nI o.1 = 0 → lg_cmp (fo' 0) b.toInt64 = 0 := fun z => by
      have z0 := nI_z (lt_oRefusal o hR) z
      rw [h0' z0, q2 (hu.1.symm.trans z0), hu.2.1 z0]
      exact lgc
    repeat' (first | refine And.intro ?_ ?_ | with_reducible exact v1 | with_reducible exact v2 | (with_reducible intro h9; exact absurd h9 (by simp only [cI, cN]; decide +kernel)) | ((with_reducible intro h9); exact absurd z h9) | ((with_reducible intro h9); exact absurd h9 z) | with_reducible intro _ | exact (rfl : narrow _ _ = _) | decide | (unfold vp_in; decide) | refine Eq.mpr (fL_eq _ _) ?_ | refine Eq.mpr (fW_eq _ _) ?_ | refine Eq.mpr (fN_eq _ _) ?_)
    refine ccn 42 [31, 32, 33, 34, 35, 36, 37, 38, 39] (md_thrown hg o'.2.2) (by decide) (Nat.zero_le _) (Nat.zero_le _) rfl (by repeat' (first | exact trivial | refine And.intro ?_ ?_ | rfl)) rfl ?_
    rintro _ _ ⟨rfl, rfl⟩
    repeat' (first | refine And.intro ?_ ?_ | with_reducible exact v1 | with_reducible exact v2 | (with_reducible intro h9; exact absurd h9 (by simp only [cI, cN]; decide +kernel)) | ((with_reducible intro h9); exact absurd z h9) | ((with_reducible intro h9); exact absurd h9 z) | with_reducible intro _ | exact (rfl : narrow _ _ = _) | decide | (unfold vp_in; decide) | refine Eq.mpr (fL_eq _ _) ?_ | refine Eq.mpr (fW_eq _ _) ?_ | refine Eq.mpr (fN_eq _ _) ?_)
    all_goals first
      | exact HN _ _ _ _ _ _ _ _ _ _ _ _ _ _ I2
      | (rename_i g; exact absurd hco g)
      | (rename_i g2 g3; exact absurd (hz g2) g3)
set_option maxRecDepth 20000 in
set_option maxRecDepth 20000 in
theorem law_account (hg : gOK G) (I : cV F E H r X S sd er (tl N fo fd u) N) (v1 : vp_in (i + Int32.ofInt 1) G.L) (v2 : vp_in (i + Int32.ofInt 2) G.L) (hb : 51 ≤ bc) (hs : 1710 ≤ bs) (HN : lNext G (bc - 51) (bs - 1710) i K) : AW G M_L_law 12 bc bs 1952 (lsL i) [] (ww F E H r X ht P S sd er (tl N fo fd u)) K NX := by
  refine wp_okL (M := M_L_law) hg okL_law (lkp [(2253, [true, true, true, true, true, true, false, false, false])]) 120 _ _ _ _ _ _ ?_
  repeat' (first | refine And.intro ?_ ?_ | with_reducible exact v1 | with_reducible exact v2 | (with_reducible intro h9; exact absurd h9 (by simp only [cI, cN]; decide +kernel)) | with_reducible intro _ | exact (rfl : narrow _ _ = _) | decide | (unfold vp_in; decide) | refine Eq.mpr (fL_eq _ _) ?_ | refine Eq.mpr (fW_eq _ _) ?_ | refine Eq.mpr (fN_eq _ _) ?_)
  refine cci 42 (l_account hg I rfl _) (by decide) (by omega) (by omega) rfl rfl ?_ (fun _ _ h => h.elim)
  rintro _ _ ⟨o, F', E', H', r', X', ht', P', S', sd', er', t', fo', hR, rfl, rfl, I', h9', h0', kp⟩
  obtain ⟨u', rfl⟩ := tl_9 h9' kp
  repeat' (first | refine And.intro ?_ ?_ | with_reducible exact v1 | with_reducible exact v2 | (with_reducible intro h9; exact absurd h9 (by simp only [cI, cN]; decide +kernel)) | with_reducible intro _ | exact (rfl : narrow _ _ = _) | decide | (unfold vp_in; decide) | refine Eq.mpr (fL_eq _ _) ?_ | refine Eq.mpr (fW_eq _ _) ?_ | refine Eq.mpr (fN_eq _ _) ?_)
  refine ccn 42 [31, 32, 33, 34, 35, 36, 37, 38, 39] (sp_R (r_acc hg N _ I.nb _)) (by decide) (Nat.zero_le _) (Nat.zero_le _) rfl (by repeat' (first | exact trivial | refine And.intro ?_ ?_ | rfl)) rfl ?_
  rintro _ _ ⟨o', hR', q1, rfl, b, rfl, q2⟩
  have hu := uniq_f o o' hR hR'
  have I2 := cV_tl (N' := o'.2.2) (cV_v I' hu.2.2)
  have hco : o'.2.2.co = nI o.1 := q1.trans (nI_uq hu.1.symm)
  have hz : nI o.1 = 0 → lg_cmp (fo' 0) b.toInt64 = 0 := fun z => by
    have z0 := nI_z (lt_oOne o hR) z
    rw [h0' z0, q2 (hu.1.symm.trans z0), hu.2.1 z0]
    exact lgc
  repeat' (first | refine And.intro ?_ ?_ | with_reducible exact v1 | with_reducible exact v2 | (with_reducible intro h9; exact absurd h9 (by simp only [cI, cN]; decide +kernel)) | with_reducible intro _ | exact (rfl : narrow _ _ = _) | decide | (unfold vp_in; decide) | refine Eq.mpr (fL_eq _ _) ?_ | refine Eq.mpr (fW_eq _ _) ?_ | refine Eq.mpr (fN_eq _ _) ?_)
  refine ccn 42 [31, 32, 33, 34, 35, 36, 37, 38, 39] (md_thrown hg o'.2.2) (by decide) (Nat.zero_le _) (Nat.zero_le _) rfl (by repeat' (first | exact trivial | refine And.intro ?_ ?_ | rfl)) rfl ?_
  rintro _ _ ⟨rfl, rfl⟩
  repeat' (first | refine And.intro ?_ ?_ | with_reducible exact v1 | with_reducible exact v2 | (with_reducible intro h9; exact absurd h9 (by simp only [cI, cN]; decide +kernel)) | with_reducible intro _ | exact (rfl : narrow _ _ = _) | decide | (unfold vp_in; decide) | refine Eq.mpr (fL_eq _ _) ?_ | refine Eq.mpr (fW_eq _ _) ?_ | refine Eq.mpr (fN_eq _ _) ?_)
  all_goals first
    | exact HN _ _ _ _ _ _ _ _ _ _ _ _ _ _ I2
    | (rename_i g; exact absurd hco g)
    | (rename_i g2 g3; exact absurd (hz g2) g3)
set_option maxRecDepth 20000 in
set_option maxRecDepth 20000 in
theorem law_isWell (hg : gOK G) (I : cV F E H r X S sd er (tl N fo fd u) N) (v1 : vp_in (i + Int32.ofInt 1) G.L) (v2 : vp_in (i + Int32.ofInt 2) G.L) (hb : 51 ≤ bc) (hs : 1710 ≤ bs) (HN : lNext G (bc - 51) (bs - 1710) i K) : AW G M_L_law 12 bc bs 2008 (lsL i) [] (ww F E H r X ht P S sd er (tl N fo fd u)) K NX := by
  refine wp_okL (M := M_L_law) hg okL_law (lkp [(2253, [true, true, true, true, true, true, false, false, false])]) 120 _ _ _ _ _ _ ?_
  repeat' (first | refine And.intro ?_ ?_ | with_reducible exact v1 | with_reducible exact v2 | (with_reducible intro h9; exact absurd h9 (by simp only [cI, cN]; decide +kernel)) | with_reducible intro _ | exact (rfl : narrow _ _ = _) | decide | (unfold vp_in; decide) | refine Eq.mpr (fL_eq _ _) ?_ | refine Eq.mpr (fW_eq _ _) ?_ | refine Eq.mpr (fN_eq _ _) ?_)
  refine cci 42 (c_isWell hg I) (by decide) (by omega) (by omega) rfl rfl ?_ (fun _ _ h => h.elim)
  rintro _ _ ⟨o, hR, y, N1, rfl, rfl, F', E', H', r', X', ht', P', S', sd', er', t', rfl, I', kp⟩
  obtain ⟨u', rfl⟩ := tl_k kp
  repeat' (first | refine And.intro ?_ ?_ | with_reducible exact v1 | with_reducible exact v2 | (with_reducible intro h9; exact absurd h9 (by simp only [cI, cN]; decide +kernel)) | with_reducible intro _ | exact (rfl : narrow _ _ = _) | decide | (unfold vp_in; decide) | refine Eq.mpr (fL_eq _ _) ?_ | refine Eq.mpr (fW_eq _ _) ?_ | refine Eq.mpr (fN_eq _ _) ?_)
  refine ccn 42 [31, 32, 33, 34, 35, 36, 37, 38, 39] (r_well hg I) (by decide) (Nat.zero_le _) (Nat.zero_le _) rfl (by repeat' (first | exact trivial | refine And.intro ?_ ?_ | rfl)) rfl ?_
  rintro _ _ ⟨o', hR', q1, rfl, b, rfl, q2⟩
  have hu := uniq_well _ o' hR hR'
  have I2 := cV_tl (N' := o'.2.2) (cV_v I' hu.2.2)
  have hyb : y = b := (hu.2.1 rfl).trans (q2 hu.1.symm).symm
  repeat' (first | refine And.intro ?_ ?_ | with_reducible exact v1 | with_reducible exact v2 | (with_reducible intro h9; exact absurd h9 (by simp only [cI, cN]; decide +kernel)) | with_reducible intro _ | exact (rfl : narrow _ _ = _) | decide | (unfold vp_in; decide) | refine Eq.mpr (fL_eq _ _) ?_ | refine Eq.mpr (fW_eq _ _) ?_ | refine Eq.mpr (fN_eq _ _) ?_)
  all_goals first
    | exact AW.up (HN _ _ _ _ _ _ _ _ _ _ _ _ _ _ I2) (by omega) (by omega)
    | (rename_i g; exact absurd hyb g)
set_option maxRecDepth 20000 in
set_option maxRecDepth 20000 in
theorem law_undo (hg : gOK G) (I : cV F E H r X S sd er (tl N fo fd u) N) (v1 : vp_in (i + Int32.ofInt 1) G.L) (v2 : vp_in (i + Int32.ofInt 2) G.L) (hb : 51 ≤ bc) (hs : 1710 ≤ bs) (HN : lNext G (bc - 51) (bs - 1710) i K) : AW G M_L_law 12 bc bs 2152 (lsL i) [] (ww F E H r X ht P S sd er (tl N fo fd u)) K NX := by
  refine wp_okL (M := M_L_law) hg okL_law (lkp [(2253, [true, true, true, true, true, true, false, false, false])]) 120 _ _ _ _ _ _ ?_
  repeat' (first | refine And.intro ?_ ?_ | with_reducible exact v1 | with_reducible exact v2 | (with_reducible intro h9; exact absurd h9 (by simp only [cI, cN]; decide +kernel)) | with_reducible intro _ | exact (rfl : narrow _ _ = _) | decide | (unfold vp_in; decide) | refine Eq.mpr (fL_eq _ _) ?_ | refine Eq.mpr (fW_eq _ _) ?_ | refine Eq.mpr (fN_eq _ _) ?_)
  refine cci 42 (l_undo hg I rfl) (by decide) (by omega) (by omega) rfl rfl ?_ (fun _ _ h => h.elim)
  rintro _ _ ⟨o, F', E', H', r', X', ht', P', S', sd', er', t', fo', hR, rfl, rfl, I', h9', h0', kp⟩
  obtain ⟨u', rfl⟩ := tl_9 h9' kp
  repeat' (first | refine And.intro ?_ ?_ | with_reducible exact v1 | with_reducible exact v2 | (with_reducible intro h9; exact absurd h9 (by simp only [cI, cN]; decide +kernel)) | with_reducible intro _ | exact (rfl : narrow _ _ = _) | decide | (unfold vp_in; decide) | refine Eq.mpr (fL_eq _ _) ?_ | refine Eq.mpr (fW_eq _ _) ?_ | refine Eq.mpr (fN_eq _ _) ?_)
  refine ccn 42 [31, 32, 33, 34, 35, 36, 37, 38, 39] (sp_R (r_undo hg N _ I.ch.1 I.ch.2)) (by decide) (Nat.zero_le _) (Nat.zero_le _) rfl (by repeat' (first | exact trivial | refine And.intro ?_ ?_ | rfl)) rfl ?_
  rintro _ _ ⟨o', hR', q1, rfl, b, rfl, q2⟩
  have hu := uniq_f o o' hR hR'
  have I2 := cV_tl (N' := o'.2.2) (cV_v I' hu.2.2)
  have hco : o'.2.2.co = nI o.1 := q1.trans (nI_uq hu.1.symm)
  have hz : nI o.1 = 0 → lg_cmp (fo' 0) b.toInt64 = 0 := fun z => by
    have z0 := nI_z (lt_oUndo o hR) z
    rw [h0' z0, q2 (hu.1.symm.trans z0), hu.2.1 z0]
    exact lgc
  repeat' (first | refine And.intro ?_ ?_ | with_reducible exact v1 | with_reducible exact v2 | (with_reducible intro h9; exact absurd h9 (by simp only [cI, cN]; decide +kernel)) | with_reducible intro _ | exact (rfl : narrow _ _ = _) | decide | (unfold vp_in; decide) | refine Eq.mpr (fL_eq _ _) ?_ | refine Eq.mpr (fW_eq _ _) ?_ | refine Eq.mpr (fN_eq _ _) ?_)
  refine ccn 42 [31, 32, 33, 34, 35, 36, 37, 38, 39] (md_thrown hg o'.2.2) (by decide) (Nat.zero_le _) (Nat.zero_le _) rfl (by repeat' (first | exact trivial | refine And.intro ?_ ?_ | rfl)) rfl ?_
  rintro _ _ ⟨rfl, rfl⟩
  repeat' (first | refine And.intro ?_ ?_ | with_reducible exact v1 | with_reducible exact v2 | (with_reducible intro h9; exact absurd h9 (by simp only [cI, cN]; decide +kernel)) | with_reducible intro _ | exact (rfl : narrow _ _ = _) | decide | (unfold vp_in; decide) | refine Eq.mpr (fL_eq _ _) ?_ | refine Eq.mpr (fW_eq _ _) ?_ | refine Eq.mpr (fN_eq _ _) ?_)
  all_goals first
    | exact HN _ _ _ _ _ _ _ _ _ _ _ _ _ _ I2
    | (rename_i g; exact absurd hco g)
    | (rename_i g2 g3; exact absurd (hz g2) g3)
set_option maxRecDepth 20000 in
set_option maxRecDepth 20000 in
theorem law_save (hg : gOK G) (I : cV F E H r X S sd er (tl N fo fd u) N) (v1 : vp_in (i + Int32.ofInt 1) G.L) (v2 : vp_in (i + Int32.ofInt 2) G.L) (hb : 51 ≤ bc) (hs : 1710 ≤ bs) (HN : lNext G (bc - 51) (bs - 1710) i K) : AW G M_L_law 12 bc bs 2196 (lsL i) [] (ww F E H r X ht P S sd er (tl N fo fd u)) K NX := by
  refine wp_okL (M := M_L_law) hg okL_law (lkp [(2253, [true, true, true, true, true, true, false, false, false])]) 120 _ _ _ _ _ _ ?_
  repeat' (first | refine And.intro ?_ ?_ | with_reducible exact v1 | with_reducible exact v2 | (with_reducible intro h9; exact absurd h9 (by simp only [cI, cN]; decide +kernel)) | with_reducible intro _ | exact (rfl : narrow _ _ = _) | decide | (unfold vp_in; decide) | refine Eq.mpr (fL_eq _ _) ?_ | refine Eq.mpr (fW_eq _ _) ?_ | refine Eq.mpr (fN_eq _ _) ?_)
  refine cci 42 ((sp_C (c_save hg I))) (by decide) (by omega) (by omega) rfl rfl ?_ (fun _ _ h => h.elim)
  rintro _ _ ⟨o, hR, y, N1, rfl, rfl, F', E', H', r', X', ht', P', S', sd', er', t', rfl, I', kp⟩
  obtain ⟨u', rfl⟩ := tl_k kp
  repeat' (first | refine And.intro ?_ ?_ | with_reducible exact v1 | with_reducible exact v2 | (with_reducible intro h9; exact absurd h9 (by simp only [cI, cN]; decide +kernel)) | with_reducible intro _ | exact (rfl : narrow _ _ = _) | decide | (unfold vp_in; decide) | refine Eq.mpr (fL_eq _ _) ?_ | refine Eq.mpr (fW_eq _ _) ?_ | refine Eq.mpr (fN_eq _ _) ?_)
  refine ccn 42 [31, 32, 33, 34, 35, 36, 37, 38, 39] (sp_R (r_save hg N)) (by decide) (Nat.zero_le _) (Nat.zero_le _) rfl (by repeat' (first | exact trivial | refine And.intro ?_ ?_ | rfl)) rfl ?_
  rintro _ _ ⟨o', hR', q1, rfl, b, rfl, q2⟩
  have hu := uniq_f _ o' hR hR'
  have I2 := cV_tl (N' := o'.2.2) (cV_v I' hu.2.2)
  have hyb : y = b := (hu.2.1 rfl).trans (q2 hu.1.symm).symm
  repeat' (first | refine And.intro ?_ ?_ | with_reducible exact v1 | with_reducible exact v2 | (with_reducible intro h9; exact absurd h9 (by simp only [cI, cN]; decide +kernel)) | with_reducible intro _ | exact (rfl : narrow _ _ = _) | decide | (unfold vp_in; decide) | refine Eq.mpr (fL_eq _ _) ?_ | refine Eq.mpr (fW_eq _ _) ?_ | refine Eq.mpr (fN_eq _ _) ?_)
  all_goals first
    | exact AW.up (HN _ _ _ _ _ _ _ _ _ _ _ _ _ _ I2) (by omega) (by omega)
    | (rename_i g; exact absurd hyb g)
set_option maxRecDepth 20000 in
set_option maxRecDepth 20000 in
theorem law_restore (hg : gOK G) (I : cV F E H r X S sd er (tl N fo fd u) N) (v1 : vp_in (i + Int32.ofInt 1) G.L) (v2 : vp_in (i + Int32.ofInt 2) G.L) (hb : 51 ≤ bc) (hs : 1710 ≤ bs) (HN : lNext G (bc - 51) (bs - 1710) i K) : AW G M_L_law 12 bc bs 2209 (lsL i) [] (ww F E H r X ht P S sd er (tl N fo fd u)) K NX := by
  refine wp_okL (M := M_L_law) hg okL_law (lkp [(2253, [true, true, true, true, true, true, false, false, false])]) 120 _ _ _ _ _ _ ?_
  repeat' (first | refine And.intro ?_ ?_ | with_reducible exact v1 | with_reducible exact v2 | (with_reducible intro h9; exact absurd h9 (by simp only [cI, cN]; decide +kernel)) | with_reducible intro _ | exact (rfl : narrow _ _ = _) | decide | (unfold vp_in; decide) | refine Eq.mpr (fL_eq _ _) ?_ | refine Eq.mpr (fW_eq _ _) ?_ | refine Eq.mpr (fN_eq _ _) ?_)
  refine cci 42 (l_restore hg I rfl) (by decide) (by omega) (by omega) rfl rfl ?_ (fun _ _ h => h.elim)
  rintro _ _ ⟨o, F', E', H', r', X', ht', P', S', sd', er', t', fo', hR, rfl, rfl, I', h9', h0', kp⟩
  obtain ⟨u', rfl⟩ := tl_9 h9' kp
  repeat' (first | refine And.intro ?_ ?_ | with_reducible exact v1 | with_reducible exact v2 | (with_reducible intro h9; exact absurd h9 (by simp only [cI, cN]; decide +kernel)) | with_reducible intro _ | exact (rfl : narrow _ _ = _) | decide | (unfold vp_in; decide) | refine Eq.mpr (fL_eq _ _) ?_ | refine Eq.mpr (fW_eq _ _) ?_ | refine Eq.mpr (fN_eq _ _) ?_)
  refine ccn 42 [31, 32, 33, 34, 35, 36, 37, 38, 39] (sp_R (r_restore hg N I.iS)) (by decide) (Nat.zero_le _) (Nat.zero_le _) rfl (by repeat' (first | exact trivial | refine And.intro ?_ ?_ | rfl)) rfl ?_
  rintro _ _ ⟨o', hR', q1, rfl, b, rfl, q2⟩
  have hu := uniq_f o o' hR hR'
  have I2 := cV_tl (N' := o'.2.2) (cV_v I' hu.2.2)
  have hco : o'.2.2.co = nI o.1 := q1.trans (nI_uq hu.1.symm)
  have hz : nI o.1 = 0 → lg_cmp (fo' 0) b.toInt64 = 0 := fun z => by
    have z0 := nI_z (lt_oRestore o hR) z
    rw [h0' z0, q2 (hu.1.symm.trans z0), hu.2.1 z0]
    exact lgc
  repeat' (first | refine And.intro ?_ ?_ | with_reducible exact v1 | with_reducible exact v2 | (with_reducible intro h9; exact absurd h9 (by simp only [cI, cN]; decide +kernel)) | with_reducible intro _ | exact (rfl : narrow _ _ = _) | decide | (unfold vp_in; decide) | refine Eq.mpr (fL_eq _ _) ?_ | refine Eq.mpr (fW_eq _ _) ?_ | refine Eq.mpr (fN_eq _ _) ?_)
  refine ccn 42 [31, 32, 33, 34, 35, 36, 37, 38, 39] (md_thrown hg o'.2.2) (by decide) (Nat.zero_le _) (Nat.zero_le _) rfl (by repeat' (first | exact trivial | refine And.intro ?_ ?_ | rfl)) rfl ?_
  rintro _ _ ⟨rfl, rfl⟩
  repeat' (first | refine And.intro ?_ ?_ | with_reducible exact v1 | with_reducible exact v2 | (with_reducible intro h9; exact absurd h9 (by simp only [cI, cN]; decide +kernel)) | with_reducible intro _ | exact (rfl : narrow _ _ = _) | decide | (unfold vp_in; decide) | refine Eq.mpr (fL_eq _ _) ?_ | refine Eq.mpr (fW_eq _ _) ?_ | refine Eq.mpr (fN_eq _ _) ?_)
  all_goals first
    | exact HN _ _ _ _ _ _ _ _ _ _ _ _ _ _ I2
    | (rename_i g; exact absurd hco g)
    | (rename_i g2 g3; exact absurd (hz g2) g3)
end LC
