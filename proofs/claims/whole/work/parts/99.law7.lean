/-! ===== the law's calls: means ===== -/
theorem ddiv_okC (a b : Int32) (hb : b ≠ 0) : Jvm.FP.Core.dIsNaN (FP.ddiv (FP.i2d a) (FP.i2d b)) = false := by
  show Jvm.FP.Core.dIsNaN (Jvm.FP.Core.ddiv (Jvm.FP.Core.i2d a) (Jvm.FP.Core.i2d b)) = false
  refine Jvm.FP.Core.ddiv_out ?_ (Jvm.FP.Core.i2d_fin b) (fun z => Jvm.FP.Core.i2d_ne_zero hb ((Jvm.FP.Core.zero_bits2 _).mp z))
  have h1 := (Jvm.FP.Core.fin_bits _).mp (Jvm.FP.Core.i2d_fin a)
  cases h2 : Jvm.FP.Core.dIsNaN (Jvm.FP.Core.i2d a) with
  | false => rfl
  | true =>
    have := (Jvm.FP.Core.isNaN_bits _).mp h2
    omega
theorem f2d_okC (a b : Int32) (hb : b ≠ 0) : Jvm.FP.Core.dIsNaN (FP.f2d (FP.fdiv (FP.i2f a) (FP.i2f b))) = false := by
  have h := fdiv_okC a b hb
  show Jvm.FP.Core.dIsNaN (if Jvm.FP.Core.fIsNaN (Jvm.FP.Core.fdiv (Jvm.FP.Core.i2f a) (Jvm.FP.Core.i2f b)) then _ else Jvm.FP.Core.f2d (Jvm.FP.Core.fdiv (Jvm.FP.Core.i2f a) (Jvm.FP.Core.i2f b))) = false
  rw [h]
  exact Jvm.FP.Core.f2d_out h
theorem dcs {x z : UInt64} (h : x = z) (hz : Jvm.FP.Core.dIsNaN z = false) (op : CmpOp) : Op.cmpValue (FP.dcmp x z) op = 0 := by
  subst h
  have e : FP.dcmp x x = some .eq := Jvm.FP.Core.dcmp_self (of_decide_eq_false hz)
  rw [e]
  rfl
theorem nb_nz {n : Nat} (h : 0 < n) (h2 : n ≤ 12) : nI n ≠ 0 := fun z => by
  rw [← nI_0, nI_eq (by omega) (by omega)] at z
  omega
section LC
variable {G : gT} {F E : fT} {H : hT} {r : Int32 × Int32} {X : xT} {ht : Nat → Int32} {P : pT7} {S : sT4} {sd : Value} {er i : Int32} {N : nT} {fo : Nat → Int64} {fd : Nat → UInt64} {u : xW} {bc bs : Nat} {K : Option Value → xW → Prop}
set_option maxRecDepth 20000 in
set_option maxRecDepth 20000 in
theorem law_meanNote (hg : gOK G) (I : cV F E H r X S sd er (tl N fo fd u) N) (v1 : vp_in (i + Int32.ofInt 1) G.L) (v2 : vp_in (i + Int32.ofInt 2) G.L) (hb : 51 ≤ bc) (hs : 1710 ≤ bs) (HN : lNext G (bc - 51) (bs - 1710) i K) : AW G M_L_law 12 bc bs 2021 (lsL i) [] (ww F E H r X ht P S sd er (tl N fo fd u)) K NX := by
  refine wp_okL (M := M_L_law) hg okL_law (lkp [(2253, [true, true, true, true, true, true, false, false, false])]) 120 _ _ _ _ _ _ ?_
  repeat' (first | refine And.intro ?_ ?_ | with_reducible exact v1 | with_reducible exact v2 | (with_reducible intro h9; exact absurd h9 (by simp only [cI, cN]; decide +kernel)) | with_reducible intro _ | exact (rfl : narrow _ _ = _) | decide | (unfold vp_in; decide) | refine Eq.mpr (fL_eq _ _) ?_ | refine Eq.mpr (fW_eq _ _) ?_ | refine Eq.mpr (fN_eq _ _) ?_)
  refine cci 42 (l_mean hg I rfl) (by decide) (by omega) (by omega) rfl rfl ?_ (fun _ _ h => h.elim)
  rintro _ _ ⟨k, F', E', H', r', X', ht', P', S', sd', er', t', fd', hk, rfl, rfl, I', h9', h0', kp⟩
  obtain ⟨u', rfl⟩ := tl_10 h9' kp
  rcases hk with ⟨rfl, h0⟩ | ⟨rfl, h0⟩
  · have hd := dcs (h0' rfl) (ddiv_okC _ _ (nb_nz h0 I.nb.2)) .l
    repeat' (first | refine And.intro ?_ ?_ | with_reducible exact v1 | with_reducible exact v2 | (with_reducible intro h9; exact absurd h9 (by simp only [cI, cN]; decide +kernel)) | with_reducible intro _ | exact (rfl : narrow _ _ = _) | decide | (unfold vp_in; decide) | refine Eq.mpr (fL_eq _ _) ?_ | refine Eq.mpr (fW_eq _ _) ?_ | refine Eq.mpr (fN_eq _ _) ?_)
    refine ccn 42 [31, 32, 33, 34, 35, 36, 37, 38, 39] (mo_mean hg N _ I.nb) (by decide) (Nat.zero_le _) (Nat.zero_le _) rfl (by repeat' (first | exact trivial | refine And.intro ?_ ?_ | rfl)) rfl ?_
    rintro _ _ (⟨q, _⟩ | ⟨_, rfl, rfl⟩)
    · exact absurd q (by omega)
    have I2 := cV_tl (N' := N.s_co (nI 0)) I'
    repeat' (first | refine And.intro ?_ ?_ | with_reducible exact v1 | with_reducible exact v2 | (with_reducible intro h9; exact absurd h9 (by simp only [cI, cN]; decide +kernel)) | with_reducible intro _ | exact (rfl : narrow _ _ = _) | decide | (unfold vp_in; decide) | refine Eq.mpr (fL_eq _ _) ?_ | refine Eq.mpr (fW_eq _ _) ?_ | refine Eq.mpr (fN_eq _ _) ?_)
    refine ccn 42 [31, 32, 33, 34, 35, 36, 37, 38, 39] (md_thrown hg (N.s_co (nI 0))) (by decide) (Nat.zero_le _) (Nat.zero_le _) rfl (by repeat' (first | exact trivial | refine And.intro ?_ ?_ | rfl)) rfl ?_
    rintro _ _ ⟨rfl, rfl⟩
    repeat' (first | refine And.intro ?_ ?_ | with_reducible exact v1 | with_reducible exact v2 | (with_reducible intro h9; exact absurd h9 (by simp only [cI, cN]; decide +kernel)) | with_reducible intro _ | exact (rfl : narrow _ _ = _) | decide | (unfold vp_in; decide) | refine Eq.mpr (fL_eq _ _) ?_ | refine Eq.mpr (fW_eq _ _) ?_ | refine Eq.mpr (fN_eq _ _) ?_)
    all_goals first
      | exact HN _ _ _ _ _ _ _ _ _ _ _ _ _ _ I2
      | (rename_i g; exact absurd hd g)
      | (rename_i g g1; exact absurd hd g)
      | (rename_i g g1 g2; exact absurd hd g)
  · repeat' (first | refine And.intro ?_ ?_ | with_reducible exact v1 | with_reducible exact v2 | (with_reducible intro h9; exact absurd h9 (by simp only [cI, cN]; decide +kernel)) | with_reducible intro _ | exact (rfl : narrow _ _ = _) | decide | (unfold vp_in; decide) | refine Eq.mpr (fL_eq _ _) ?_ | refine Eq.mpr (fW_eq _ _) ?_ | refine Eq.mpr (fN_eq _ _) ?_)
    refine ccn 42 [31, 32, 33, 34, 35, 36, 37, 38, 39] (mo_mean hg N _ I.nb) (by decide) (Nat.zero_le _) (Nat.zero_le _) rfl (by repeat' (first | exact trivial | refine And.intro ?_ ?_ | rfl)) rfl ?_
    rintro _ _ (⟨_, rfl, ⟨y, rfl⟩⟩ | ⟨q, _⟩)
    case inr.inr => exact absurd q (by omega)
    have I2 := cV_tl (N' := N.s_co (nI 1)) I'
    repeat' (first | refine And.intro ?_ ?_ | with_reducible exact v1 | with_reducible exact v2 | (with_reducible intro h9; exact absurd h9 (by simp only [cI, cN]; decide +kernel)) | with_reducible intro _ | exact (rfl : narrow _ _ = _) | decide | (unfold vp_in; decide) | refine Eq.mpr (fL_eq _ _) ?_ | refine Eq.mpr (fW_eq _ _) ?_ | refine Eq.mpr (fN_eq _ _) ?_)
    refine ccn 42 [31, 32, 33, 34, 35, 36, 37, 38, 39] (md_thrown hg (N.s_co (nI 1))) (by decide) (Nat.zero_le _) (Nat.zero_le _) rfl (by repeat' (first | exact trivial | refine And.intro ?_ ?_ | rfl)) rfl ?_
    rintro _ _ ⟨rfl, rfl⟩
    repeat' (first | refine And.intro ?_ ?_ | with_reducible exact v1 | with_reducible exact v2 | (with_reducible intro h9; exact absurd h9 (by simp only [cI, cN]; decide +kernel)) | with_reducible intro _ | exact (rfl : narrow _ _ = _) | decide | (unfold vp_in; decide) | refine Eq.mpr (fL_eq _ _) ?_ | refine Eq.mpr (fW_eq _ _) ?_ | refine Eq.mpr (fN_eq _ _) ?_)
    all_goals exact HN _ _ _ _ _ _ _ _ _ _ _ _ _ _ I2
set_option maxRecDepth 20000 in
set_option maxRecDepth 20000 in
theorem law_soundShare (hg : gOK G) (I : cV F E H r X S sd er (tl N fo fd u) N) (v1 : vp_in (i + Int32.ofInt 1) G.L) (v2 : vp_in (i + Int32.ofInt 2) G.L) (hb : 51 ≤ bc) (hs : 1710 ≤ bs) (HN : lNext G (bc - 51) (bs - 1710) i K) : AW G M_L_law 12 bc bs 2086 (lsL i) [] (ww F E H r X ht P S sd er (tl N fo fd u)) K NX := by
  refine wp_okL (M := M_L_law) hg okL_law (lkp [(2253, [true, true, true, true, true, true, false, false, false])]) 120 _ _ _ _ _ _ ?_
  repeat' (first | refine And.intro ?_ ?_ | with_reducible exact v1 | with_reducible exact v2 | (with_reducible intro h9; exact absurd h9 (by simp only [cI, cN]; decide +kernel)) | with_reducible intro _ | exact (rfl : narrow _ _ = _) | decide | (unfold vp_in; decide) | refine Eq.mpr (fL_eq _ _) ?_ | refine Eq.mpr (fW_eq _ _) ?_ | refine Eq.mpr (fN_eq _ _) ?_)
  refine cci 42 (l_share hg I rfl) (by decide) (by omega) (by omega) rfl rfl ?_ (fun _ _ h => h.elim)
  rintro _ _ ⟨k, F', E', H', r', X', ht', P', S', sd', er', t', fd', hk, rfl, rfl, I', h9', h0', kp⟩
  obtain ⟨u', rfl⟩ := tl_10 h9' kp
  rcases hk with ⟨rfl, h0⟩ | ⟨rfl, h0⟩
  · have hd := dcs (h0' rfl) (f2d_okC _ _ (nb_nz h0 I.nb.2)) .l
    repeat' (first | refine And.intro ?_ ?_ | with_reducible exact v1 | with_reducible exact v2 | (with_reducible intro h9; exact absurd h9 (by simp only [cI, cN]; decide +kernel)) | with_reducible intro _ | exact (rfl : narrow _ _ = _) | decide | (unfold vp_in; decide) | refine Eq.mpr (fL_eq _ _) ?_ | refine Eq.mpr (fW_eq _ _) ?_ | refine Eq.mpr (fN_eq _ _) ?_)
    refine ccn 42 [31, 32, 33, 34, 35, 36, 37, 38, 39] (mo_share hg N _ I.nb) (by decide) (Nat.zero_le _) (Nat.zero_le _) rfl (by repeat' (first | exact trivial | refine And.intro ?_ ?_ | rfl)) rfl ?_
    rintro _ _ (⟨q, _⟩ | ⟨_, rfl, rfl⟩)
    · exact absurd q (by omega)
    have I2 := cV_tl (N' := N.s_co (nI 0)) I'
    repeat' (first | refine And.intro ?_ ?_ | with_reducible exact v1 | with_reducible exact v2 | (with_reducible intro h9; exact absurd h9 (by simp only [cI, cN]; decide +kernel)) | with_reducible intro _ | exact (rfl : narrow _ _ = _) | decide | (unfold vp_in; decide) | refine Eq.mpr (fL_eq _ _) ?_ | refine Eq.mpr (fW_eq _ _) ?_ | refine Eq.mpr (fN_eq _ _) ?_)
    refine ccn 42 [31, 32, 33, 34, 35, 36, 37, 38, 39] (md_thrown hg (N.s_co (nI 0))) (by decide) (Nat.zero_le _) (Nat.zero_le _) rfl (by repeat' (first | exact trivial | refine And.intro ?_ ?_ | rfl)) rfl ?_
    rintro _ _ ⟨rfl, rfl⟩
    repeat' (first | refine And.intro ?_ ?_ | with_reducible exact v1 | with_reducible exact v2 | (with_reducible intro h9; exact absurd h9 (by simp only [cI, cN]; decide +kernel)) | with_reducible intro _ | exact (rfl : narrow _ _ = _) | decide | (unfold vp_in; decide) | refine Eq.mpr (fL_eq _ _) ?_ | refine Eq.mpr (fW_eq _ _) ?_ | refine Eq.mpr (fN_eq _ _) ?_)
    all_goals try exact f2d_okN _ _ (nb_nz h0 I.nb.2)
    all_goals (repeat' (first | refine And.intro ?_ ?_ | with_reducible exact v1 | with_reducible exact v2 | (with_reducible intro h9; exact absurd h9 (by simp only [cI, cN]; decide +kernel)) | with_reducible intro _ | exact (rfl : narrow _ _ = _) | decide | (unfold vp_in; decide) | refine Eq.mpr (fL_eq _ _) ?_ | refine Eq.mpr (fW_eq _ _) ?_ | refine Eq.mpr (fN_eq _ _) ?_))
    all_goals first
      | exact HN _ _ _ _ _ _ _ _ _ _ _ _ _ _ I2
      | (rename_i g; exact absurd hd g)
      | (rename_i g g1; exact absurd hd g)
      | (rename_i g g1 g2; exact absurd hd g)
  · repeat' (first | refine And.intro ?_ ?_ | with_reducible exact v1 | with_reducible exact v2 | (with_reducible intro h9; exact absurd h9 (by simp only [cI, cN]; decide +kernel)) | with_reducible intro _ | exact (rfl : narrow _ _ = _) | decide | (unfold vp_in; decide) | refine Eq.mpr (fL_eq _ _) ?_ | refine Eq.mpr (fW_eq _ _) ?_ | refine Eq.mpr (fN_eq _ _) ?_)
    refine ccn 42 [31, 32, 33, 34, 35, 36, 37, 38, 39] (mo_share hg N _ I.nb) (by decide) (Nat.zero_le _) (Nat.zero_le _) rfl (by repeat' (first | exact trivial | refine And.intro ?_ ?_ | rfl)) rfl ?_
    rintro _ _ (⟨_, rfl, rfl⟩ | ⟨q, _⟩)
    case inr.inr => exact absurd q (by omega)
    have I2 := cV_tl (N' := N.s_co (nI 1)) I'
    repeat' (first | refine And.intro ?_ ?_ | with_reducible exact v1 | with_reducible exact v2 | (with_reducible intro h9; exact absurd h9 (by simp only [cI, cN]; decide +kernel)) | with_reducible intro _ | exact (rfl : narrow _ _ = _) | decide | (unfold vp_in; decide) | refine Eq.mpr (fL_eq _ _) ?_ | refine Eq.mpr (fW_eq _ _) ?_ | refine Eq.mpr (fN_eq _ _) ?_)
    refine ccn 42 [31, 32, 33, 34, 35, 36, 37, 38, 39] (md_thrown hg (N.s_co (nI 1))) (by decide) (Nat.zero_le _) (Nat.zero_le _) rfl (by repeat' (first | exact trivial | refine And.intro ?_ ?_ | rfl)) rfl ?_
    rintro _ _ ⟨rfl, rfl⟩
    repeat' (first | refine And.intro ?_ ?_ | with_reducible exact v1 | with_reducible exact v2 | (with_reducible intro h9; exact absurd h9 (by simp only [cI, cN]; decide +kernel)) | with_reducible intro _ | exact (rfl : narrow _ _ = _) | decide | (unfold vp_in; decide) | refine Eq.mpr (fL_eq _ _) ?_ | refine Eq.mpr (fW_eq _ _) ?_ | refine Eq.mpr (fN_eq _ _) ?_)
    all_goals exact HN _ _ _ _ _ _ _ _ _ _ _ _ _ _ I2
end LC
