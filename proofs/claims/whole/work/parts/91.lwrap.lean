/-! ===== the law's helpers ===== -/
section AL
variable {G : gT} {M : mT} {d bc bs pc np b n0 : Nat} {tg : Nat} {K : Option Value → xW → Prop} {KX : Nat → xW → Prop} {ls : List (Option Value)} {st : List Value} {w : xW} {i : Int32}
theorem aw_las (hg : gOK G) (hm : mOK M) (cut : Nat → Option (List Bool)) (n : Nat) {f : Nat → Int64} {x : Int64} (hcd : M.cd pc = some (Instr.lastore, np, tg)) (ha : nth w b = some (.inl (4, n0, .inr (.inl f)))) (hi : vp_in i n0)
    (h : wpG G M cut d K KX (wp G M cut d K KX n) bc bs np ls st (stN w b (.inl (4, n0, .inr (.inl (vp_updL f i.toNatClampNeg x)))))) : AW G M d bc bs pc ls (.long x :: .int i :: .ref b :: st) w K KX := by
  refine wp_ok hg hm cut (n + 1) _ _ _ _ _ _ ?_
  show (match M.cd pc with | some (i9, np, tg) => wpI G M d K KX (wpG G M cut d K KX (wp G M cut d K KX n)) bc bs pc ls (.long x :: .int i :: .ref b :: st) w i9 np tg | none => False)
  rw [hcd]
  show wpI G M d K KX (wpG G M cut d K KX (wp G M cut d K KX n)) bc bs pc ls (.long x :: .int i :: .ref b :: st) w Instr.lastore np tg
  unfold wpI
  simp only [ha, fL_eq]
  exact ⟨hi, h⟩
theorem aw_das (hg : gOK G) (hm : mOK M) (cut : Nat → Option (List Bool)) (n : Nat) {f : Nat → UInt64} {x : UInt64} (hcd : M.cd pc = some (Instr.dastore, np, tg)) (ha : nth w b = some (.inl (5, n0, .inr (.inr (.inr (.inl f)))))) (hi : vp_in i n0)
    (h : wpG G M cut d K KX (wp G M cut d K KX n) bc bs np ls st (stN w b (.inl (5, n0, .inr (.inr (.inr (.inl (vf_upd f i.toNatClampNeg x)))))))) : AW G M d bc bs pc ls (.double x :: .int i :: .ref b :: st) w K KX := by
  refine wp_ok hg hm cut (n + 1) _ _ _ _ _ _ ?_
  show (match M.cd pc with | some (i9, np, tg) => wpI G M d K KX (wpG G M cut d K KX (wp G M cut d K KX n)) bc bs pc ls (.double x :: .int i :: .ref b :: st) w i9 np tg | none => False)
  rw [hcd]
  show wpI G M d K KX (wpG G M cut d K KX (wp G M cut d K KX n)) bc bs pc ls (.double x :: .int i :: .ref b :: st) w Instr.dastore np tg
  unfold wpI
  simp only [ha, fL_eq]
  exact ⟨hi, h⟩
end AL
abbrev oL (f : Nat → Int64) : va_E := .inl (4, 1, .inr (.inl f))
abbrev oD (f : Nat → UInt64) : va_E := .inl (5, 1, .inr (.inr (.inr (.inl f))))
theorem hblk_st {t : xW} {k j : Nat} {D : fT} {e : va_E} (h : hblk t k D) (hj : j < k) : hblk (stN t j e) k D := by
  obtain ⟨h0, h1, h2, h3, h4, h5, h6⟩ := h
  refine ⟨?_, ?_, ?_, ?_, ?_, ?_, ?_⟩ <;> rw [nth_st2 (by omega)] <;> assumption
theorem hC_st {H : hT} {sd : Value} {t : xW} {N : nT} {j : Nat} {e : va_E} (h : hC H sd t N) (hj : j < 11) : hC H sd (stN t j e) N := by
  obtain ⟨c, kf, DF, b, ⟨a1, a2, a3, a4, a5⟩, h2⟩ := h
  exact ⟨c, kf, DF, b, ⟨a1, a2, a3, fun i hi => ⟨(a4 i hi).1, hblk_st (a4 i hi).2.1 (by have := (a4 i hi).1; omega), (a4 i hi).2.2⟩, a5⟩, h2⟩
theorem lnI_st {S : sT4} {t : xW} {N : nT} {j : Nat} {e e' : va_E} (h : lnI S t N) (h9 : nth t j = some e) (hb : nB e) : lnI S (stN t j e') N := by
  obtain ⟨n, f, ⟨h1, h2, h3, h4⟩, h5⟩ := h
  refine ⟨n, f, ⟨h1, h2, h3, h4.imp_right fun ⟨k, k1, k2, k3⟩ => ⟨k, k1, ?_, k3⟩⟩, h5⟩
  by_cases q : k = j
  · subst q
    rw [h9] at k2
    exact absurd (Option.some.inj k2) (hb f)
  · rw [nth_st2 q]; exact k2
section LW
variable {G : gT} {F E : fT} {H : hT} {r : Int32 × Int32} {X : xT} {ht : Nat → Int32} {P : pT7} {S : sT4} {sd : Value} {er : Int32} {t : xW} {N : nT}
theorem cV_st {j : Nat} {e e' : va_E} (I : cV F E H r X S sd er t N) (hj : j < 11) (h9 : nth t j = some e) (hb : nB e) (hb' : nB e') : cV F E H r X S sd er (stN t j e') N := by
  obtain ⟨a, ⟨b1, b2⟩, c, d, e1, f, y, y1, y2⟩ := I
  refine ⟨a, ⟨hC_st b1 hj, b2⟩, c, d, e1, lnI_st f h9 hb, ?_⟩
  by_cases q : 10 = j
  · subst q
    exact ⟨e', nth_st h9, hb'⟩
  · exact ⟨y, by rw [nth_st2 q]; exact y1, y2⟩
set_option maxRecDepth 20000 in
theorem nB_l {f : Nat → Int64} {n : Nat} : nB (.inl (4, n, .inr (.inl f))) := fun g h => by cases h
theorem nB_d {f : Nat → UInt64} {n : Nat} : nB (.inl (5, n, .inr (.inr (.inr (.inl f))))) := fun g h => by cases h
/-- behind a helper of the law -/
def lK (R : oA3 → Prop) (t : xW) (v : Option Value) (w' : xW) : Prop := ∃ o F E H r X ht P S sd er t' fo, R o ∧ v = some (.int (nI o.1)) ∧ w' = ww F E H r X ht P S sd er t' ∧ cV F E H r X S sd er t' o.2.2 ∧ nth t' 9 = some (oL fo) ∧ (o.1 = 0 → fo 0 = o.2.1.toInt64) ∧ ∀ j e, j < 11 → j ≠ 9 → nth t j = some e → nB e → nth t' j = some e
theorem lX {M : mT} {hs : List (Nat × Int32)} {R : oA3 → Prop} {fo : Nat → Int64} {z : Nat} {w' : xW} (hM : M.hs = hs) (h : excCR t hs R z w') (h9 : nth t 9 = some (oL fo)) : wpX M (lK R t) z w' := by
  obtain ⟨o, hR, k, y, N1, rfl, hh, F, E, H, r, X, ht, P, S, sd, er, t', rfl, I, kp⟩ := h
  unfold wpX
  rw [hM, hh]
  exact ⟨_, F, E, H, r, X, ht, P, S, sd, er, t', fo, hR, rfl, rfl, I, kp 9 _ (by omega) h9 nB_l, fun z => absurd z (by show ¬ k + 1 = 0; omega), fun j e h1 _ h2 h3 => kp j e h1 h2 h3⟩
theorem lK_ret {R : oA3 → Prop} {fo : Nat → Int64} {t' : xW} {y : Int32} {N1 : nT} {o : oA3} (hR : R o) (ho : o = (0, y, N1)) (I : cV F E H r X S sd er t' N1) (kp : keep11 t t') (h9 : nth t 9 = some (oL fo)) : lK R t (some (.int (Int32.ofInt 0))) (stN (ww F E H r X ht P S sd er t') 40 (oL (vp_updL fo (Int32.ofInt 0).toNatClampNeg y.toInt64))) := by
  subst ho
  have h9' := kp 9 _ (by omega) h9 nB_l
  refine ⟨_, F, E, H, r, X, ht, P, S, sd, er, stN t' 9 (oL (vp_updL fo (Int32.ofInt 0).toNatClampNeg y.toInt64)), _, hR, rfl, rfl, cV_st I (by omega) h9' nB_l nB_l, nth_st h9', fun _ => pk_uLs, fun j e h1 h2 h3 h4 => ?_⟩
  rw [nth_st2 h2]
  exact kp j e h1 h3 h4

set_option maxRecDepth 20000 in
theorem l_coal (hg : gOK G) (I : cV F E H r X S sd er t N) {fo : Nat → Int64} (h9 : nth t 9 = some (oL fo)) (x : Int32) : Spec G 11 51 1710 m_L_coal [.ref 0, .int x, .ref 40] (ww F E H r X ht P S sd er t) (lK (fun o => o = oCoal N x) t) NX := by
  refine wp_spec (M := M_L_coal) hg ok_L_coal (lkp [(8, [])]) 60 rfl rfl ?_
  repeat' (first | refine And.intro ?_ ?_ | (with_reducible intro h9; exact absurd h9 (by simp only [cI, cN]; decide +kernel)) | with_reducible intro _ | exact (rfl : narrow _ _ = _) | decide | (unfold vp_in; decide) | refine Eq.mpr (fL_eq _ _) ?_ | refine Eq.mpr (fW_eq _ _) ?_ | refine Eq.mpr (fN_eq _ _) ?_)
  refine cci 31 (K0 := ansCR t (fun o => o = oCoal N x)) (KX0 := excCR t [(0, 1)] (fun o => o = oCoal N x)) (Spec.mono (c_coal hg I x) (fun _ _ h => ⟨_, rfl, h⟩) (fun _ _ h => ⟨_, rfl, h⟩)) (by decide) (by decide) (by decide) rfl rfl ?_ (fun z w' h => lX rfl h h9)
  rintro _ _ ⟨o, hR, y, N1, ho, rfl, F', E', H', r', X', ht', P', S', sd', er', t', rfl, I', kp⟩
  refine aw_las hg ok_L_coal cut0 60 (pc := 8) rfl (kp 9 _ (by omega) h9 nB_l) (by unfold vp_in; decide) ?_
  exact lK_ret hR ho I' kp h9

set_option maxRecDepth 20000 in
theorem l_bronze (hg : gOK G) (I : cV F E H r X S sd er t N) {fo : Nat → Int64} (h9 : nth t 9 = some (oL fo)) (x : Int32) : Spec G 11 51 1710 m_L_bronze [.ref 0, .int x, .ref 40] (ww F E H r X ht P S sd er t) (lK (fun o => o = oBronze N x) t) NX := by
  refine wp_spec (M := M_L_bronze) hg ok_L_bronze (lkp [(8, [])]) 60 rfl rfl ?_
  repeat' (first | refine And.intro ?_ ?_ | (with_reducible intro h9; exact absurd h9 (by simp only [cI, cN]; decide +kernel)) | with_reducible intro _ | exact (rfl : narrow _ _ = _) | decide | (unfold vp_in; decide) | refine Eq.mpr (fL_eq _ _) ?_ | refine Eq.mpr (fW_eq _ _) ?_ | refine Eq.mpr (fN_eq _ _) ?_)
  refine cci 31 (K0 := ansCR t (fun o => o = oBronze N x)) (KX0 := excCR t [(0, 1), (1, 2)] (fun o => o = oBronze N x)) (Spec.mono (c_bronze hg I x) (fun _ _ h => ⟨_, rfl, h⟩) (fun _ _ h => ⟨_, rfl, h⟩)) (by decide) (by decide) (by decide) rfl rfl ?_ (fun z w' h => lX rfl h h9)
  rintro _ _ ⟨o, hR, y, N1, ho, rfl, F', E', H', r', X', ht', P', S', sd', er', t', rfl, I', kp⟩
  refine aw_las hg ok_L_bronze cut0 60 (pc := 8) rfl (kp 9 _ (by omega) h9 nB_l) (by unfold vp_in; decide) ?_
  exact lK_ret hR ho I' kp h9

set_option maxRecDepth 20000 in
theorem l_mould (hg : gOK G) (I : cV F E H r X S sd er t N) {fo : Nat → Int64} (h9 : nth t 9 = some (oL fo)) (x y : Int32) : Spec G 11 51 1710 m_L_mould [.ref 0, .int x, .int y, .ref 40] (ww F E H r X ht P S sd er t) (lK (fun o => o = oMould N F.M.1 x y) t) NX := by
  refine wp_spec (M := M_L_mould) hg ok_L_mould (lkp [(9, [])]) 60 rfl rfl ?_
  repeat' (first | refine And.intro ?_ ?_ | (with_reducible intro h9; exact absurd h9 (by simp only [cI, cN]; decide +kernel)) | with_reducible intro _ | exact (rfl : narrow _ _ = _) | decide | (unfold vp_in; decide) | refine Eq.mpr (fL_eq _ _) ?_ | refine Eq.mpr (fW_eq _ _) ?_ | refine Eq.mpr (fN_eq _ _) ?_)
  refine cci 31 (K0 := ansCR t (fun o => o = oMould N F.M.1 x y)) (KX0 := excCR t [(0, 1), (1, 2)] (fun o => o = oMould N F.M.1 x y)) (Spec.mono (c_mould hg I x y) (fun _ _ h => ⟨_, rfl, h⟩) (fun _ _ h => ⟨_, rfl, h⟩)) (by decide) (by decide) (by decide) rfl rfl ?_ (fun z w' h => lX rfl h h9)
  rintro _ _ ⟨o, hR, y, N1, ho, rfl, F', E', H', r', X', ht', P', S', sd', er', t', rfl, I', kp⟩
  refine aw_las hg ok_L_mould cut0 60 (pc := 9) rfl (kp 9 _ (by omega) h9 nB_l) (by unfold vp_in; decide) ?_
  exact lK_ret hR ho I' kp h9

set_option maxRecDepth 20000 in
theorem l_smash (hg : gOK G) (I : cV F E H r X S sd er t N) {fo : Nat → Int64} (h9 : nth t 9 = some (oL fo)) (x : Int32) : Spec G 11 51 1710 m_L_smash [.ref 0, .int x, .ref 40] (ww F E H r X ht P S sd er t) (lK (fun o => o = oSmash N F.M.1 x) t) NX := by
  refine wp_spec (M := M_L_smash) hg ok_L_smash (lkp [(8, [])]) 60 rfl rfl ?_
  repeat' (first | refine And.intro ?_ ?_ | (with_reducible intro h9; exact absurd h9 (by simp only [cI, cN]; decide +kernel)) | with_reducible intro _ | exact (rfl : narrow _ _ = _) | decide | (unfold vp_in; decide) | refine Eq.mpr (fL_eq _ _) ?_ | refine Eq.mpr (fW_eq _ _) ?_ | refine Eq.mpr (fN_eq _ _) ?_)
  refine cci 31 (K0 := ansCR t (fun o => o = oSmash N F.M.1 x)) (KX0 := excCR t [(2, 1)] (fun o => o = oSmash N F.M.1 x)) (Spec.mono (c_smash hg I x) (fun _ _ h => ⟨_, rfl, h⟩) (fun _ _ h => ⟨_, rfl, h⟩)) (by decide) (by decide) (by decide) rfl rfl ?_ (fun z w' h => lX rfl h h9)
  rintro _ _ ⟨o, hR, y, N1, ho, rfl, F', E', H', r', X', ht', P', S', sd', er', t', rfl, I', kp⟩
  refine aw_las hg ok_L_smash cut0 60 (pc := 8) rfl (kp 9 _ (by omega) h9 nB_l) (by unfold vp_in; decide) ?_
  exact lK_ret hR ho I' kp h9

set_option maxRecDepth 20000 in
theorem l_mouldOf (hg : gOK G) (I : cV F E H r X S sd er t N) {fo : Nat → Int64} (h9 : nth t 9 = some (oL fo)) (x y : Int32) : Spec G 11 51 1710 m_L_mouldOf [.ref 0, .int x, .int y, .ref 40] (ww F E H r X ht P S sd er t) (lK (fun o => o = oTwo N F.M.1 5 (mofV N) x y) t) NX := by
  refine wp_spec (M := M_L_mouldOf) hg ok_L_mouldOf (lkp [(9, [])]) 60 rfl rfl ?_
  repeat' (first | refine And.intro ?_ ?_ | (with_reducible intro h9; exact absurd h9 (by simp only [cI, cN]; decide +kernel)) | with_reducible intro _ | exact (rfl : narrow _ _ = _) | decide | (unfold vp_in; decide) | refine Eq.mpr (fL_eq _ _) ?_ | refine Eq.mpr (fW_eq _ _) ?_ | refine Eq.mpr (fN_eq _ _) ?_)
  refine cci 31 (K0 := ansCR t (fun o => o = oTwo N F.M.1 5 (mofV N) x y)) (KX0 := excCR t [(2, 1), (0, 2)] (fun o => o = oTwo N F.M.1 5 (mofV N) x y)) (Spec.mono (c_mouldOf hg I x y) (fun _ _ h => ⟨_, rfl, h⟩) (fun _ _ h => ⟨_, rfl, h⟩)) (by decide) (by decide) (by decide) rfl rfl ?_ (fun z w' h => lX rfl h h9)
  rintro _ _ ⟨o, hR, y, N1, ho, rfl, F', E', H', r', X', ht', P', S', sd', er', t', rfl, I', kp⟩
  refine aw_las hg ok_L_mouldOf cut0 60 (pc := 9) rfl (kp 9 _ (by omega) h9 nB_l) (by unfold vp_in; decide) ?_
  exact lK_ret hR ho I' kp h9

set_option maxRecDepth 20000 in
theorem l_rack (hg : gOK G) (I : cV F E H r X S sd er t N) {fo : Nat → Int64} (h9 : nth t 9 = some (oL fo)) (x : Int32) : Spec G 11 51 1710 m_L_rack [.ref 0, .int x, .ref 40] (ww F E H r X ht P S sd er t) (lK (fun o => o = oRack N F.R.1 x) t) NX := by
  refine wp_spec (M := M_L_rack) hg ok_L_rack (lkp [(8, [])]) 60 rfl rfl ?_
  repeat' (first | refine And.intro ?_ ?_ | (with_reducible intro h9; exact absurd h9 (by simp only [cI, cN]; decide +kernel)) | with_reducible intro _ | exact (rfl : narrow _ _ = _) | decide | (unfold vp_in; decide) | refine Eq.mpr (fL_eq _ _) ?_ | refine Eq.mpr (fW_eq _ _) ?_ | refine Eq.mpr (fN_eq _ _) ?_)
  refine cci 31 (K0 := ansCR t (fun o => o = oRack N F.R.1 x)) (KX0 := excCR t [(0, 1), (1, 2)] (fun o => o = oRack N F.R.1 x)) (Spec.mono (c_rack hg I x) (fun _ _ h => ⟨_, rfl, h⟩) (fun _ _ h => ⟨_, rfl, h⟩)) (by decide) (by decide) (by decide) rfl rfl ?_ (fun z w' h => lX rfl h h9)
  rintro _ _ ⟨o, hR, y, N1, ho, rfl, F', E', H', r', X', ht', P', S', sd', er', t', rfl, I', kp⟩
  refine aw_las hg ok_L_rack cut0 60 (pc := 8) rfl (kp 9 _ (by omega) h9 nB_l) (by unfold vp_in; decide) ?_
  exact lK_ret hR ho I' kp h9

set_option maxRecDepth 20000 in
theorem l_strike (hg : gOK G) (I : cV F E H r X S sd er t N) {fo : Nat → Int64} (h9 : nth t 9 = some (oL fo)) (x : Int32) : Spec G 11 51 1710 m_L_strike [.ref 0, .int x, .ref 40] (ww F E H r X ht P S sd er t) (lK (fun o => o = oStrike N F.R.1 F.B.1 x) t) NX := by
  refine wp_spec (M := M_L_strike) hg ok_L_strike (lkp [(8, [])]) 60 rfl rfl ?_
  repeat' (first | refine And.intro ?_ ?_ | (with_reducible intro h9; exact absurd h9 (by simp only [cI, cN]; decide +kernel)) | with_reducible intro _ | exact (rfl : narrow _ _ = _) | decide | (unfold vp_in; decide) | refine Eq.mpr (fL_eq _ _) ?_ | refine Eq.mpr (fW_eq _ _) ?_ | refine Eq.mpr (fN_eq _ _) ?_)
  refine cci 31 (K0 := ansCR t (fun o => o = oStrike N F.R.1 F.B.1 x)) (KX0 := excCR t [(2, 1), (1, 2)] (fun o => o = oStrike N F.R.1 F.B.1 x)) (Spec.mono (c_strike hg I x) (fun _ _ h => ⟨_, rfl, h⟩) (fun _ _ h => ⟨_, rfl, h⟩)) (by decide) (by decide) (by decide) rfl rfl ?_ (fun z w' h => lX rfl h h9)
  rintro _ _ ⟨o, hR, y, N1, ho, rfl, F', E', H', r', X', ht', P', S', sd', er', t', rfl, I', kp⟩
  refine aw_las hg ok_L_strike cut0 60 (pc := 8) rfl (kp 9 _ (by omega) h9 nB_l) (by unfold vp_in; decide) ?_
  exact lK_ret hR ho I' kp h9

set_option maxRecDepth 20000 in
theorem l_rackOf (hg : gOK G) (I : cV F E H r X S sd er t N) {fo : Nat → Int64} (h9 : nth t 9 = some (oL fo)) (x y : Int32) : Spec G 11 51 1710 m_L_rackOf [.ref 0, .int x, .int y, .ref 40] (ww F E H r X ht P S sd er t) (lK (fun o => o = oTwo N F.R.1 3 (rofV N F.B.1) x y) t) NX := by
  refine wp_spec (M := M_L_rackOf) hg ok_L_rackOf (lkp [(9, [])]) 60 rfl rfl ?_
  repeat' (first | refine And.intro ?_ ?_ | (with_reducible intro h9; exact absurd h9 (by simp only [cI, cN]; decide +kernel)) | with_reducible intro _ | exact (rfl : narrow _ _ = _) | decide | (unfold vp_in; decide) | refine Eq.mpr (fL_eq _ _) ?_ | refine Eq.mpr (fW_eq _ _) ?_ | refine Eq.mpr (fN_eq _ _) ?_)
  refine cci 31 (K0 := ansCR t (fun o => o = oTwo N F.R.1 3 (rofV N F.B.1) x y)) (KX0 := excCR t [(2, 1), (0, 2)] (fun o => o = oTwo N F.R.1 3 (rofV N F.B.1) x y)) (Spec.mono (c_rackOf hg I x y) (fun _ _ h => ⟨_, rfl, h⟩) (fun _ _ h => ⟨_, rfl, h⟩)) (by decide) (by decide) (by decide) rfl rfl ?_ (fun z w' h => lX rfl h h9)
  rintro _ _ ⟨o, hR, y, N1, ho, rfl, F', E', H', r', X', ht', P', S', sd', er', t', rfl, I', kp⟩
  refine aw_las hg ok_L_rackOf cut0 60 (pc := 9) rfl (kp 9 _ (by omega) h9 nB_l) (by unfold vp_in; decide) ?_
  exact lK_ret hR ho I' kp h9

set_option maxRecDepth 20000 in
theorem l_pour (hg : gOK G) (I : cV F E H r X S sd er t N) {fo : Nat → Int64} (h9 : nth t 9 = some (oL fo)) (x y : Int32) : Spec G 11 51 1710 m_L_pour [.ref 0, .int x, .int y, .ref 40] (ww F E H r X ht P S sd er t) (lK (fun o => o = oPour N F.M.1 F.R.1 F.B.1 x y) t) NX := by
  refine wp_spec (M := M_L_pour) hg ok_L_pour (lkp [(9, [])]) 60 rfl rfl ?_
  repeat' (first | refine And.intro ?_ ?_ | (with_reducible intro h9; exact absurd h9 (by simp only [cI, cN]; decide +kernel)) | with_reducible intro _ | exact (rfl : narrow _ _ = _) | decide | (unfold vp_in; decide) | refine Eq.mpr (fL_eq _ _) ?_ | refine Eq.mpr (fW_eq _ _) ?_ | refine Eq.mpr (fN_eq _ _) ?_)
  refine cci 31 (K0 := ansCR t (fun o => o = oPour N F.M.1 F.R.1 F.B.1 x y)) (KX0 := excCR t [(2, 1), (1, 2)] (fun o => o = oPour N F.M.1 F.R.1 F.B.1 x y)) (Spec.mono (c_pour hg I x y) (fun _ _ h => ⟨_, rfl, h⟩) (fun _ _ h => ⟨_, rfl, h⟩)) (by decide) (by decide) (by decide) rfl rfl ?_ (fun z w' h => lX rfl h h9)
  rintro _ _ ⟨o, hR, y, N1, ho, rfl, F', E', H', r', X', ht', P', S', sd', er', t', rfl, I', kp⟩
  refine aw_las hg ok_L_pour cut0 60 (pc := 9) rfl (kp 9 _ (by omega) h9 nB_l) (by unfold vp_in; decide) ?_
  exact lK_ret hR ho I' kp h9

set_option maxRecDepth 20000 in
theorem l_pass (hg : gOK G) (I : cV F E H r X S sd er t N) {fo : Nat → Int64} (h9 : nth t 9 = some (oL fo)) (x : Int32) : Spec G 11 51 1710 m_L_pass [.ref 0, .int x, .ref 40] (ww F E H r X ht P S sd er t) (lK (fun o => o = oPass N F.B.1 x) t) NX := by
  refine wp_spec (M := M_L_pass) hg ok_L_pass (lkp [(8, [])]) 60 rfl rfl ?_
  repeat' (first | refine And.intro ?_ ?_ | (with_reducible intro h9; exact absurd h9 (by simp only [cI, cN]; decide +kernel)) | with_reducible intro _ | exact (rfl : narrow _ _ = _) | decide | (unfold vp_in; decide) | refine Eq.mpr (fL_eq _ _) ?_ | refine Eq.mpr (fW_eq _ _) ?_ | refine Eq.mpr (fN_eq _ _) ?_)
  refine cci 31 (K0 := ansCR t (fun o => o = oPass N F.B.1 x)) (KX0 := excCR t [(0, 1)] (fun o => o = oPass N F.B.1 x)) (Spec.mono (c_pass hg I x) (fun _ _ h => ⟨_, rfl, h⟩) (fun _ _ h => ⟨_, rfl, h⟩)) (by decide) (by decide) (by decide) rfl rfl ?_ (fun z w' h => lX rfl h h9)
  rintro _ _ ⟨o, hR, y, N1, ho, rfl, F', E', H', r', X', ht', P', S', sd', er', t', rfl, I', kp⟩
  refine aw_las hg ok_L_pass cut0 60 (pc := 8) rfl (kp 9 _ (by omega) h9 nB_l) (by unfold vp_in; decide) ?_
  exact lK_ret hR ho I' kp h9

set_option maxRecDepth 20000 in
theorem l_take (hg : gOK G) (I : cV F E H r X S sd er t N) {fo : Nat → Int64} (h9 : nth t 9 = some (oL fo)) (x : Int32) : Spec G 11 51 1710 m_L_take [.ref 0, .int x, .ref 40] (ww F E H r X ht P S sd er t) (lK (fun o => o = oTake N F.B.1 x) t) NX := by
  refine wp_spec (M := M_L_take) hg ok_L_take (lkp [(8, [])]) 60 rfl rfl ?_
  repeat' (first | refine And.intro ?_ ?_ | (with_reducible intro h9; exact absurd h9 (by simp only [cI, cN]; decide +kernel)) | with_reducible intro _ | exact (rfl : narrow _ _ = _) | decide | (unfold vp_in; decide) | refine Eq.mpr (fL_eq _ _) ?_ | refine Eq.mpr (fW_eq _ _) ?_ | refine Eq.mpr (fN_eq _ _) ?_)
  refine cci 31 (K0 := ansCR t (fun o => o = oTake N F.B.1 x)) (KX0 := excCR t [(2, 1), (1, 2)] (fun o => o = oTake N F.B.1 x)) (Spec.mono (c_take hg I x) (fun _ _ h => ⟨_, rfl, h⟩) (fun _ _ h => ⟨_, rfl, h⟩)) (by decide) (by decide) (by decide) rfl rfl ?_ (fun z w' h => lX rfl h h9)
  rintro _ _ ⟨o, hR, y, N1, ho, rfl, F', E', H', r', X', ht', P', S', sd', er', t', rfl, I', kp⟩
  refine aw_las hg ok_L_take cut0 60 (pc := 8) rfl (kp 9 _ (by omega) h9 nB_l) (by unfold vp_in; decide) ?_
  exact lK_ret hR ho I' kp h9

set_option maxRecDepth 20000 in
theorem l_ring (hg : gOK G) (I : cV F E H r X S sd er t N) {fo : Nat → Int64} (h9 : nth t 9 = some (oL fo)) (x : Int32) : Spec G 11 51 1710 m_L_ring [.ref 0, .int x, .ref 40] (ww F E H r X ht P S sd er t) (lK (fun o => o = oRing N F.B.1 x) t) NX := by
  refine wp_spec (M := M_L_ring) hg ok_L_ring (lkp [(8, [])]) 60 rfl rfl ?_
  repeat' (first | refine And.intro ?_ ?_ | (with_reducible intro h9; exact absurd h9 (by simp only [cI, cN]; decide +kernel)) | with_reducible intro _ | exact (rfl : narrow _ _ = _) | decide | (unfold vp_in; decide) | refine Eq.mpr (fL_eq _ _) ?_ | refine Eq.mpr (fW_eq _ _) ?_ | refine Eq.mpr (fN_eq _ _) ?_)
  refine cci 31 (K0 := ansCR t (fun o => o = oRing N F.B.1 x)) (KX0 := excCR t [(2, 1), (1, 2)] (fun o => o = oRing N F.B.1 x)) (Spec.mono (c_ring hg I x) (fun _ _ h => ⟨_, rfl, h⟩) (fun _ _ h => ⟨_, rfl, h⟩)) (by decide) (by decide) (by decide) rfl rfl ?_ (fun z w' h => lX rfl h h9)
  rintro _ _ ⟨o, hR, y, N1, ho, rfl, F', E', H', r', X', ht', P', S', sd', er', t', rfl, I', kp⟩
  refine aw_las hg ok_L_ring cut0 60 (pc := 8) rfl (kp 9 _ (by omega) h9 nB_l) (by unfold vp_in; decide) ?_
  exact lK_ret hR ho I' kp h9

set_option maxRecDepth 20000 in
theorem l_file (hg : gOK G) (I : cV F E H r X S sd er t N) {fo : Nat → Int64} (h9 : nth t 9 = some (oL fo)) (x y : Int32) : Spec G 11 51 1710 m_L_file [.ref 0, .int x, .int y, .ref 40] (ww F E H r X ht P S sd er t) (lK (fun o => o = oFile N F.B.1 x y) t) NX := by
  refine wp_spec (M := M_L_file) hg ok_L_file (lkp [(9, [])]) 60 rfl rfl ?_
  repeat' (first | refine And.intro ?_ ?_ | (with_reducible intro h9; exact absurd h9 (by simp only [cI, cN]; decide +kernel)) | with_reducible intro _ | exact (rfl : narrow _ _ = _) | decide | (unfold vp_in; decide) | refine Eq.mpr (fL_eq _ _) ?_ | refine Eq.mpr (fW_eq _ _) ?_ | refine Eq.mpr (fN_eq _ _) ?_)
  refine cci 31 (K0 := ansCR t (fun o => o = oFile N F.B.1 x y)) (KX0 := excCR t [(2, 1), (0, 2), (1, 3)] (fun o => o = oFile N F.B.1 x y)) (Spec.mono (c_file hg I x y) (fun _ _ h => ⟨_, rfl, h⟩) (fun _ _ h => ⟨_, rfl, h⟩)) (by decide) (by decide) (by decide) rfl rfl ?_ (fun z w' h => lX rfl h h9)
  rintro _ _ ⟨o, hR, y, N1, ho, rfl, F', E', H', r', X', ht', P', S', sd', er', t', rfl, I', kp⟩
  refine aw_las hg ok_L_file cut0 60 (pc := 9) rfl (kp 9 _ (by omega) h9 nB_l) (by unfold vp_in; decide) ?_
  exact lK_ret hR ho I' kp h9

set_option maxRecDepth 20000 in
theorem l_recast (hg : gOK G) (I : cV F E H r X S sd er t N) {fo : Nat → Int64} (h9 : nth t 9 = some (oL fo)) (x : Int32) : Spec G 11 51 1710 m_L_recast [.ref 0, .int x, .ref 40] (ww F E H r X ht P S sd er t) (lK (fun o => o = oRecast N F.B.1 x) t) NX := by
  refine wp_spec (M := M_L_recast) hg ok_L_recast (lkp [(8, [])]) 60 rfl rfl ?_
  repeat' (first | refine And.intro ?_ ?_ | (with_reducible intro h9; exact absurd h9 (by simp only [cI, cN]; decide +kernel)) | with_reducible intro _ | exact (rfl : narrow _ _ = _) | decide | (unfold vp_in; decide) | refine Eq.mpr (fL_eq _ _) ?_ | refine Eq.mpr (fW_eq _ _) ?_ | refine Eq.mpr (fN_eq _ _) ?_)
  refine cci 31 (K0 := ansCR t (fun o => o = oRecast N F.B.1 x)) (KX0 := excCR t [(2, 1), (1, 2)] (fun o => o = oRecast N F.B.1 x)) (Spec.mono (c_recast hg I x) (fun _ _ h => ⟨_, rfl, h⟩) (fun _ _ h => ⟨_, rfl, h⟩)) (by decide) (by decide) (by decide) rfl rfl ?_ (fun z w' h => lX rfl h h9)
  rintro _ _ ⟨o, hR, y, N1, ho, rfl, F', E', H', r', X', ht', P', S', sd', er', t', rfl, I', kp⟩
  refine aw_las hg ok_L_recast cut0 60 (pc := 8) rfl (kp 9 _ (by omega) h9 nB_l) (by unfold vp_in; decide) ?_
  exact lK_ret hR ho I' kp h9

set_option maxRecDepth 20000 in
theorem l_bellOf (hg : gOK G) (I : cV F E H r X S sd er t N) {fo : Nat → Int64} (h9 : nth t 9 = some (oL fo)) (x y : Int32) : Spec G 11 51 1710 m_L_bellOf [.ref 0, .int x, .int y, .ref 40] (ww F E H r X ht P S sd er t) (lK (fun o => o = oTwo N F.B.1 7 N.b x y) t) NX := by
  refine wp_spec (M := M_L_bellOf) hg ok_L_bellOf (lkp [(9, [])]) 60 rfl rfl ?_
  repeat' (first | refine And.intro ?_ ?_ | (with_reducible intro h9; exact absurd h9 (by simp only [cI, cN]; decide +kernel)) | with_reducible intro _ | exact (rfl : narrow _ _ = _) | decide | (unfold vp_in; decide) | refine Eq.mpr (fL_eq _ _) ?_ | refine Eq.mpr (fW_eq _ _) ?_ | refine Eq.mpr (fN_eq _ _) ?_)
  refine cci 31 (K0 := ansCR t (fun o => o = oTwo N F.B.1 7 N.b x y)) (KX0 := excCR t [(2, 1), (0, 2)] (fun o => o = oTwo N F.B.1 7 N.b x y)) (Spec.mono (c_bellOf hg I x y) (fun _ _ h => ⟨_, rfl, h⟩) (fun _ _ h => ⟨_, rfl, h⟩)) (by decide) (by decide) (by decide) rfl rfl ?_ (fun z w' h => lX rfl h h9)
  rintro _ _ ⟨o, hR, y, N1, ho, rfl, F', E', H', r', X', ht', P', S', sd', er', t', rfl, I', kp⟩
  refine aw_las hg ok_L_bellOf cut0 60 (pc := 9) rfl (kp 9 _ (by omega) h9 nB_l) (by unfold vp_in; decide) ?_
  exact lK_ret hR ho I' kp h9

set_option maxRecDepth 20000 in
theorem l_note (hg : gOK G) (I : cV F E H r X S sd er t N) {fo : Nat → Int64} (h9 : nth t 9 = some (oL fo)) (x y : Int32) : Spec G 11 51 1710 m_L_note [.ref 0, .int x, .int y, .ref 40] (ww F E H r X ht P S sd er t) (lK (fun o => o = oOne N F.B.1 (gnote N.g) x) t) NX := by
  refine wp_spec (M := M_L_note) hg ok_L_note (lkp [(9, [])]) 60 rfl rfl ?_
  repeat' (first | refine And.intro ?_ ?_ | (with_reducible intro h9; exact absurd h9 (by simp only [cI, cN]; decide +kernel)) | with_reducible intro _ | exact (rfl : narrow _ _ = _) | decide | (unfold vp_in; decide) | refine Eq.mpr (fL_eq _ _) ?_ | refine Eq.mpr (fW_eq _ _) ?_ | refine Eq.mpr (fN_eq _ _) ?_)
  refine cci 31 (K0 := ansCR t (fun o => o = oOne N F.B.1 (gnote N.g) x)) (KX0 := excCR t [(2, 1)] (fun o => o = oOne N F.B.1 (gnote N.g) x)) (Spec.mono (c_note hg I x y) (fun _ _ h => ⟨_, rfl, h⟩) (fun _ _ h => ⟨_, rfl, h⟩)) (by decide) (by decide) (by decide) rfl rfl ?_ (fun z w' h => lX rfl h h9)
  rintro _ _ ⟨o, hR, y, N1, ho, rfl, F', E', H', r', X', ht', P', S', sd', er', t', rfl, I', kp⟩
  refine aw_las hg ok_L_note cut0 60 (pc := 9) rfl (kp 9 _ (by omega) h9 nB_l) (by unfold vp_in; decide) ?_
  exact lK_ret hR ho I' kp h9

set_option maxRecDepth 20000 in
theorem l_wouldCrack (hg : gOK G) (I : cV F E H r X S sd er t N) {fo : Nat → Int64} (h9 : nth t 9 = some (oL fo)) (x y : Int32) : Spec G 11 51 1710 m_L_wouldCrack [.ref 0, .int x, .int y, .ref 40] (ww F E H r X ht P S sd er t) (lK (fun o => o = oWould N F.B.1 x y) t) NX := by
  refine wp_spec (M := M_L_wouldCrack) hg ok_L_wouldCrack (lkp [(9, [])]) 60 rfl rfl ?_
  repeat' (first | refine And.intro ?_ ?_ | (with_reducible intro h9; exact absurd h9 (by simp only [cI, cN]; decide +kernel)) | with_reducible intro _ | exact (rfl : narrow _ _ = _) | decide | (unfold vp_in; decide) | refine Eq.mpr (fL_eq _ _) ?_ | refine Eq.mpr (fW_eq _ _) ?_ | refine Eq.mpr (fN_eq _ _) ?_)
  refine cci 31 (K0 := ansCR t (fun o => o = oWould N F.B.1 x y)) (KX0 := excCR t [(2, 1), (0, 2)] (fun o => o = oWould N F.B.1 x y)) (Spec.mono (c_would hg I x y) (fun _ _ h => ⟨_, rfl, h⟩) (fun _ _ h => ⟨_, rfl, h⟩)) (by decide) (by decide) (by decide) rfl rfl ?_ (fun z w' h => lX rfl h h9)
  rintro _ _ ⟨o, hR, y, N1, ho, rfl, F', E', H', r', X', ht', P', S', sd', er', t', rfl, I', kp⟩
  refine aw_las hg ok_L_wouldCrack cut0 60 (pc := 9) rfl (kp 9 _ (by omega) h9 nB_l) (by unfold vp_in; decide) ?_
  exact lK_ret hR ho I' kp h9

set_option maxRecDepth 20000 in
theorem l_coldIn (hg : gOK G) (I : cV F E H r X S sd er t N) {fo : Nat → Int64} (h9 : nth t 9 = some (oL fo)) (x : Int32) : Spec G 11 51 1710 m_L_coldIn [.ref 0, .int x, .ref 40] (ww F E H r X ht P S sd er t) (lK (fun o => o = oOne N F.B.1 (mhrs N.g F.B.1) x) t) NX := by
  refine wp_spec (M := M_L_coldIn) hg ok_L_coldIn (lkp [(8, [])]) 60 rfl rfl ?_
  repeat' (first | refine And.intro ?_ ?_ | (with_reducible intro h9; exact absurd h9 (by simp only [cI, cN]; decide +kernel)) | with_reducible intro _ | exact (rfl : narrow _ _ = _) | decide | (unfold vp_in; decide) | refine Eq.mpr (fL_eq _ _) ?_ | refine Eq.mpr (fW_eq _ _) ?_ | refine Eq.mpr (fN_eq _ _) ?_)
  refine cci 31 (K0 := ansCR t (fun o => o = oOne N F.B.1 (mhrs N.g F.B.1) x)) (KX0 := excCR t [(2, 1)] (fun o => o = oOne N F.B.1 (mhrs N.g F.B.1) x)) (Spec.mono (c_coldIn hg I x) (fun _ _ h => ⟨_, rfl, h⟩) (fun _ _ h => ⟨_, rfl, h⟩)) (by decide) (by decide) (by decide) rfl rfl ?_ (fun z w' h => lX rfl h h9)
  rintro _ _ ⟨o, hR, y, N1, ho, rfl, F', E', H', r', X', ht', P', S', sd', er', t', rfl, I', kp⟩
  refine aw_las hg ok_L_coldIn cut0 60 (pc := 8) rfl (kp 9 _ (by omega) h9 nB_l) (by unfold vp_in; decide) ?_
  exact lK_ret hR ho I' kp h9

set_option maxRecDepth 20000 in
theorem l_peal (hg : gOK G) (I : cV F E H r X S sd er t N) {fo : Nat → Int64} (h9 : nth t 9 = some (oL fo)) (x y : Int32) : Spec G 11 51 1710 m_L_peal [.ref 0, .int x, .int y, .ref 40] (ww F E H r X ht P S sd er t) (lK (okPeal N F.B.1 x) t) NX := by
  refine wp_spec (M := M_L_peal) hg ok_L_peal (lkp [(9, [])]) 60 rfl rfl ?_
  repeat' (first | refine And.intro ?_ ?_ | (with_reducible intro h9; exact absurd h9 (by simp only [cI, cN]; decide +kernel)) | with_reducible intro _ | exact (rfl : narrow _ _ = _) | decide | (unfold vp_in; decide) | refine Eq.mpr (fL_eq _ _) ?_ | refine Eq.mpr (fW_eq _ _) ?_ | refine Eq.mpr (fN_eq _ _) ?_)
  refine cci 31 (K0 := ansCR t (okPeal N F.B.1 x)) (KX0 := excCR t [(0, 1)] (okPeal N F.B.1 x)) (c_peal hg I x y) (by decide) (by decide) (by decide) rfl rfl ?_ (fun z w' h => lX rfl h h9)
  rintro _ _ ⟨o, hR, y, N1, ho, rfl, F', E', H', r', X', ht', P', S', sd', er', t', rfl, I', kp⟩
  refine aw_las hg ok_L_peal cut0 60 (pc := 9) rfl (kp 9 _ (by omega) h9 nB_l) (by unfold vp_in; decide) ?_
  exact lK_ret hR ho I' kp h9

set_option maxRecDepth 20000 in
theorem l_longest (hg : gOK G) (I : cV F E H r X S sd er t N) {fo : Nat → Int64} (h9 : nth t 9 = some (oL fo)) : Spec G 11 51 1710 m_L_longest [.ref 0, .ref 40] (ww F E H r X ht P S sd er t) (lK (okLong N F.B.1) t) NX := by
  refine wp_spec (M := M_L_longest) hg ok_L_longest (lkp [(7, [])]) 60 rfl rfl ?_
  repeat' (first | refine And.intro ?_ ?_ | (with_reducible intro h9; exact absurd h9 (by simp only [cI, cN]; decide +kernel)) | with_reducible intro _ | exact (rfl : narrow _ _ = _) | decide | (unfold vp_in; decide) | refine Eq.mpr (fL_eq _ _) ?_ | refine Eq.mpr (fW_eq _ _) ?_ | refine Eq.mpr (fN_eq _ _) ?_)
  refine cci 31 (K0 := ansCR t (okLong N F.B.1)) (KX0 := excCR t [(3, 1)] (okLong N F.B.1)) (c_long hg I) (by decide) (by decide) (by decide) rfl rfl ?_ (fun z w' h => lX rfl h h9)
  rintro _ _ ⟨o, hR, y, N1, ho, rfl, F', E', H', r', X', ht', P', S', sd', er', t', rfl, I', kp⟩
  refine aw_las hg ok_L_longest cut0 60 (pc := 7) rfl (kp 9 _ (by omega) h9 nB_l) (by unfold vp_in; decide) ?_
  exact lK_ret hR ho I' kp h9

set_option maxRecDepth 20000 in
theorem l_ranked (hg : gOK G) (I : cV F E H r X S sd er t N) {fo : Nat → Int64} (h9 : nth t 9 = some (oL fo)) (x : Int32) : Spec G 11 51 1710 m_L_ranked [.ref 0, .int x, .ref 40] (ww F E H r X ht P S sd er t) (lK (okRank N F.B.1 x) t) NX := by
  refine wp_spec (M := M_L_ranked) hg ok_L_ranked (lkp [(8, [])]) 60 rfl rfl ?_
  repeat' (first | refine And.intro ?_ ?_ | (with_reducible intro h9; exact absurd h9 (by simp only [cI, cN]; decide +kernel)) | with_reducible intro _ | exact (rfl : narrow _ _ = _) | decide | (unfold vp_in; decide) | refine Eq.mpr (fL_eq _ _) ?_ | refine Eq.mpr (fW_eq _ _) ?_ | refine Eq.mpr (fN_eq _ _) ?_)
  refine cci 31 (K0 := ansCR t (okRank N F.B.1 x)) (KX0 := excCR t [(3, 1)] (okRank N F.B.1 x)) (c_rank hg I x) (by decide) (by decide) (by decide) rfl rfl ?_ (fun z w' h => lX rfl h h9)
  rintro _ _ ⟨o, hR, y, N1, ho, rfl, F', E', H', r', X', ht', P', S', sd', er', t', rfl, I', kp⟩
  refine aw_las hg ok_L_ranked cut0 60 (pc := 8) rfl (kp 9 _ (by omega) h9 nB_l) (by unfold vp_in; decide) ?_
  exact lK_ret hR ho I' kp h9

set_option maxRecDepth 20000 in
theorem l_first (hg : gOK G) (I : cV F E H r X S sd er t N) {fo : Nat → Int64} (h9 : nth t 9 = some (oL fo)) : Spec G 11 51 1710 m_L_first [.ref 0, .ref 40] (ww F E H r X ht P S sd er t) (lK (okFirst (dF F) N) t) NX := by
  refine wp_spec (M := M_L_first) hg ok_L_first (lkp [(7, [])]) 60 rfl rfl ?_
  repeat' (first | refine And.intro ?_ ?_ | (with_reducible intro h9; exact absurd h9 (by simp only [cI, cN]; decide +kernel)) | with_reducible intro _ | exact (rfl : narrow _ _ = _) | decide | (unfold vp_in; decide) | refine Eq.mpr (fL_eq _ _) ?_ | refine Eq.mpr (fW_eq _ _) ?_ | refine Eq.mpr (fN_eq _ _) ?_)
  refine cci 31 (K0 := ansCR t (okFirst (dF F) N)) (KX0 := excCR t [(3, 1)] (okFirst (dF F) N)) (c_first hg I) (by decide) (by decide) (by decide) rfl rfl ?_ (fun z w' h => lX rfl h h9)
  rintro _ _ ⟨o, hR, y, N1, ho, rfl, F', E', H', r', X', ht', P', S', sd', er', t', rfl, I', kp⟩
  refine aw_las hg ok_L_first cut0 60 (pc := 7) rfl (kp 9 _ (by omega) h9 nB_l) (by unfold vp_in; decide) ?_
  exact lK_ret hR ho I' kp h9

set_option maxRecDepth 20000 in
theorem l_line (hg : gOK G) (I : cV F E H r X S sd er t N) {fo : Nat → Int64} (h9 : nth t 9 = some (oL fo)) (x : Int32) : Spec G 11 51 1710 m_L_line [.ref 0, .int x, .ref 40] (ww F E H r X ht P S sd er t) (lK (okLine N F.B.1 x) t) NX := by
  refine wp_spec (M := M_L_line) hg ok_L_line (lkp [(8, [])]) 60 rfl rfl ?_
  repeat' (first | refine And.intro ?_ ?_ | (with_reducible intro h9; exact absurd h9 (by simp only [cI, cN]; decide +kernel)) | with_reducible intro _ | exact (rfl : narrow _ _ = _) | decide | (unfold vp_in; decide) | refine Eq.mpr (fL_eq _ _) ?_ | refine Eq.mpr (fW_eq _ _) ?_ | refine Eq.mpr (fN_eq _ _) ?_)
  refine cci 31 (K0 := ansCR t (okLine N F.B.1 x)) (KX0 := excCR t [(2, 1)] (okLine N F.B.1 x)) (c_line hg I x) (by decide) (by decide) (by decide) rfl rfl ?_ (fun z w' h => lX rfl h h9)
  rintro _ _ ⟨o, hR, y, N1, ho, rfl, F', E', H', r', X', ht', P', S', sd', er', t', rfl, I', kp⟩
  refine aw_las hg ok_L_line cut0 60 (pc := 8) rfl (kp 9 _ (by omega) h9 nB_l) (by unfold vp_in; decide) ?_
  exact lK_ret hR ho I' kp h9

set_option maxRecDepth 20000 in
theorem l_rackLine (hg : gOK G) (I : cV F E H r X S sd er t N) {fo : Nat → Int64} (h9 : nth t 9 = some (oL fo)) (x : Int32) : Spec G 11 51 1710 m_L_rackLine [.ref 0, .int x, .ref 40] (ww F E H r X ht P S sd er t) (lK (okRl N F.R.1 F.B.1 (wF F) x) t) NX := by
  refine wp_spec (M := M_L_rackLine) hg ok_L_rackLine (lkp [(8, [])]) 60 rfl rfl ?_
  repeat' (first | refine And.intro ?_ ?_ | (with_reducible intro h9; exact absurd h9 (by simp only [cI, cN]; decide +kernel)) | with_reducible intro _ | exact (rfl : narrow _ _ = _) | decide | (unfold vp_in; decide) | refine Eq.mpr (fL_eq _ _) ?_ | refine Eq.mpr (fW_eq _ _) ?_ | refine Eq.mpr (fN_eq _ _) ?_)
  refine cci 31 (K0 := ansCR t (okRl N F.R.1 F.B.1 (wF F) x)) (KX0 := excCR t [(2, 1)] (okRl N F.R.1 F.B.1 (wF F) x)) (c_rl hg I x) (by decide) (by decide) (by decide) rfl rfl ?_ (fun z w' h => lX rfl h h9)
  rintro _ _ ⟨o, hR, y, N1, ho, rfl, F', E', H', r', X', ht', P', S', sd', er', t', rfl, I', kp⟩
  refine aw_las hg ok_L_rackLine cut0 60 (pc := 8) rfl (kp 9 _ (by omega) h9 nB_l) (by unfold vp_in; decide) ?_
  exact lK_ret hR ho I' kp h9

set_option maxRecDepth 20000 in
theorem l_append (hg : gOK G) (I : cV F E H r X S sd er t N) {fo : Nat → Int64} (h9 : nth t 9 = some (oL fo)) (x : Int32) (hx : vp_nar .char x = x) : Spec G 11 51 1710 m_L_append [.ref 0, .int x, .ref 40] (ww F E H r X ht P S sd er t) (lK (fun o => o = oAppend N X.2.2.2.1 x) t) NX := by
  refine wp_spec (M := M_L_append) hg ok_L_append (lkp [(8, [])]) 60 rfl rfl ?_
  repeat' (first | refine And.intro ?_ ?_ | (with_reducible intro h9; exact absurd h9 (by simp only [cI, cN]; decide +kernel)) | with_reducible intro _ | exact (rfl : narrow _ _ = _) | decide | (unfold vp_in; decide) | refine Eq.mpr (fL_eq _ _) ?_ | refine Eq.mpr (fW_eq _ _) ?_ | refine Eq.mpr (fN_eq _ _) ?_)
  refine cci 31 (K0 := ansCR t (fun o => o = oAppend N X.2.2.2.1 x)) (KX0 := excCR t [(4, 1)] (fun o => o = oAppend N X.2.2.2.1 x)) (Spec.mono (c_append hg I x hx) (fun _ _ h => ⟨_, rfl, h⟩) (fun _ _ h => ⟨_, rfl, h⟩)) (by decide) (by decide) (by decide) rfl rfl ?_ (fun z w' h => lX rfl h h9)
  rintro _ _ ⟨o, hR, y, N1, ho, rfl, F', E', H', r', X', ht', P', S', sd', er', t', rfl, I', kp⟩
  refine aw_las hg ok_L_append cut0 60 (pc := 8) rfl (kp 9 _ (by omega) h9 nB_l) (by unfold vp_in; decide) ?_
  exact lK_ret hR ho I' kp h9

set_option maxRecDepth 20000 in
theorem l_run (hg : gOK G) (I : cV F E H r X S sd er t N) {fo : Nat → Int64} (h9 : nth t 9 = some (oL fo)) : Spec G 11 51 1710 m_L_run [.ref 0, .ref 40] (ww F E H r X ht P S sd er t) (lK (okRun N X.2.2.2.1) t) NX := by
  refine wp_spec (M := M_L_run) hg ok_L_run (lkp [(7, [])]) 60 rfl rfl ?_
  repeat' (first | refine And.intro ?_ ?_ | (with_reducible intro h9; exact absurd h9 (by simp only [cI, cN]; decide +kernel)) | with_reducible intro _ | exact (rfl : narrow _ _ = _) | decide | (unfold vp_in; decide) | refine Eq.mpr (fL_eq _ _) ?_ | refine Eq.mpr (fW_eq _ _) ?_ | refine Eq.mpr (fN_eq _ _) ?_)
  refine cci 31 (K0 := ansCR t (okRun N X.2.2.2.1)) (KX0 := excCR t [(0, 1), (1, 2)] (okRun N X.2.2.2.1)) (c_run hg I) (by decide) (by decide) (by decide) rfl rfl ?_ (fun z w' h => lX rfl h h9)
  rintro _ _ ⟨o, hR, y, N1, ho, rfl, F', E', H', r', X', ht', P', S', sd', er', t', rfl, I', kp⟩
  refine aw_las hg ok_L_run cut0 60 (pc := 7) rfl (kp 9 _ (by omega) h9 nB_l) (by unfold vp_in; decide) ?_
  exact lK_ret hR ho I' kp h9

set_option maxRecDepth 20000 in
theorem l_refusal (hg : gOK G) (I : cV F E H r X S sd er t N) {fo : Nat → Int64} (h9 : nth t 9 = some (oL fo)) (x : Int32) : Spec G 11 51 1710 m_L_refusal [.ref 0, .int x, .ref 40] (ww F E H r X ht P S sd er t) (lK (fun o => o = oRefusal N x) t) NX := by
  refine wp_spec (M := M_L_refusal) hg ok_L_refusal (lkp [(8, [])]) 60 rfl rfl ?_
  repeat' (first | refine And.intro ?_ ?_ | (with_reducible intro h9; exact absurd h9 (by simp only [cI, cN]; decide +kernel)) | with_reducible intro _ | exact (rfl : narrow _ _ = _) | decide | (unfold vp_in; decide) | refine Eq.mpr (fL_eq _ _) ?_ | refine Eq.mpr (fW_eq _ _) ?_ | refine Eq.mpr (fN_eq _ _) ?_)
  refine cci 31 (K0 := ansCR t (fun o => o = oRefusal N x)) (KX0 := excCR t [(3, 1)] (fun o => o = oRefusal N x)) (Spec.mono (c_refusal hg I x) (fun _ _ h => ⟨_, rfl, h⟩) (fun _ _ h => ⟨_, rfl, h⟩)) (by decide) (by decide) (by decide) rfl rfl ?_ (fun z w' h => lX rfl h h9)
  rintro _ _ ⟨o, hR, y, N1, ho, rfl, F', E', H', r', X', ht', P', S', sd', er', t', rfl, I', kp⟩
  refine aw_las hg ok_L_refusal cut0 60 (pc := 8) rfl (kp 9 _ (by omega) h9 nB_l) (by unfold vp_in; decide) ?_
  exact lK_ret hR ho I' kp h9

set_option maxRecDepth 20000 in
theorem l_account (hg : gOK G) (I : cV F E H r X S sd er t N) {fo : Nat → Int64} (h9 : nth t 9 = some (oL fo)) (x : Int32) : Spec G 11 51 1710 m_L_account [.ref 0, .int x, .ref 40] (ww F E H r X ht P S sd er t) (lK (fun o => o = oOne N 16 (gacc N F.B.1) x) t) NX := by
  refine wp_spec (M := M_L_account) hg ok_L_account (lkp [(8, [])]) 60 rfl rfl ?_
  repeat' (first | refine And.intro ?_ ?_ | (with_reducible intro h9; exact absurd h9 (by simp only [cI, cN]; decide +kernel)) | with_reducible intro _ | exact (rfl : narrow _ _ = _) | decide | (unfold vp_in; decide) | refine Eq.mpr (fL_eq _ _) ?_ | refine Eq.mpr (fW_eq _ _) ?_ | refine Eq.mpr (fN_eq _ _) ?_)
  refine cci 31 (K0 := ansCR t (fun o => o = oOne N 16 (gacc N F.B.1) x)) (KX0 := excCR t [(0, 1)] (fun o => o = oOne N 16 (gacc N F.B.1) x)) (Spec.mono (c_acc hg I x) (fun _ _ h => ⟨_, rfl, h⟩) (fun _ _ h => ⟨_, rfl, h⟩)) (by decide) (by decide) (by decide) rfl rfl ?_ (fun z w' h => lX rfl h h9)
  rintro _ _ ⟨o, hR, y, N1, ho, rfl, F', E', H', r', X', ht', P', S', sd', er', t', rfl, I', kp⟩
  refine aw_las hg ok_L_account cut0 60 (pc := 8) rfl (kp 9 _ (by omega) h9 nB_l) (by unfold vp_in; decide) ?_
  exact lK_ret hR ho I' kp h9

set_option maxRecDepth 20000 in
theorem l_undo (hg : gOK G) (I : cV F E H r X S sd er t N) {fo : Nat → Int64} (h9 : nth t 9 = some (oL fo)) : Spec G 11 51 1710 m_L_undo [.ref 0, .ref 40] (ww F E H r X ht P S sd er t) (lK (fun o => o = oUndo N H.2.1) t) NX := by
  refine wp_spec (M := M_L_undo) hg ok_L_undo (lkp [(7, [])]) 60 rfl rfl ?_
  repeat' (first | refine And.intro ?_ ?_ | (with_reducible intro h9; exact absurd h9 (by simp only [cI, cN]; decide +kernel)) | with_reducible intro _ | exact (rfl : narrow _ _ = _) | decide | (unfold vp_in; decide) | refine Eq.mpr (fL_eq _ _) ?_ | refine Eq.mpr (fW_eq _ _) ?_ | refine Eq.mpr (fN_eq _ _) ?_)
  refine cci 31 (K0 := ansCR t (fun o => o = oUndo N H.2.1)) (KX0 := excCR t [(4, 1)] (fun o => o = oUndo N H.2.1)) (Spec.mono (c_undo hg I) (fun _ _ h => ⟨_, rfl, h⟩) (fun _ _ h => ⟨_, rfl, h⟩)) (by decide) (by decide) (by decide) rfl rfl ?_ (fun z w' h => lX rfl h h9)
  rintro _ _ ⟨o, hR, y, N1, ho, rfl, F', E', H', r', X', ht', P', S', sd', er', t', rfl, I', kp⟩
  refine aw_las hg ok_L_undo cut0 60 (pc := 7) rfl (kp 9 _ (by omega) h9 nB_l) (by unfold vp_in; decide) ?_
  exact lK_ret hR ho I' kp h9

set_option maxRecDepth 20000 in
theorem l_restore (hg : gOK G) (I : cV F E H r X S sd er t N) {fo : Nat → Int64} (h9 : nth t 9 = some (oL fo)) : Spec G 11 51 1710 m_L_restore [.ref 0, .ref 40] (ww F E H r X ht P S sd er t) (lK (fun o => o = oRestore N) t) NX := by
  refine wp_spec (M := M_L_restore) hg ok_L_restore (lkp [(7, [])]) 60 rfl rfl ?_
  repeat' (first | refine And.intro ?_ ?_ | (with_reducible intro h9; exact absurd h9 (by simp only [cI, cN]; decide +kernel)) | with_reducible intro _ | exact (rfl : narrow _ _ = _) | decide | (unfold vp_in; decide) | refine Eq.mpr (fL_eq _ _) ?_ | refine Eq.mpr (fW_eq _ _) ?_ | refine Eq.mpr (fN_eq _ _) ?_)
  refine cci 31 (K0 := ansCR t (fun o => o = oRestore N)) (KX0 := excCR t [(4, 1)] (fun o => o = oRestore N)) (Spec.mono (c_restore hg I) (fun _ _ h => ⟨_, rfl, h⟩) (fun _ _ h => ⟨_, rfl, h⟩)) (by decide) (by decide) (by decide) rfl rfl ?_ (fun z w' h => lX rfl h h9)
  rintro _ _ ⟨o, hR, y, N1, ho, rfl, F', E', H', r', X', ht', P', S', sd', er', t', rfl, I', kp⟩
  refine aw_las hg ok_L_restore cut0 60 (pc := 7) rfl (kp 9 _ (by omega) h9 nB_l) (by unfold vp_in; decide) ?_
  exact lK_ret hR ho I' kp h9

end LW
