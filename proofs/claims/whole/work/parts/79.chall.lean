/-! ===== peals, ranks, ways of pouring, means: the class's ===== -/
/-- an answer that keeps a relation -/
def ansCR (t : xW) (R : oA3 → Prop) (v : Option Value) (w' : xW) : Prop := ∃ o, R o ∧ ansC t o v w'
def excCR (t : xW) (hs : List (Nat × Int32)) (R : oA3 → Prop) (x : Nat) (w' : xW) : Prop := ∃ o, R o ∧ excC t hs o x w'
def ansRR (R : oA3 → Prop) (v : Option Value) (w' : xW) : Prop := ∃ o, R o ∧ ansR o v w'
def okPeal (N : nT) (nb : Nat) (x : Int32) (o : oA3) : Prop := (¬ (nI 0 ≤ x ∧ x ≤ nI 100) ∧ o = (1, 0, N.s_co (nI 1))) ∨ ((nI 0 ≤ x ∧ x ≤ nI 100) ∧ ∃ s, isLd (fun t => ghrd N.g nb (x + stepsF t)) s ∧ o = (0, nI s, N.s_co (nI 0)))
def okLong (N : nT) (nb : Nat) (o : oA3) : Prop := (cnt (ghal N.g) nb = 0 ∧ o = (1, 0, N.s_co (nI 1))) ∨ (¬ cnt (ghal N.g) nb = 0 ∧ ∃ b, isBst (fun x s => isLd (fun j => ghrd N.g nb (nI x + stepsF j)) s) 100 b ∧ o = (0, nI b, N.s_co (nI 0)))
def okRank (N : nT) (nb : Nat) (x : Int32) (o : oA3) : Prop := (∃ i, i < nb ∧ nI (cnt (gah N.g i) nb) = x ∧ o = (0, nI i, N.s_co (nI 0))) ∨ ((∀ j, j < nb → ¬ nI (cnt (gah N.g j) nb) = x) ∧ o = (1, 0, N.s_co (nI 1)))
def okPour (D : pT) (N : nT) (b : Int32) (o : oA3) : Prop := ∃ cb, (¬ b = 0 ∧ ∃ m, isMx D 0 m ∧ o = (0, nI m, (N.s_co (nI 0)).s_cb cb)) ∨ (b = 0 ∧ ∃ s q, sim D D.2.1 s q ∧ o = (0, nI (pc q), (N.s_co (nI 0)).s_cb cb))
def okFirst (D : pT) (N : nT) (o : oA3) : Prop := ∃ M cb, isMx D 0 M ∧ ((M = 0 ∧ o = (1, 0, (N.s_cb cb).s_co (nI 1))) ∨ (0 < M ∧ ∃ k, isFi D M k ∧ (∀ j, j < k → ¬ isFi D M j) ∧ o = (0, nI k, (N.s_co (nI 0)).s_cb cb)))
section RR
variable {G : gT}
set_option maxRecDepth 20000 in
theorem r_peal (hg : gOK G) (N : nT) (nb : Nat) (hb : N.nb nb) (x y : Int32) : Spec G 5 0 0 m_X9_peal [.ref 0, .int x, .int y] (mw N) (ansRR (okPeal N nb x)) NX := by
  refine Spec.mono (mo_peal hg N nb hb x y) ?_ (fun _ _ h => h)
  rintro v w' (⟨h, rfl, b, rfl⟩ | ⟨h, s, hs, rfl, rfl⟩)
  · exact ⟨_, Or.inl ⟨h, rfl⟩, ansR_n rfl rfl⟩
  · exact ⟨_, Or.inr ⟨h, s, hs, rfl⟩, ansR_y rfl rfl⟩
set_option maxRecDepth 20000 in
theorem r_long (hg : gOK G) (N : nT) (nb : Nat) (hb : N.nb nb) : Spec G 5 0 0 m_X9_longest [.ref 0] (mw N) (ansRR (okLong N nb)) NX := by
  refine Spec.mono (mo_long hg N nb hb) ?_ (fun _ _ h => h)
  rintro v w' (⟨h, rfl, b, rfl⟩ | ⟨h, s, hs, rfl, rfl⟩)
  · exact ⟨_, Or.inl ⟨h, rfl⟩, ansR_n rfl rfl⟩
  · exact ⟨_, Or.inr ⟨by omega, s, hs, rfl⟩, ansR_y rfl rfl⟩
set_option maxRecDepth 20000 in
theorem r_rank (hg : gOK G) (N : nT) (nb : Nat) (hb : N.nb nb) (x : Int32) : Spec G 3 0 0 m_X9_ranked [.ref 0, .int x] (mw N) (ansRR (okRank N nb x)) NX := by
  refine Spec.mono (mo_rank hg N nb hb x) ?_ (fun _ _ h => h)
  rintro v w' (⟨i, hi, h, rfl, rfl⟩ | ⟨h, rfl, b, rfl⟩)
  · exact ⟨_, Or.inl ⟨i, hi, h, rfl⟩, ansR_y rfl rfl⟩
  · exact ⟨_, Or.inr ⟨h, rfl⟩, ansR_n rfl rfl⟩
set_option maxRecDepth 20000 in
theorem r_pourable (hg : gOK G) (N : nT) (D : pT) (hd : gD D N.g) (b : Int32) : Spec G 5 0 0 m_X9_pourable [.ref 0, .int b] (mw N) (ansRR (okPour D N b)) NX := by
  refine Spec.mono (mo_pourable hg N D hd b) ?_ (fun _ _ h => h)
  rintro v w' (⟨h, m, h8, hm, rfl, cb, rfl⟩ | ⟨h, s, q, hs, rfl, rfl⟩)
  · exact ⟨_, ⟨cb, Or.inl ⟨h, m, hm, rfl⟩⟩, ansR_y rfl rfl⟩
  · exact ⟨_, ⟨N.cb, Or.inr ⟨h, s, q, hs, rfl⟩⟩, ansR_y rfl rfl⟩
set_option maxRecDepth 20000 in
theorem r_first (hg : gOK G) (N : nT) (D : pT) (hd : gD D N.g) : Spec G 5 0 0 m_X9_first [.ref 0] (mw N) (ansRR (okFirst D N)) NX := by
  refine Spec.mono (mo_first hg N D hd) ?_ (fun _ _ h => h)
  rintro v w' ⟨M, hM, ⟨h, y, cb, rfl, rfl⟩ | ⟨h, k, cb, h1, h2, rfl, rfl⟩⟩
  · exact ⟨_, ⟨M, cb, hM, Or.inl ⟨h, rfl⟩⟩, ansR_n rfl rfl⟩
  · exact ⟨_, ⟨M, cb, hM, Or.inr ⟨h, k, h1, h2, rfl⟩⟩, ansR_y rfl rfl⟩
end RR
section CO
variable {G : gT} {F E : fT} {H : hT} {r : Int32 × Int32} {X : xT} {ht : Nat → Int32} {P : pT7} {S : sT4} {sd : Value} {er : Int32} {t : xW} {N : nT}
theorem cV_cb (I : cV F E H r X S sd er t N) (cb : Nat → Int32) : cV F E H r X S sd er t (N.s_cb cb) := by
  obtain ⟨⟨a1, a2, a3⟩, ⟨b1, b2⟩, c, d, e, f, z⟩ := I
  exact ⟨⟨a1, a2, a3⟩, ⟨b1, b2⟩, c, d, e, f.tq tq.rf rfl rfl, z⟩
theorem cEnd_cb (I : cV F E H r X S sd er t N) (cb : Nat → Int32) (k : Int32) : cEnd t ((N.s_co k).s_cb cb) (ww F E H r X ht P S sd er t) :=
  ⟨_, _, _, _, _, _, _, _, _, _, _, rfl, cV_cb (cV_co I k) cb, keep11.rf⟩
theorem tld_ok {F : fT} {t : Nat → Int32} {k : Nat} (h : tld F t k) : ∀ q, q < 113 → t q = nI 0 ∨ t q = nI 1 := fun q hq => (h q hq).elim (fun z => Or.inr z.1) (fun z => Or.inl z.1)
set_option maxRecDepth 20000 in
theorem c_peal (hg : gOK G) (I : cV F E H r X S sd er t N) (x y : Int32) : Spec G 7 8 150 m_X8_peal [.ref 0, .int x, .int y] (ww F E H r X ht P S sd er t) (ansCR t (okPeal N F.B.1 x)) (excCR t [(0, 1)] (okPeal N F.B.1 x)) := by
  refine wp_spec (M := M_X8_peal) hg ok_X8_peal cut0 60 rfl rfl ?_
  repeat' (first | refine And.intro ?_ ?_ | (with_reducible intro h9; exact absurd h9 (by simp only [cI, cN]; decide +kernel)) | with_reducible intro _ | exact (rfl : narrow _ _ = _) | decide | (unfold vp_in; decide) | refine Eq.mpr (fL_eq _ _) ?_ | refine Eq.mpr (fW_eq _ _) ?_ | refine Eq.mpr (fN_eq _ _) ?_)
  refine ccn 31 [] (bc_within hg x (nI 0) (nI 100)) (by decide) (by decide) (by decide) rfl (by repeat' (first | exact trivial | refine And.intro ?_ ?_ | rfl)) (by first | rfl | (simp (discharger := omega) only [renVs, renV, rnI, cI, cN, ← nI_0, nI_ltI, nI_leI, nI_eq, nI_add, pk_mul, pk_sub, nI_clamp, vinI, not_true_eq_false, not_false_eq_true, iK0, iK1, iK2, iK3, iK4, iK5, iKm1, bK6, bK7, bK8, bK9, bK10, bK12, bK14, bK15, bK16, bK20, bK21, bK26, bK30, bK32, bK33, bK45, bK48, bK57, bK59, bK60, bK62, bK63, bK64, bK80, bK93, bK98, bK99, bK100, bK104, bK107, bK109, bK110, bK112, bK113, bK114, bK115, bK116, bK119, sK255, sK256, sK500, sK700, sK798, sK912, sK1400, sK2000])) ?_
  (rintro _ _ ⟨⟨rfl, q⟩ | ⟨rfl, q⟩, rfl⟩) <;> (repeat' (first | refine And.intro ?_ ?_ | (with_reducible intro h9; exact absurd h9 (by simp only [cI, cN]; decide +kernel)) | with_reducible intro _ | exact (rfl : narrow _ _ = _) | decide | (unfold vp_in; decide) | refine Eq.mpr (fL_eq _ _) ?_ | refine Eq.mpr (fW_eq _ _) ?_ | refine Eq.mpr (fN_eq _ _) ?_))
  · refine ccn 31 [1, 2, 3, 4, 5, 6, 7, 22, 23] (hl_gather hg F I.1.2.1.B ht) (by decide) (by decide) (by decide) rfl (by repeat' (first | exact trivial | refine And.intro ?_ ?_ | rfl)) (by first | rfl | (simp (discharger := omega) only [renVs, renV, rnI, cI, cN, ← nI_0, nI_ltI, nI_leI, nI_eq, nI_add, pk_mul, pk_sub, nI_clamp, vinI, not_true_eq_false, not_false_eq_true, iK0, iK1, iK2, iK3, iK4, iK5, iKm1, bK6, bK7, bK8, bK9, bK10, bK12, bK14, bK15, bK16, bK20, bK21, bK26, bK30, bK32, bK33, bK45, bK48, bK57, bK59, bK60, bK62, bK63, bK64, bK80, bK93, bK98, bK99, bK100, bK104, bK107, bK109, bK110, bK112, bK113, bK114, bK115, bK116, bK119, sK255, sK256, sK500, sK700, sK798, sK912, sK1400, sK2000])) ?_
    (rintro _ _ ⟨rfl, t', k1, rfl⟩) <;> (repeat' (first | refine And.intro ?_ ?_ | (with_reducible intro h9; exact absurd h9 (by simp only [cI, cN]; decide +kernel)) | with_reducible intro _ | exact (rfl : narrow _ _ = _) | decide | (unfold vp_in; decide) | refine Eq.mpr (fL_eq _ _) ?_ | refine Eq.mpr (fW_eq _ _) ?_ | refine Eq.mpr (fN_eq _ _) ?_))
    refine ccn 31 [22, 23] (hl_peal hg t' (tld_ok k1) x) (by decide) (by decide) (by decide) rfl (by repeat' (first | exact trivial | refine And.intro ?_ ?_ | rfl)) (by first | rfl | (simp (discharger := omega) only [renVs, renV, rnI, cI, cN, ← nI_0, nI_ltI, nI_leI, nI_eq, nI_add, pk_mul, pk_sub, nI_clamp, vinI, not_true_eq_false, not_false_eq_true, iK0, iK1, iK2, iK3, iK4, iK5, iKm1, bK6, bK7, bK8, bK9, bK10, bK12, bK14, bK15, bK16, bK20, bK21, bK26, bK30, bK32, bK33, bK45, bK48, bK57, bK59, bK60, bK62, bK63, bK64, bK80, bK93, bK98, bK99, bK100, bK104, bK107, bK109, bK110, bK112, bK113, bK114, bK115, bK116, bK119, sK255, sK256, sK500, sK700, sK798, sK912, sK1400, sK2000])) ?_
    (rintro _ _ ⟨⟨s, hs, rfl⟩, rfl⟩) <;> (repeat' (first | refine And.intro ?_ ?_ | (with_reducible intro h9; exact absurd h9 (by simp only [cI, cN]; decide +kernel)) | with_reducible intro _ | exact (rfl : narrow _ _ = _) | decide | (unfold vp_in; decide) | refine Eq.mpr (fL_eq _ _) ?_ | refine Eq.mpr (fW_eq _ _) ?_ | refine Eq.mpr (fN_eq _ _) ?_))
    show ansCR t (okPeal N F.B.1 x) _ _
    obtain ⟨k, k0, k9, rfl⟩ := btw (by omega) (by omega) q
    exact ⟨_, Or.inr ⟨q, s, isLd_cg hs fun j hj => (told_F k1 k9 hj).trans (hrd_F I.1.1 I.1.2.1 _), rfl⟩, ansC_y rfl rfl (cEnd_co I _)⟩
  · refine ccn 31 [1, 2, 3, 4, 5, 6, 7] (fd_peal hg F I.1.2.1.B x) (by decide) (by decide) (by decide) rfl (by repeat' (first | exact trivial | refine And.intro ?_ ?_ | rfl)) (by first | rfl | (simp (discharger := omega) only [renVs, renV, rnI, cI, cN, ← nI_0, nI_ltI, nI_leI, nI_eq, nI_add, pk_mul, pk_sub, nI_clamp, vinI, not_true_eq_false, not_false_eq_true, iK0, iK1, iK2, iK3, iK4, iK5, iKm1, bK6, bK7, bK8, bK9, bK10, bK12, bK14, bK15, bK16, bK20, bK21, bK26, bK30, bK32, bK33, bK45, bK48, bK57, bK59, bK60, bK62, bK63, bK64, bK80, bK93, bK98, bK99, bK100, bK104, bK107, bK109, bK110, bK112, bK113, bK114, bK115, bK116, bK119, sK255, sK256, sK500, sK700, sK798, sK912, sK1400, sK2000])) ?_
    (rintro _ _ ⟨⟨s, hs, rfl⟩, rfl⟩) <;> (repeat' (first | refine And.intro ?_ ?_ | (with_reducible intro h9; exact absurd h9 (by simp only [cI, cN]; decide +kernel)) | with_reducible intro _ | exact (rfl : narrow _ _ = _) | decide | (unfold vp_in; decide) | refine Eq.mpr (fL_eq _ _) ?_ | refine Eq.mpr (fW_eq _ _) ?_ | refine Eq.mpr (fN_eq _ _) ?_))
    show ansCR t (okPeal N F.B.1 x) _ _
    exact ⟨_, Or.inr ⟨q, s, isLd_cg hs fun j hj => hrd_F I.1.1 I.1.2.1 _, rfl⟩, ansC_y rfl rfl (cEnd_co I _)⟩
  · show excCR t [(0, 1)] (okPeal N F.B.1 x) 0 _
    exact ⟨_, Or.inl ⟨q, rfl⟩, excC_n rfl rfl (cEnd_co I _)⟩
set_option maxRecDepth 20000 in
theorem c_long (hg : gOK G) (I : cV F E H r X S sd er t N) : Spec G 7 8 150 m_X8_longest [.ref 0] (ww F E H r X ht P S sd er t) (ansCR t (okLong N F.B.1)) (excCR t [(3, 1)] (okLong N F.B.1)) := by
  have eo : cnt (ghal N.g) F.B.1 = F.on (-1) := ghal_F I.1.1 I.1.2.1
  have hc : cnt (ghal N.g) F.B.1 ≤ F.B.1 := cnt_le _ _
  have h12 := I.nb.2
  refine wp_spec (M := M_X8_longest) hg ok_X8_longest cut0 60 rfl rfl ?_
  repeat' (first | refine And.intro ?_ ?_ | (with_reducible intro h9; exact absurd h9 (by simp only [cI, cN]; decide +kernel)) | with_reducible intro _ | exact (rfl : narrow _ _ = _) | decide | (unfold vp_in; decide) | refine Eq.mpr (fL_eq _ _) ?_ | refine Eq.mpr (fW_eq _ _) ?_ | refine Eq.mpr (fN_eq _ _) ?_)
  refine ccn 31 [1, 2, 3, 4, 5, 6, 7] (fd_on hg F I.1.2.1.B (-1)) (by decide) (by decide) (by decide) rfl (by repeat' (first | exact trivial | refine And.intro ?_ ?_ | rfl)) (by first | rfl | (simp (discharger := omega) only [renVs, renV, rnI, cI, cN, ← nI_0, nI_ltI, nI_leI, nI_eq, nI_add, pk_mul, pk_sub, nI_clamp, vinI, not_true_eq_false, not_false_eq_true, iK0, iK1, iK2, iK3, iK4, iK5, iKm1, bK6, bK7, bK8, bK9, bK10, bK12, bK14, bK15, bK16, bK20, bK21, bK26, bK30, bK32, bK33, bK45, bK48, bK57, bK59, bK60, bK62, bK63, bK64, bK80, bK93, bK98, bK99, bK100, bK104, bK107, bK109, bK110, bK112, bK113, bK114, bK115, bK116, bK119, sK255, sK256, sK500, sK700, sK798, sK912, sK1400, sK2000])) ?_
  (rintro _ _ ⟨rfl, rfl⟩) <;> (repeat' (first | refine And.intro ?_ ?_ | (with_reducible intro h9; exact absurd h9 (by simp only [cI, cN]; decide +kernel)) | with_reducible intro _ | exact (rfl : narrow _ _ = _) | decide | (unfold vp_in; decide) | refine Eq.mpr (fL_eq _ _) ?_ | refine Eq.mpr (fW_eq _ _) ?_ | refine Eq.mpr (fN_eq _ _) ?_))
  · rename_i g
    have hz : ¬ cnt (ghal N.g) F.B.1 = 0 := fun z => g (by rw [← eo, z]; rfl)
    refine ccn 31 [1, 2, 3, 4, 5, 6, 7, 22, 23] (hl_gather hg F I.1.2.1.B ht) (by decide) (by decide) (by decide) rfl (by repeat' (first | exact trivial | refine And.intro ?_ ?_ | rfl)) (by first | rfl | (simp (discharger := omega) only [renVs, renV, rnI, cI, cN, ← nI_0, nI_ltI, nI_leI, nI_eq, nI_add, pk_mul, pk_sub, nI_clamp, vinI, not_true_eq_false, not_false_eq_true, iK0, iK1, iK2, iK3, iK4, iK5, iKm1, bK6, bK7, bK8, bK9, bK10, bK12, bK14, bK15, bK16, bK20, bK21, bK26, bK30, bK32, bK33, bK45, bK48, bK57, bK59, bK60, bK62, bK63, bK64, bK80, bK93, bK98, bK99, bK100, bK104, bK107, bK109, bK110, bK112, bK113, bK114, bK115, bK116, bK119, sK255, sK256, sK500, sK700, sK798, sK912, sK1400, sK2000])) ?_
    (rintro _ _ ⟨rfl, t', k1, rfl⟩) <;> (repeat' (first | refine And.intro ?_ ?_ | (with_reducible intro h9; exact absurd h9 (by simp only [cI, cN]; decide +kernel)) | with_reducible intro _ | exact (rfl : narrow _ _ = _) | decide | (unfold vp_in; decide) | refine Eq.mpr (fL_eq _ _) ?_ | refine Eq.mpr (fW_eq _ _) ?_ | refine Eq.mpr (fN_eq _ _) ?_))
    refine ccn 31 [22, 23] (hl_long hg t' (tld_ok k1) (isLd_ex _)) (by decide) (by decide) (by decide) rfl (by repeat' (first | exact trivial | refine And.intro ?_ ?_ | rfl)) (by first | rfl | (simp (discharger := omega) only [renVs, renV, rnI, cI, cN, ← nI_0, nI_ltI, nI_leI, nI_eq, nI_add, pk_mul, pk_sub, nI_clamp, vinI, not_true_eq_false, not_false_eq_true, iK0, iK1, iK2, iK3, iK4, iK5, iKm1, bK6, bK7, bK8, bK9, bK10, bK12, bK14, bK15, bK16, bK20, bK21, bK26, bK30, bK32, bK33, bK45, bK48, bK57, bK59, bK60, bK62, bK63, bK64, bK80, bK93, bK98, bK99, bK100, bK104, bK107, bK109, bK110, bK112, bK113, bK114, bK115, bK116, bK119, sK255, sK256, sK500, sK700, sK798, sK912, sK1400, sK2000])) ?_
    (rintro _ _ ⟨⟨b, hb, rfl⟩, rfl⟩) <;> (repeat' (first | refine And.intro ?_ ?_ | (with_reducible intro h9; exact absurd h9 (by simp only [cI, cN]; decide +kernel)) | with_reducible intro _ | exact (rfl : narrow _ _ = _) | decide | (unfold vp_in; decide) | refine Eq.mpr (fL_eq _ _) ?_ | refine Eq.mpr (fW_eq _ _) ?_ | refine Eq.mpr (fN_eq _ _) ?_))
    show ansCR t (okLong N F.B.1) _ _
    exact ⟨_, Or.inr ⟨hz, b, long_F I.1.1 I.1.2.1 k1 hb, rfl⟩, ansC_y rfl rfl (cEnd_co I _)⟩
  · rename_i g
    simp only [cN, Classical.not_not] at g
    have hz : cnt (ghal N.g) F.B.1 = 0 := by
      rw [← nI_0, nI_eq (by omega) (by omega)] at g
      rw [eo]; exact g
    show excCR t [(3, 1)] (okLong N F.B.1) 3 _
    exact ⟨_, Or.inl ⟨hz, rfl⟩, excC_n rfl rfl (cEnd_co I _)⟩
set_option maxRecDepth 20000 in
theorem c_rank (hg : gOK G) (I : cV F E H r X S sd er t N) (x : Int32) : Spec G 7 8 150 m_X8_ranked [.ref 0, .int x] (ww F E H r X ht P S sd er t) (ansCR t (okRank N F.B.1 x)) (excCR t [(3, 1)] (okRank N F.B.1 x)) := by
  have h8 := I.nb.2
  have eg : ∀ k, k < F.B.1 → cnt (gah N.g k) F.B.1 = cnt (ahd F k) F.B.1 := fun k hk => gah_F I.1.1 hk
  refine wp_spec (M := M_X8_ranked) hg ok_X8_ranked cut0 60 rfl rfl ?_
  repeat' (first | refine And.intro ?_ ?_ | (with_reducible intro h9; exact absurd h9 (by simp only [cI, cN]; decide +kernel)) | with_reducible intro _ | exact (rfl : narrow _ _ = _) | decide | (unfold vp_in; decide) | refine Eq.mpr (fL_eq _ _) ?_ | refine Eq.mpr (fW_eq _ _) ?_ | refine Eq.mpr (fN_eq _ _) ?_)
  refine ccn 31 [6, 7] (tb_has hg 12 8 F.B.1 F.B.2 x (by omega)) (by decide) (by decide) (by decide) rfl (by repeat' (first | exact trivial | refine And.intro ?_ ?_ | rfl)) (by first | rfl | (simp (discharger := omega) only [renVs, renV, rnI, cI, cN, ← nI_0, nI_ltI, nI_leI, nI_eq, nI_add, pk_mul, pk_sub, nI_clamp, vinI, not_true_eq_false, not_false_eq_true, iK0, iK1, iK2, iK3, iK4, iK5, iKm1, bK6, bK7, bK8, bK9, bK10, bK12, bK14, bK15, bK16, bK20, bK21, bK26, bK30, bK32, bK33, bK45, bK48, bK57, bK59, bK60, bK62, bK63, bK64, bK80, bK93, bK98, bK99, bK100, bK104, bK107, bK109, bK110, bK112, bK113, bK114, bK115, bK116, bK119, sK255, sK256, sK500, sK700, sK798, sK912, sK1400, sK2000])) ?_
  (rintro _ _ ⟨⟨rfl, q⟩ | ⟨rfl, q⟩, rfl⟩) <;> (repeat' (first | refine And.intro ?_ ?_ | (with_reducible intro h9; exact absurd h9 (by simp only [cI, cN]; decide +kernel)) | with_reducible intro _ | exact (rfl : narrow _ _ = _) | decide | (unfold vp_in; decide) | refine Eq.mpr (fL_eq _ _) ?_ | refine Eq.mpr (fW_eq _ _) ?_ | refine Eq.mpr (fN_eq _ _) ?_))
  · refine ccn 31 [1, 2, 3, 4, 5, 6, 7] (fd_place hg F I.1.2.1.B x) (by decide) (by decide) (by decide) rfl (by repeat' (first | exact trivial | refine And.intro ?_ ?_ | rfl)) (by first | rfl | (simp (discharger := omega) only [renVs, renV, rnI, cI, cN, ← nI_0, nI_ltI, nI_leI, nI_eq, nI_add, pk_mul, pk_sub, nI_clamp, vinI, not_true_eq_false, not_false_eq_true, iK0, iK1, iK2, iK3, iK4, iK5, iKm1, bK6, bK7, bK8, bK9, bK10, bK12, bK14, bK15, bK16, bK20, bK21, bK26, bK30, bK32, bK33, bK45, bK48, bK57, bK59, bK60, bK62, bK63, bK64, bK80, bK93, bK98, bK99, bK100, bK104, bK107, bK109, bK110, bK112, bK113, bK114, bK115, bK116, bK119, sK255, sK256, sK500, sK700, sK798, sK912, sK1400, sK2000])) ?_
    (rintro _ _ ⟨(⟨i, hi, k1, k2, rfl⟩ | ⟨k1, rfl⟩), rfl⟩) <;> (repeat' (first | refine And.intro ?_ ?_ | (with_reducible intro h9; exact absurd h9 (by simp only [cI, cN]; decide +kernel)) | with_reducible intro _ | exact (rfl : narrow _ _ = _) | decide | (unfold vp_in; decide) | refine Eq.mpr (fL_eq _ _) ?_ | refine Eq.mpr (fW_eq _ _) ?_ | refine Eq.mpr (fN_eq _ _) ?_))
    · show ansCR t (okRank N F.B.1 x) _ _
      exact ⟨_, Or.inl ⟨i, hi, by rw [eg i hi]; exact k1, rfl⟩, ansC_y rfl rfl (cEnd_co I _)⟩
    · exfalso
      obtain ⟨p, hp, rfl⟩ := q
      obtain ⟨i, hi, e⟩ := rank_ex (fun u => (F.note u).toNatClampNeg) hp
      exact k1 i hi (by rw [rank_F I.1.2.1 hi, e])
  · show excCR t [(3, 1)] (okRank N F.B.1 x) 3 _
    refine ⟨_, Or.inr ⟨fun j hj z => q ⟨cnt (gah N.g j) F.B.1, cnt_ltn (i := j) hj (fun z => ?_), z.symm⟩, rfl⟩, excC_n rfl rfl (cEnd_co I _)⟩
    unfold gah at z
    have z := of_decide_eq_true z
    rcases z with z | z
    · exact Int32.lt_irrefl z
    · omega
end CO
