/-! ===== undo, save, restore, append ===== -/
def oUndo (N : nT) (c : Nat) : oA3 := if c = 0 then (1, 0, N.s_co (nI 1)) else (0, nI (c - 1), ((N.s_co (nI 0)).s_ch (nI (c - 1))).s_g (cpo N.g N.kp (114 * (c - 1)) 0 114))
abbrev oSave (N : nT) : oA3 := (0, N.g 4, ((N.s_co (nI 0)).s_iS (nI 1)).s_sv (cpo N.sv N.g 0 0 114))
def oRestore (N : nT) : oA3 := if N.iS = nI 0 then (1, 0, N.s_co (nI 1)) else (0, N.sv 4, ((N.s_co (nI 0)).s_ch (nI 0)).s_g (cpo N.g N.sv 0 0 114))
def oAppend (N : nT) (n : Nat) (x : Int32) : oA3 := if n = 60 then (1, 0, N.s_co (nI 1)) else (0, nI (n + 1), ((N.s_co (nI 0)).s_ip (upd N.ip n x)).s_ln (nI (n + 1)))
section RR
variable {G : gT}
set_option maxRecDepth 20000 in
theorem r_undo (hg : gOK G) (N : nT) (c : Nat) (hc : N.ch = nI c) (hc8 : c ≤ 8) : Spec G 2 0 0 m_X9_undo [.ref 0] (mw N) (ansR (oUndo N c)) NX := by
  refine Spec.mono (mo_undo hg N c hc hc8) ?_ (fun _ _ h => h)
  rintro v w' (⟨h, rfl, b, rfl⟩ | ⟨h, rfl, rfl⟩)
  · exact ansR_n (if_pos h) rfl
  · exact ansR_y (if_neg (by omega)) rfl
set_option maxRecDepth 20000 in
theorem r_save (hg : gOK G) (N : nT) : Spec G 2 0 0 m_X9_save [.ref 0] (mw N) (ansR (oSave N)) NX := by
  refine Spec.mono (mo_save hg N) ?_ (fun _ _ h => h)
  rintro v w' ⟨rfl, rfl⟩
  exact ansR_y rfl rfl
set_option maxRecDepth 20000 in
theorem r_restore (hg : gOK G) (N : nT) (hs : N.iS = nI 0 ∨ N.iS = nI 1) : Spec G 2 0 0 m_X9_restore [.ref 0] (mw N) (ansR (oRestore N)) NX := by
  refine Spec.mono (mo_restore hg N hs) ?_ (fun _ _ h => h)
  rintro v w' (⟨h, rfl, b, rfl⟩ | ⟨h, rfl, rfl⟩)
  · exact ansR_n (if_pos h) rfl
  · exact ansR_y (if_neg (by rw [h, nI_eq (by omega) (by omega)]; omega)) rfl
set_option maxRecDepth 20000 in
theorem r_append (hg : gOK G) (N : nT) (n : Nat) (hn : N.ln = nI n) (hn6 : n ≤ 60) (x : Int32) : Spec G 2 0 0 m_X9_append [.ref 0, .int x] (mw N) (ansR (oAppend N n x)) NX := by
  refine Spec.mono (mo_append hg N n hn hn6 x) ?_ (fun _ _ h => h)
  rintro v w' (⟨h, rfl, b, rfl⟩ | ⟨h, rfl, rfl⟩)
  · exact ansR_n (if_pos h) rfl
  · exact ansR_y (if_neg (by omega)) rfl
end RR
section CO
variable {G : gT} {F E : fT} {H : hT} {r : Int32 × Int32} {X : xT} {ht : Nat → Int32} {P : pT7} {S : sT4} {sd : Value} {er : Int32} {t : xW} {N : nT}
theorem cpo_cpl {F : fT} {f g : Nat → Int32} (h : cpl F g) (i : fI F) : cpl F (cpo f g 0 0 114) := h.cg i fun q hq => by
  rw [cpo_in (by omega)]
  exact congrArg g (by omega)
theorem cV.ch (I : cV F E H r X S sd er t N) : N.ch = nI H.2.1 ∧ H.2.1 ≤ 8 := by
  obtain ⟨c, kf, DF, b, hs⟩ := I.2.1.1
  exact ⟨hs.2.1, hs.1.1.2.1⟩
set_option maxRecDepth 20000 in
theorem c_undo (hg : gOK G) (I : cV F E H r X S sd er t N) : Spec G 7 8 150 m_X8_undo [.ref 0] (ww F E H r X ht P S sd er t) (ansC t (oUndo N H.2.1)) (excC t [(4, 1)] (oUndo N H.2.1)) := by
  have h8 := I.ch.2
  by_cases z : H.2.1 = 0
  · have zz : nI H.2.1 = 0 := by rw [z]; rfl
    refine wp_spec (M := M_X8_undo) hg ok_X8_undo cut0 60 rfl rfl ?_
    repeat' (first | refine And.intro ?_ ?_ | (with_reducible intro h9; exact absurd h9 (by simp only [cI, cN]; decide +kernel)) | with_reducible intro _ | exact (rfl : narrow _ _ = _) | decide | (unfold vp_in; decide) | refine Eq.mpr (fL_eq _ _) ?_ | refine Eq.mpr (fW_eq _ _) ?_ | refine Eq.mpr (fN_eq _ _) ?_)
    refine cci 31 (hi_size hg) (by decide) (by decide) (by decide) (by first | rfl | (simp only [renVs]; rfl)) (by first | rfl | (simp (discharger := omega) only [renVs, renV, rnI, cI, cN, ← nI_0, nI_ltI, nI_leI, nI_eq, nI_add, pk_mul, pk_sub, nI_clamp, vinI, not_true_eq_false, not_false_eq_true, iK0, iK1, iK2, iK3, iK4, iK5, iKm1, bK6, bK7, bK8, bK9, bK10, bK12, bK14, bK15, bK16, bK20, bK21, bK26, bK30, bK32, bK33, bK45, bK48, bK57, bK59, bK60, bK62, bK63, bK64, bK80, bK93, bK98, bK99, bK100, bK104, bK107, bK109, bK110, bK112, bK113, bK114, bK115, bK116, bK119, sK255, sK256, sK500, sK700, sK798, sK912, sK1400, sK2000])) ?_ (fun _ _ h => h.elim)
    (rintro _ _ ⟨rfl, rfl⟩) <;> (repeat' (first | refine And.intro ?_ ?_ | (with_reducible intro h9; exact absurd h9 (by simp only [cI, cN]; decide +kernel)) | with_reducible intro _ | exact (rfl : narrow _ _ = _) | decide | (unfold vp_in; decide) | refine Eq.mpr (fL_eq _ _) ?_ | refine Eq.mpr (fW_eq _ _) ?_ | refine Eq.mpr (fN_eq _ _) ?_))
    · rename_i g
      exact absurd zz g
    · show excC t [(4, 1)] (oUndo N H.2.1) 4 _
      exact excC_n (if_pos z) rfl (cEnd_co I _)
  · have zz : ¬ nI H.2.1 = 0 := by rw [← nI_0, nI_eq (by omega) (by omega)]; exact z
    refine wp_spec (M := M_X8_undo) hg ok_X8_undo cut0 60 rfl rfl ?_
    repeat' (first | refine And.intro ?_ ?_ | (with_reducible intro h9; exact absurd h9 (by simp only [cI, cN]; decide +kernel)) | with_reducible intro _ | exact (rfl : narrow _ _ = _) | decide | (unfold vp_in; decide) | refine Eq.mpr (fL_eq _ _) ?_ | refine Eq.mpr (fW_eq _ _) ?_ | refine Eq.mpr (fN_eq _ _) ?_)
    refine cci 31 (hi_size hg) (by decide) (by decide) (by decide) (by first | rfl | (simp only [renVs]; rfl)) (by first | rfl | (simp (discharger := omega) only [renVs, renV, rnI, cI, cN, ← nI_0, nI_ltI, nI_leI, nI_eq, nI_add, pk_mul, pk_sub, nI_clamp, vinI, not_true_eq_false, not_false_eq_true, iK0, iK1, iK2, iK3, iK4, iK5, iKm1, bK6, bK7, bK8, bK9, bK10, bK12, bK14, bK15, bK16, bK20, bK21, bK26, bK30, bK32, bK33, bK45, bK48, bK57, bK59, bK60, bK62, bK63, bK64, bK80, bK93, bK98, bK99, bK100, bK104, bK107, bK109, bK110, bK112, bK113, bK114, bK115, bK116, bK119, sK255, sK256, sK500, sK700, sK798, sK912, sK1400, sK2000])) ?_ (fun _ _ h => h.elim)
    (rintro _ _ ⟨rfl, rfl⟩) <;> (repeat' (first | refine And.intro ?_ ?_ | (with_reducible intro h9; exact absurd h9 (by simp only [cI, cN]; decide +kernel)) | with_reducible intro _ | exact (rfl : narrow _ _ = _) | decide | (unfold vp_in; decide) | refine Eq.mpr (fL_eq _ _) ?_ | refine Eq.mpr (fW_eq _ _) ?_ | refine Eq.mpr (fN_eq _ _) ?_))
    · refine cci 31 (hi_back hg I.2.1.1 (by omega)) (by decide) (by decide) (by decide) (by first | rfl | (simp only [renVs]; rfl)) (by first | rfl | (simp (discharger := omega) only [renVs, renV, rnI, cI, cN, ← nI_0, nI_ltI, nI_leI, nI_eq, nI_add, pk_mul, pk_sub, nI_clamp, vinI, not_true_eq_false, not_false_eq_true, iK0, iK1, iK2, iK3, iK4, iK5, iKm1, bK6, bK7, bK8, bK9, bK10, bK12, bK14, bK15, bK16, bK20, bK21, bK26, bK30, bK32, bK33, bK45, bK48, bK57, bK59, bK60, bK62, bK63, bK64, bK80, bK93, bK98, bK99, bK100, bK104, bK107, bK109, bK110, bK112, bK113, bK114, bK115, bK116, bK119, sK255, sK256, sK500, sK700, sK798, sK912, sK1400, sK2000])) ?_ (fun _ _ h => h.elim)
      (rintro _ _ ⟨rfl, F', H', rfl, k1, k2, k3, k4⟩) <;> (repeat' (first | refine And.intro ?_ ?_ | (with_reducible intro h9; exact absurd h9 (by simp only [cI, cN]; decide +kernel)) | with_reducible intro _ | exact (rfl : narrow _ _ = _) | decide | (unfold vp_in; decide) | refine Eq.mpr (fL_eq _ _) ?_ | refine Eq.mpr (fW_eq _ _) ?_ | refine Eq.mpr (fN_eq _ _) ?_))
      refine cci 31 (hi_size hg) (by decide) (by decide) (by decide) (by first | rfl | (simp only [renVs]; rfl)) (by first | rfl | (simp (discharger := omega) only [renVs, renV, rnI, cI, cN, ← nI_0, nI_ltI, nI_leI, nI_eq, nI_add, pk_mul, pk_sub, nI_clamp, vinI, not_true_eq_false, not_false_eq_true, iK0, iK1, iK2, iK3, iK4, iK5, iKm1, bK6, bK7, bK8, bK9, bK10, bK12, bK14, bK15, bK16, bK20, bK21, bK26, bK30, bK32, bK33, bK45, bK48, bK57, bK59, bK60, bK62, bK63, bK64, bK80, bK93, bK98, bK99, bK100, bK104, bK107, bK109, bK110, bK112, bK113, bK114, bK115, bK116, bK119, sK255, sK256, sK500, sK700, sK798, sK912, sK1400, sK2000])) ?_ (fun _ _ h => h.elim)
      (rintro _ _ ⟨rfl, rfl⟩) <;> (repeat' (first | refine And.intro ?_ ?_ | (with_reducible intro h9; exact absurd h9 (by simp only [cI, cN]; decide +kernel)) | with_reducible intro _ | exact (rfl : narrow _ _ = _) | decide | (unfold vp_in; decide) | refine Eq.mpr (fL_eq _ _) ?_ | refine Eq.mpr (fW_eq _ _) ?_ | refine Eq.mpr (fN_eq _ _) ?_))
      show ansC t (oUndo N H.2.1) _ _
      refine ansC_y (if_neg z) (by rw [k1]) ?_
      obtain ⟨⟨a1, a2, a3⟩, ⟨b1, b2⟩, c, d, e, f, y⟩ := I
      exact ⟨_, _, _, _, _, _, _, _, _, _, _, rfl, ⟨⟨k2, k3, a3⟩, ⟨k4 _ rfl rfl rfl rfl, b2⟩, c, d, e, f.tq tq.rf rfl rfl, y⟩, keep11.rf⟩
    · rename_i g
      simp only [cN, Classical.not_not] at g
      exact absurd g zz
set_option maxRecDepth 20000 in
theorem c_save_t (hg : gOK G) (iF : fB F) (k bc bs : Nat) (D : fT) (hD : hblk t k D) {K : Option Value → xW → Prop} {KX : Nat → xW → Prop} (hK : K (some (.int (nI F.B.1))) (ww F E H r X ht P S (.ref (k + 31)) er (hput t k (fcp D F)))) : AW G M_X8_save 7 bc bs 18 [some (.ref 0)] [] (ww F E H r X ht P S (.ref (k + 31)) er t) K KX := by
  refine wp_ok (M := M_X8_save) hg ok_X8_save cut0 4 _ _ _ _ _ _ ?_
  refine aw_kv hg ok_X8_save cut0 60 (pc := 26) rfl rfl rfl (b := k + 31) hD.1 rfl ?_
  refine cci 31 (wb_cpTo hg k D hD iF) (by decide) (Nat.zero_le _) (Nat.zero_le _) rfl rfl ?_ (fun _ _ h => h.elim)
  rintro _ _ ⟨rfl, rfl⟩
  repeat' (first | refine And.intro ?_ ?_ | (with_reducible intro h9; exact absurd h9 (by simp only [cI, cN]; decide +kernel)) | with_reducible intro _ | exact (rfl : narrow _ _ = _) | decide | (unfold vp_in; decide) | refine Eq.mpr (fL_eq _ _) ?_ | refine Eq.mpr (fW_eq _ _) ?_ | refine Eq.mpr (fN_eq _ _) ?_)
  refine ccn 31 [6, 7] (tb_size hg 12 8 F.B.1 F.B.2) (by decide) (Nat.zero_le _) (Nat.zero_le _) rfl (by repeat' (first | exact trivial | refine And.intro ?_ ?_ | rfl)) rfl ?_
  rintro _ _ ⟨rfl, rfl⟩
  exact hK
set_option maxRecDepth 20000 in
theorem c_save (hg : gOK G) (I : cV F E H r X S sd er t N) : Spec G 7 8 150 m_X8_save [.ref 0] (ww F E H r X ht P S sd er t) (ansC t (oSave N)) NX := by
  have h4 : N.g 4 = nI F.B.1 := I.nb.1
  have h11 := I.len
  obtain ⟨⟨a1, a2, a3⟩, ⟨b1, b2⟩, c, d, e, f, y, y1, y2⟩ := I
  rcases hC_sd b1 with ⟨rfl, h1⟩ | ⟨k, D, rfl, h1, hk, hD, iD, _⟩
  · have hp := hC_save0 (N' := ((N.s_co (nI 0)).s_iS (nI 1)).s_sv (cpo N.sv N.g 0 0 114)) b1 h1 a2 h11 rfl rfl rfl (cpo_cpl a1 a2)
    refine wp_spec (M := M_X8_save) hg ok_X8_save (lkp [(18, [true])]) 60 rfl rfl ?_
    repeat' (first | refine And.intro ?_ ?_ | (with_reducible intro h9; exact absurd h9 (by simp only [cI, cN]; decide +kernel)) | with_reducible intro _ | exact (rfl : narrow _ _ = _) | decide | (unfold vp_in; decide) | refine Eq.mpr (fL_eq _ _) ?_ | refine Eq.mpr (fW_eq _ _) ?_ | refine Eq.mpr (fN_eq _ _) ?_)
    refine cci 31 (wb_new hg) (by decide) (by decide) (by decide) (by first | rfl | (simp only [renVs]; rfl)) (by first | rfl | (simp (discharger := omega) only [renVs, renV, rnI, cI, cN, ← nI_0, nI_ltI, nI_leI, nI_eq, nI_add, pk_mul, pk_sub, nI_clamp, vinI, not_true_eq_false, not_false_eq_true, iK0, iK1, iK2, iK3, iK4, iK5, iKm1, bK6, bK7, bK8, bK9, bK10, bK12, bK14, bK15, bK16, bK20, bK21, bK26, bK30, bK32, bK33, bK45, bK48, bK57, bK59, bK60, bK62, bK63, bK64, bK80, bK93, bK98, bK99, bK100, bK104, bK107, bK109, bK110, bK112, bK113, bK114, bK115, bK116, bK119, sK255, sK256, sK500, sK700, sK798, sK912, sK1400, sK2000])) ?_ (fun _ _ h => h.elim)
    (rintro _ _ ⟨rfl, rfl⟩) <;> (repeat' (first | refine And.intro ?_ ?_ | (with_reducible intro h9; exact absurd h9 (by simp only [cI, cN]; decide +kernel)) | with_reducible intro _ | exact (rfl : narrow _ _ = _) | decide | (unfold vp_in; decide) | refine Eq.mpr (fL_eq _ _) ?_ | refine Eq.mpr (fW_eq _ _) ?_ | refine Eq.mpr (fN_eq _ _) ?_))
    refine AW.cg (c_save_t (F := F) (E := E) (H := H) (r := r) (X := X) (ht := ht) (P := P) (S := S) (er := er) hg a2.B (lenL t) 1 12 f00 hblk_new ?_) rfl rfl rfl (by first | rfl | (simp (discharger := omega) only [msk, clr_i, clr_r, cI, cN, ← nI_0, nI_ltI, nI_leI, nI_eq, nI_add, pk_mul, pk_sub, nI_clamp, vinI, not_true_eq_false, not_false_eq_true, iK0, iK1, iK2, iK3, iK4, iK5, iKm1, bK6, bK7, bK8, bK9, bK10, bK12, bK14, bK15, bK16, bK20, bK21, bK26, bK30, bK32, bK33, bK45, bK48, bK57, bK59, bK60, bK62, bK63, bK64, bK80, bK93, bK98, bK99, bK100, bK104, bK107, bK109, bK110, bK112, bK113, bK114, bK115, bK116, bK119, sK255, sK256, sK500, sK700, sK798, sK912, sK1400, sK2000]; done) | (simp (discharger := omega) only [msk, clr_i, clr_r, cI, cN, ← nI_0, nI_ltI, nI_leI, nI_eq, nI_add, pk_mul, pk_sub, nI_clamp, vinI, not_true_eq_false, not_false_eq_true, iK0, iK1, iK2, iK3, iK4, iK5, iKm1, bK6, bK7, bK8, bK9, bK10, bK12, bK14, bK15, bK16, bK20, bK21, bK26, bK30, bK32, bK33, bK45, bK48, bK57, bK59, bK60, bK62, bK63, bK64, bK80, bK93, bK98, bK99, bK100, bK104, bK107, bK109, bK110, bK112, bK113, bK114, bK115, bK116, bK119, sK255, sK256, sK500, sK700, sK798, sK912, sK1400, sK2000]; rfl)) rfl rfl
    exact ansC_y (o := oSave N) rfl h4.symm ⟨_, _, _, _, _, _, _, _, _, _, _, rfl, ⟨⟨a1, a2, a3⟩, ⟨hp.1, b2⟩, c, d, e, f.tq hp.2 rfl rfl, y, hp.2 _ _ y1 (Or.inl (by omega)), y2⟩, keep11.tq hp.2⟩
  · have hp := hC_save1 (N' := ((N.s_co (nI 0)).s_iS (nI 1)).s_sv (cpo N.sv N.g 0 0 114)) b1 hD a2 rfl rfl rfl (cpo_cpl a1 a2)
    refine wp_spec (M := M_X8_save) hg ok_X8_save (lkp [(18, [true])]) 60 rfl rfl ?_
    repeat' (first | refine And.intro ?_ ?_ | (with_reducible intro h9; exact absurd h9 (by simp only [cI, cN]; decide +kernel)) | with_reducible intro _ | exact (rfl : narrow _ _ = _) | decide | (unfold vp_in; decide) | refine Eq.mpr (fL_eq _ _) ?_ | refine Eq.mpr (fW_eq _ _) ?_ | refine Eq.mpr (fN_eq _ _) ?_)
    refine AW.cg (c_save_t (F := F) (E := E) (H := H) (r := r) (X := X) (ht := ht) (P := P) (S := S) (er := er) hg a2.B k 8 150 D hD ?_) rfl rfl rfl (by first | rfl | (simp (discharger := omega) only [msk, clr_i, clr_r, cI, cN, ← nI_0, nI_ltI, nI_leI, nI_eq, nI_add, pk_mul, pk_sub, nI_clamp, vinI, not_true_eq_false, not_false_eq_true, iK0, iK1, iK2, iK3, iK4, iK5, iKm1, bK6, bK7, bK8, bK9, bK10, bK12, bK14, bK15, bK16, bK20, bK21, bK26, bK30, bK32, bK33, bK45, bK48, bK57, bK59, bK60, bK62, bK63, bK64, bK80, bK93, bK98, bK99, bK100, bK104, bK107, bK109, bK110, bK112, bK113, bK114, bK115, bK116, bK119, sK255, sK256, sK500, sK700, sK798, sK912, sK1400, sK2000]; done) | (simp (discharger := omega) only [msk, clr_i, clr_r, cI, cN, ← nI_0, nI_ltI, nI_leI, nI_eq, nI_add, pk_mul, pk_sub, nI_clamp, vinI, not_true_eq_false, not_false_eq_true, iK0, iK1, iK2, iK3, iK4, iK5, iKm1, bK6, bK7, bK8, bK9, bK10, bK12, bK14, bK15, bK16, bK20, bK21, bK26, bK30, bK32, bK33, bK45, bK48, bK57, bK59, bK60, bK62, bK63, bK64, bK80, bK93, bK98, bK99, bK100, bK104, bK107, bK109, bK110, bK112, bK113, bK114, bK115, bK116, bK119, sK255, sK256, sK500, sK700, sK798, sK912, sK1400, sK2000]; rfl)) rfl rfl
    exact ansC_y (o := oSave N) rfl h4.symm ⟨_, _, _, _, _, _, _, _, _, _, _, rfl, ⟨⟨a1, a2, a3⟩, ⟨hp.1, b2⟩, c, d, e, f.tq hp.2 rfl rfl, y, hp.2 _ _ y1 (Or.inl (by omega)), y2⟩, keep11.tq hp.2⟩
set_option maxRecDepth 20000 in
theorem c_restore (hg : gOK G) (I : cV F E H r X S sd er t N) : Spec G 7 8 150 m_X8_restore [.ref 0] (ww F E H r X ht P S sd er t) (ansC t (oRestore N)) (excC t [(4, 1)] (oRestore N)) := by
  have I2 := I
  obtain ⟨⟨a1, a2, a3⟩, ⟨b1, b2⟩, c, d, e, f, y⟩ := I
  rcases hC_sd b1 with ⟨rfl, h1⟩ | ⟨k, D, rfl, h1, hk, hD, iD, hcD⟩
  · refine wp_spec (M := M_X8_restore) hg ok_X8_restore cut0 60 rfl rfl ?_
    repeat' (first | refine And.intro ?_ ?_ | (with_reducible intro h9; exact absurd h9 (by simp only [cI, cN]; decide +kernel)) | with_reducible intro _ | exact (rfl : narrow _ _ = _) | decide | (unfold vp_in; decide) | refine Eq.mpr (fL_eq _ _) ?_ | refine Eq.mpr (fW_eq _ _) ?_ | refine Eq.mpr (fN_eq _ _) ?_)
    show excC t [(4, 1)] (oRestore N) 4 _
    exact excC_n (if_pos h1) rfl (cEnd_co I2 _)
  · refine wp_spec (M := M_X8_restore) hg ok_X8_restore cut0 60 rfl rfl ?_
    repeat' (first | refine And.intro ?_ ?_ | (with_reducible intro h9; exact absurd h9 (by simp only [cI, cN]; decide +kernel)) | with_reducible intro _ | exact (rfl : narrow _ _ = _) | decide | (unfold vp_in; decide) | refine Eq.mpr (fL_eq _ _) ?_ | refine Eq.mpr (fW_eq _ _) ?_ | refine Eq.mpr (fN_eq _ _) ?_)
    refine cci 31 (wb_cpFrom hg k D hD iD.B) (by decide) (by decide) (by decide) (by first | rfl | (simp only [renVs]; rfl)) (by first | rfl | (simp (discharger := omega) only [renVs, renV, rnI, cI, cN, ← nI_0, nI_ltI, nI_leI, nI_eq, nI_add, pk_mul, pk_sub, nI_clamp, vinI, not_true_eq_false, not_false_eq_true, iK0, iK1, iK2, iK3, iK4, iK5, iKm1, bK6, bK7, bK8, bK9, bK10, bK12, bK14, bK15, bK16, bK20, bK21, bK26, bK30, bK32, bK33, bK45, bK48, bK57, bK59, bK60, bK62, bK63, bK64, bK80, bK93, bK98, bK99, bK100, bK104, bK107, bK109, bK110, bK112, bK113, bK114, bK115, bK116, bK119, sK255, sK256, sK500, sK700, sK798, sK912, sK1400, sK2000])) ?_ (fun _ _ h => h.elim)
    (rintro _ _ ⟨rfl, rfl⟩) <;> (repeat' (first | refine And.intro ?_ ?_ | (with_reducible intro h9; exact absurd h9 (by simp only [cI, cN]; decide +kernel)) | with_reducible intro _ | exact (rfl : narrow _ _ = _) | decide | (unfold vp_in; decide) | refine Eq.mpr (fL_eq _ _) ?_ | refine Eq.mpr (fW_eq _ _) ?_ | refine Eq.mpr (fN_eq _ _) ?_))
    refine cci 31 (hi_forget hg) (by decide) (by decide) (by decide) (by first | rfl | (simp only [renVs]; rfl)) (by first | rfl | (simp (discharger := omega) only [renVs, renV, rnI, cI, cN, ← nI_0, nI_ltI, nI_leI, nI_eq, nI_add, pk_mul, pk_sub, nI_clamp, vinI, not_true_eq_false, not_false_eq_true, iK0, iK1, iK2, iK3, iK4, iK5, iKm1, bK6, bK7, bK8, bK9, bK10, bK12, bK14, bK15, bK16, bK20, bK21, bK26, bK30, bK32, bK33, bK45, bK48, bK57, bK59, bK60, bK62, bK63, bK64, bK80, bK93, bK98, bK99, bK100, bK104, bK107, bK109, bK110, bK112, bK113, bK114, bK115, bK116, bK119, sK255, sK256, sK500, sK700, sK798, sK912, sK1400, sK2000])) ?_ (fun _ _ h => h.elim)
    (rintro _ _ ⟨rfl, rfl⟩) <;> (repeat' (first | refine And.intro ?_ ?_ | (with_reducible intro h9; exact absurd h9 (by simp only [cI, cN]; decide +kernel)) | with_reducible intro _ | exact (rfl : narrow _ _ = _) | decide | (unfold vp_in; decide) | refine Eq.mpr (fL_eq _ _) ?_ | refine Eq.mpr (fW_eq _ _) ?_ | refine Eq.mpr (fN_eq _ _) ?_))
    refine ccn 31 [6, 7] (tb_size hg 12 8 D.B.1 _) (by decide) (by decide) (by decide) rfl (by repeat' (first | exact trivial | refine And.intro ?_ ?_ | rfl)) (by first | rfl | (simp (discharger := omega) only [renVs, renV, rnI, cI, cN, ← nI_0, nI_ltI, nI_leI, nI_eq, nI_add, pk_mul, pk_sub, nI_clamp, vinI, not_true_eq_false, not_false_eq_true, iK0, iK1, iK2, iK3, iK4, iK5, iKm1, bK6, bK7, bK8, bK9, bK10, bK12, bK14, bK15, bK16, bK20, bK21, bK26, bK30, bK32, bK33, bK45, bK48, bK57, bK59, bK60, bK62, bK63, bK64, bK80, bK93, bK98, bK99, bK100, bK104, bK107, bK109, bK110, bK112, bK113, bK114, bK115, bK116, bK119, sK255, sK256, sK500, sK700, sK798, sK912, sK1400, sK2000])) ?_
    (rintro _ _ ⟨rfl, rfl⟩) <;> (repeat' (first | refine And.intro ?_ ?_ | (with_reducible intro h9; exact absurd h9 (by simp only [cI, cN]; decide +kernel)) | with_reducible intro _ | exact (rfl : narrow _ _ = _) | decide | (unfold vp_in; decide) | refine Eq.mpr (fL_eq _ _) ?_ | refine Eq.mpr (fW_eq _ _) ?_ | refine Eq.mpr (fN_eq _ _) ?_))
    show ansC t (oRestore N) _ _
    refine ansC_y (if_neg (by rw [h1, nI_eq (by omega) (by omega)]; omega)) hcD.1.2.2.2.2.1.symm ?_
    exact ⟨_, _, _, _, _, _, _, _, _, _, _, rfl, ⟨⟨cpo_cpl (fcp_cpl hcD) (fcp_fI iD), fcp_fI iD, a3⟩, ⟨hC_0 b1 rfl rfl rfl, b2⟩, c, d, e, f.tq tq.rf rfl rfl, y⟩, keep11.rf⟩
set_option maxRecDepth 20000 in
theorem c_append (hg : gOK G) (I : cV F E H r X S sd er t N) (x : Int32) (hx : vp_nar .char x = x) : Spec G 7 8 150 m_X8_append [.ref 0, .int x] (ww F E H r X ht P S sd er t) (ansC t (oAppend N X.2.2.2.1 x)) (excC t [(4, 1)] (oAppend N X.2.2.2.1 x)) := by
  have h6 := I.2.2.2.1.2.1
  refine wp_spec (M := M_X8_append) hg ok_X8_append cut0 60 rfl rfl ?_
  repeat' (first | refine And.intro ?_ ?_ | (with_reducible intro h9; exact absurd h9 (by simp only [cI, cN]; decide +kernel)) | with_reducible intro _ | exact (rfl : narrow _ _ = _) | decide | (unfold vp_in; decide) | refine Eq.mpr (fL_eq _ _) ?_ | refine Eq.mpr (fW_eq _ _) ?_ | refine Eq.mpr (fN_eq _ _) ?_)
  refine ccn 31 [18, 19, 20, 21] (tx_full hg X.1 X.2.1 X.2.2.1 X.2.2.2.1 X.2.2.2.2 h6) (by decide) (by decide) (by decide) rfl (by repeat' (first | exact trivial | refine And.intro ?_ ?_ | rfl)) (by first | rfl | (simp (discharger := omega) only [renVs, renV, rnI, cI, cN, ← nI_0, nI_ltI, nI_leI, nI_eq, nI_add, pk_mul, pk_sub, nI_clamp, vinI, not_true_eq_false, not_false_eq_true, iK0, iK1, iK2, iK3, iK4, iK5, iKm1, bK6, bK7, bK8, bK9, bK10, bK12, bK14, bK15, bK16, bK20, bK21, bK26, bK30, bK32, bK33, bK45, bK48, bK57, bK59, bK60, bK62, bK63, bK64, bK80, bK93, bK98, bK99, bK100, bK104, bK107, bK109, bK110, bK112, bK113, bK114, bK115, bK116, bK119, sK255, sK256, sK500, sK700, sK798, sK912, sK1400, sK2000])) ?_
  (rintro _ _ ⟨⟨rfl, q⟩ | ⟨rfl, q⟩, rfl⟩) <;> (repeat' (first | refine And.intro ?_ ?_ | (with_reducible intro h9; exact absurd h9 (by simp only [cI, cN]; decide +kernel)) | with_reducible intro _ | exact (rfl : narrow _ _ = _) | decide | (unfold vp_in; decide) | refine Eq.mpr (fL_eq _ _) ?_ | refine Eq.mpr (fW_eq _ _) ?_ | refine Eq.mpr (fN_eq _ _) ?_))
  · show excC t [(4, 1)] (oAppend N X.2.2.2.1 x) 4 _
    exact excC_n (if_pos q) rfl (cEnd_co I _)
  · refine ccn 31 [18, 19, 20, 21] (tx_add hg X.1 X.2.1 X.2.2.1 X.2.2.2.1 X.2.2.2.2 q x hx) (by decide) (by decide) (by decide) rfl (by repeat' (first | exact trivial | refine And.intro ?_ ?_ | rfl)) (by first | rfl | (simp (discharger := omega) only [renVs, renV, rnI, cI, cN, ← nI_0, nI_ltI, nI_leI, nI_eq, nI_add, pk_mul, pk_sub, nI_clamp, vinI, not_true_eq_false, not_false_eq_true, iK0, iK1, iK2, iK3, iK4, iK5, iKm1, bK6, bK7, bK8, bK9, bK10, bK12, bK14, bK15, bK16, bK20, bK21, bK26, bK30, bK32, bK33, bK45, bK48, bK57, bK59, bK60, bK62, bK63, bK64, bK80, bK93, bK98, bK99, bK100, bK104, bK107, bK109, bK110, bK112, bK113, bK114, bK115, bK116, bK119, sK255, sK256, sK500, sK700, sK798, sK912, sK1400, sK2000])) ?_
    (rintro _ _ ⟨rfl, rfl⟩) <;> (repeat' (first | refine And.intro ?_ ?_ | (with_reducible intro h9; exact absurd h9 (by simp only [cI, cN]; decide +kernel)) | with_reducible intro _ | exact (rfl : narrow _ _ = _) | decide | (unfold vp_in; decide) | refine Eq.mpr (fL_eq _ _) ?_ | refine Eq.mpr (fW_eq _ _) ?_ | refine Eq.mpr (fN_eq _ _) ?_))
    refine ccn 31 [18, 19, 20, 21] (tx_size hg X.1 X.2.1 (upd X.2.2.1 X.2.2.2.1 x) (X.2.2.2.1 + 1) X.2.2.2.2) (by decide) (by decide) (by decide) rfl (by repeat' (first | exact trivial | refine And.intro ?_ ?_ | rfl)) (by first | rfl | (simp (discharger := omega) only [renVs, renV, rnI, cI, cN, ← nI_0, nI_ltI, nI_leI, nI_eq, nI_add, pk_mul, pk_sub, nI_clamp, vinI, not_true_eq_false, not_false_eq_true, iK0, iK1, iK2, iK3, iK4, iK5, iKm1, bK6, bK7, bK8, bK9, bK10, bK12, bK14, bK15, bK16, bK20, bK21, bK26, bK30, bK32, bK33, bK45, bK48, bK57, bK59, bK60, bK62, bK63, bK64, bK80, bK93, bK98, bK99, bK100, bK104, bK107, bK109, bK110, bK112, bK113, bK114, bK115, bK116, bK119, sK255, sK256, sK500, sK700, sK798, sK912, sK1400, sK2000])) ?_
    (rintro _ _ ⟨rfl, rfl⟩) <;> (repeat' (first | refine And.intro ?_ ?_ | (with_reducible intro h9; exact absurd h9 (by simp only [cI, cN]; decide +kernel)) | with_reducible intro _ | exact (rfl : narrow _ _ = _) | decide | (unfold vp_in; decide) | refine Eq.mpr (fL_eq _ _) ?_ | refine Eq.mpr (fW_eq _ _) ?_ | refine Eq.mpr (fN_eq _ _) ?_))
    show ansC t (oAppend N X.2.2.2.1 x) _ _
    refine ansC_y (if_neg (by omega)) rfl ?_
    obtain ⟨⟨a1, a2, a3⟩, ⟨b1, b2⟩, c, ⟨d1, d2, d3⟩, e, f, y⟩ := I
    exact ⟨_, _, _, _, (X.1, X.2.1, upd X.2.2.1 X.2.2.2.1 x, X.2.2.2.1 + 1, X.2.2.2.2), _, _, _, _, _, _, rfl, ⟨⟨a1, a2, a3⟩, ⟨b1, b2⟩, c, ⟨by rw [d1], by show X.2.2.2.1 + 1 ≤ 60; omega, rfl⟩, e, f.tq tq.rf rfl rfl, y⟩, keep11.rf⟩
end CO
