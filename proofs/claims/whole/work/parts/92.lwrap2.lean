/-! ===== the law's helpers: a sign, means ===== -/
section LW
variable {G : gT} {F E : fT} {H : hT} {r : Int32 × Int32} {X : xT} {ht : Nat → Int32} {P : pT7} {S : sT4} {sd : Value} {er : Int32} {t : xW} {N : nT}
set_option maxRecDepth 20000 in
theorem l_char (hg : gOK G) (I : cV F E H r X S sd er t N) {fo : Nat → Int64} (h9 : nth t 9 = some (oL fo)) (x : Int32) : ∃ n, N.sm = nI n ∧ n ≤ 80 ∧ (∀ q, q < n → ∃ z, z < 65536 ∧ N.sn q = nI z) ∧ Spec G 11 51 1710 m_L_character [.ref 0, .int x, .ref 40] (ww F E H r X ht P S sd er t) (lK (fun o => o = oOne N n N.sn x) t) NX := by
  obtain ⟨n, a1, a2, a3, sp⟩ := c_char (ht := ht) (P := P) hg I x
  refine ⟨n, a1, a2, a3, ?_⟩
  refine wp_spec (M := M_L_character) hg ok_L_character (lkp [(8, [])]) 60 rfl rfl ?_
  repeat' (first | refine And.intro ?_ ?_ | (with_reducible intro h9; exact absurd h9 (by simp only [cI, cN]; decide +kernel)) | with_reducible intro _ | exact (rfl : narrow _ _ = _) | decide | (unfold vp_in; decide) | refine Eq.mpr (fL_eq _ _) ?_ | refine Eq.mpr (fW_eq _ _) ?_ | refine Eq.mpr (fN_eq _ _) ?_)
  refine cci 31 (K0 := ansCR t (fun o => o = oOne N n N.sn x)) (KX0 := excCR t [(2, 1)] (fun o => o = oOne N n N.sn x)) (Spec.mono sp (fun _ _ h => ⟨_, rfl, h⟩) (fun _ _ h => ⟨_, rfl, h⟩)) (by decide) (by decide) (by decide) rfl rfl ?_ (fun z w' h => lX rfl h h9)
  rintro _ _ ⟨o, hR, y, N1, ho, rfl, F', E', H', r', X', ht', P', S', sd', er', t', rfl, I', kp⟩
  refine aw_las hg ok_L_character cut0 60 (pc := 8) rfl (kp 9 _ (by omega) h9 nB_l) (by unfold vp_in; decide) ?_
  exact lK_ret hR ho I' kp h9
/-- behind a helper that leaves a double -/
def lKD (N : nT) (nb : Nat) (z : UInt64) (t : xW) (v : Option Value) (w' : xW) : Prop := ∃ k F E H r X ht P S sd er t' fd, ((k = 0 ∧ 0 < nb) ∨ (k = 1 ∧ nb = 0)) ∧ v = some (.int (nI k)) ∧ w' = ww F E H r X ht P S sd er t' ∧ cV F E H r X S sd er t' (N.s_co (nI k)) ∧ nth t' 10 = some (oD fd) ∧ (k = 0 → fd 0 = z) ∧ ∀ j e, j < 11 → j ≠ 10 → nth t j = some e → nB e → nth t' j = some e
theorem lKD_x {M : mT} {nb : Nat} {z : UInt64} {fd : Nat → UInt64} {x : Nat} {w' : xW} (hM : M.hs = [(5, 1)]) (h : excD t N nb x w') (h10 : nth t 10 = some (oD fd)) : wpX M (lKD N nb z t) x w' := by
  obtain ⟨N1, ⟨h0, rfl⟩, rfl, F, E, H, r, X, ht, P, S, sd, er, t', rfl, I, kp⟩ := h
  unfold wpX
  rw [hM]
  exact ⟨1, F, E, H, r, X, ht, P, S, sd, er, t', fd, Or.inr ⟨rfl, h0⟩, rfl, rfl, I, kp 10 _ (by omega) h10 nB_d, fun z => absurd z (by omega), fun j e h1 _ h2 h3 => kp j e h1 h2 h3⟩
theorem lKD_r {nb : Nat} {z : UInt64} {fd : Nat → UInt64} {t' : xW} (h0 : 0 < nb) (I : cV F E H r X S sd er t' (N.s_co (nI 0))) (kp : keep11 t t') (h10 : nth t 10 = some (oD fd)) : lKD N nb z t (some (.int (Int32.ofInt 0))) (stN (ww F E H r X ht P S sd er t') 41 (oD (vf_upd fd (Int32.ofInt 0).toNatClampNeg z))) := by
  have h10' := kp 10 _ (by omega) h10 nB_d
  refine ⟨0, F, E, H, r, X, ht, P, S, sd, er, stN t' 10 (oD (vf_upd fd (Int32.ofInt 0).toNatClampNeg z)), _, Or.inl ⟨rfl, h0⟩, rfl, rfl, cV_st I (by omega) h10' nB_d nB_d, nth_st h10', fun _ => rfl, fun j e h1 h2 h3 h4 => ?_⟩
  rw [nth_st2 h2]
  exact kp j e h1 h3 h4
set_option maxRecDepth 20000 in
theorem l_mean (hg : gOK G) (I : cV F E H r X S sd er t N) {fd : Nat → UInt64} (h10 : nth t 10 = some (oD fd)) : Spec G 11 51 1710 m_L_meanNote [.ref 0, .ref 41] (ww F E H r X ht P S sd er t) (lKD N F.B.1 (FP.ddiv (FP.i2d (bsum (gnote N.g) F.B.1)) (FP.i2d (nI F.B.1))) t) NX := by
  refine wp_spec (M := M_L_meanNote) hg ok_L_meanNote (lkp [(6, [])]) 60 rfl rfl ?_
  repeat' (first | refine And.intro ?_ ?_ | (with_reducible intro h9; exact absurd h9 (by simp only [cI, cN]; decide +kernel)) | with_reducible intro _ | exact (rfl : narrow _ _ = _) | decide | (unfold vp_in; decide) | refine Eq.mpr (fL_eq _ _) ?_ | refine Eq.mpr (fW_eq _ _) ?_ | refine Eq.mpr (fN_eq _ _) ?_)
  refine cci 31 (c_mean hg I) (by decide) (by decide) (by decide) rfl rfl ?_ (fun z w' h => lKD_x rfl h h10)
  rintro _ _ ⟨N1, ⟨h0, rfl⟩, rfl, F', E', H', r', X', ht', P', S', sd', er', t', rfl, I', kp⟩
  refine aw_das hg ok_L_meanNote cut0 60 (pc := 6) rfl (kp 10 _ (by omega) h10 nB_d) (by unfold vp_in; decide) ?_
  exact lKD_r h0 I' kp h10
set_option maxRecDepth 20000 in
theorem l_share (hg : gOK G) (I : cV F E H r X S sd er t N) {fd : Nat → UInt64} (h10 : nth t 10 = some (oD fd)) : Spec G 11 51 1710 m_L_soundShare [.ref 0, .ref 41] (ww F E H r X ht P S sd er t) (lKD N F.B.1 (FP.f2d (FP.fdiv (FP.i2f (nI (cnt (gsnd N.g 0) F.B.1))) (FP.i2f (nI F.B.1)))) t) NX := by
  have h12 := I.nb.2
  refine wp_spec (M := M_L_soundShare) hg ok_L_soundShare (lkp [(7, [])]) 60 rfl rfl ?_
  repeat' (first | refine And.intro ?_ ?_ | (with_reducible intro h9; exact absurd h9 (by simp only [cI, cN]; decide +kernel)) | with_reducible intro _ | exact (rfl : narrow _ _ = _) | decide | (unfold vp_in; decide) | refine Eq.mpr (fL_eq _ _) ?_ | refine Eq.mpr (fW_eq _ _) ?_ | refine Eq.mpr (fN_eq _ _) ?_)
  refine cci 31 (c_share hg I) (by decide) (by decide) (by decide) rfl rfl ?_ (fun z w' h => lKD_x rfl h h10)
  rintro _ _ ⟨N1, ⟨h0, rfl⟩, rfl, F', E', H', r', X', ht', P', S', sd', er', t', rfl, I', kp⟩
  refine ⟨f2d_okN _ _ (fun z => by rw [← nI_0, nI_eq (by omega) (by omega)] at z; omega), ?_⟩
  refine aw_das hg ok_L_soundShare cut0 60 (pc := 7) rfl (kp 10 _ (by omega) h10 nB_d) (by unfold vp_in; decide) ?_
  exact lKD_r h0 I' kp h10
end LW
/-! ===== two answers that keep one relation are one ===== -/
def vEq (N N' : nT) : Prop := N'.g = N.g ∧ N'.kp = N.kp ∧ N'.sv = N.sv ∧ N'.ip = N.ip ∧ N'.sn = N.sn ∧ N'.iS = N.iS ∧ N'.ch = N.ch ∧ N'.iW = N.iW ∧ N'.wy = N.wy ∧ N'.de = N.de ∧ N'.ln = N.ln ∧ N'.er = N.er ∧ N'.sm = N.sm
theorem vEq.rf {N : nT} : vEq N N := ⟨rfl, rfl, rfl, rfl, rfl, rfl, rfl, rfl, rfl, rfl, rfl, rfl, rfl⟩
theorem cV_v {F E : fT} {H : hT} {r : Int32 × Int32} {X : xT} {S : sT4} {sd : Value} {er : Int32} {t : xW} {N N' : nT} (I : cV F E H r X S sd er t N) (h : vEq N N') : cV F E H r X S sd er t N' := by
  obtain ⟨h1, h2, h3, h4, h5, h6, h7, h8, h9, h10, h11, h12, h13⟩ := h
  obtain ⟨⟨a1, a2, a3⟩, ⟨b1, b2⟩, ⟨c1, c2⟩, ⟨d1, d2, d3⟩, e, f, z⟩ := I
  exact ⟨⟨by rw [h1]; exact a1, a2, a3⟩, ⟨hC_cg b1 h7 h2 h6 h3, h8.trans b2⟩, ⟨c1.trans h9.symm, c2.trans h10.symm⟩, ⟨d1.trans h4.symm, d2, h11.trans d3⟩, e.trans h12.symm, f.tq tq.rf h13 h5, z⟩
def uniq (R : oA3 → Prop) : Prop := ∀ o o', R o → R o' → o.1 = o'.1 ∧ (o.1 = 0 → o.2.1 = o'.2.1) ∧ vEq o.2.2 o'.2.2
theorem uniq_f {o : oA3} : uniq (fun x => x = o) := fun a b ha hb => by
  subst ha hb
  exact ⟨rfl, fun _ => rfl, vEq.rf⟩
theorem uniq_peal {N : nT} {nb : Nat} {x : Int32} : uniq (okPeal N nb x) := by
  rintro _ _ (⟨h, rfl⟩ | ⟨h, s, hs, rfl⟩) (⟨h2, rfl⟩ | ⟨h2, s2, hs2, rfl⟩)
  · exact ⟨rfl, fun _ => rfl, vEq.rf⟩
  · exact absurd h2 h
  · exact absurd h h2
  · rw [isLd_u hs hs2]
    exact ⟨rfl, fun _ => rfl, vEq.rf⟩
theorem uniq_long {N : nT} {nb : Nat} : uniq (okLong N nb) := by
  rintro _ _ (⟨h, rfl⟩ | ⟨h, s, hs, rfl⟩) (⟨h2, rfl⟩ | ⟨h2, s2, hs2, rfl⟩)
  · exact ⟨rfl, fun _ => rfl, vEq.rf⟩
  · exact absurd h h2
  · exact absurd h2 h
  · rw [isBst_u hs hs2]
    exact ⟨rfl, fun _ => rfl, vEq.rf⟩
theorem uniq_rank {F : fT} {N : nT} (h : cpl F N.g) (i : fI F) (x : Int32) : uniq (okRank N F.B.1 x) := by
  have h12 := i.2.2.2.2.1
  rintro _ _ (⟨a, ha, h1, rfl⟩ | ⟨h1, rfl⟩) (⟨b, hb, h2, rfl⟩ | ⟨h2, rfl⟩)
  · have e : a = b := by
      have c1 : cnt (gah N.g a) F.B.1 ≤ F.B.1 := cnt_le _ _
      have c2 : cnt (gah N.g b) F.B.1 ≤ F.B.1 := cnt_le _ _
      have e1 := (nI_eq (by omega) (by omega)).mp (h1.trans h2.symm)
      rw [gah_F h ha, gah_F h hb, rank_F i ha, rank_F i hb] at e1
      exact ahN_inj ha hb e1
    subst e
    exact ⟨rfl, fun _ => rfl, vEq.rf⟩
  · exact absurd h1 (h2 a ha)
  · exact absurd h2 (h1 b hb)
  · exact ⟨rfl, fun _ => rfl, vEq.rf⟩
theorem uniq_pour {D : pT} {N : nT} {b : Int32} : uniq (okPour D N b) := by
  rintro _ _ ⟨cb, ⟨h, m, hm, rfl⟩ | ⟨h, s, q, hs, rfl⟩⟩ ⟨cb2, ⟨h2, m2, hm2, rfl⟩ | ⟨h2, s2, q2, hs2, rfl⟩⟩
  · rw [isMx_u hm hm2]
    exact ⟨rfl, fun _ => rfl, vEq.rf⟩
  · exact absurd h2 h
  · exact absurd h h2
  · rw [(sim_u hs hs2).2]
    exact ⟨rfl, fun _ => rfl, vEq.rf⟩
theorem uniq_first {D : pT} {N : nT} : uniq (okFirst D N) := by
  rintro _ _ ⟨M, cb, hM, ⟨h, rfl⟩ | ⟨h, k, h1, h2, rfl⟩⟩ ⟨M2, cb2, hM2, ⟨h3, rfl⟩ | ⟨h3, k2, h4, h5, rfl⟩⟩
  · exact ⟨rfl, fun _ => rfl, vEq.rf⟩
  · have := isMx_u hM hM2
    omega
  · have := isMx_u hM hM2
    omega
  · have e := isMx_u hM hM2
    subst e
    have ek : k = k2 := by
      rcases Nat.lt_trichotomy k k2 with z | z | z
      · exact absurd h1 (h5 k z)
      · exact z
      · exact absurd h4 (h2 k2 z)
    subst ek
    exact ⟨rfl, fun _ => rfl, vEq.rf⟩
theorem uniq_well {D : pT} {N : nT} {nb : Nat} : uniq (okWell D N nb) := by
  rintro _ _ ⟨y, cb, h, rfl⟩ ⟨y2, cb2, h2, rfl⟩
  have e : y = y2 := by
    rcases h with ⟨rfl, a⟩ | ⟨a, M, s, q, hM, hs, h⟩ <;> rcases h2 with ⟨rfl, b⟩ | ⟨b, M2, s2, q2, hM2, hs2, h2⟩
    · rfl
    · exact absurd b a
    · exact absurd a b
    · have e1 := isMx_u hM hM2
      have e2 := (sim_u hs hs2).2
      subst e1 e2
      rcases h with ⟨rfl, c⟩ | ⟨rfl, c⟩ <;> rcases h2 with ⟨rfl, d⟩ | ⟨rfl, d⟩
      · rfl
      · exact absurd c d
      · exact absurd d c
      · rfl
  subst e
  exact ⟨rfl, fun _ => rfl, vEq.rf⟩
theorem uniq_line {N : nT} {nb : Nat} {x : Int32} (hn : nb ≤ 12) : uniq (okLine N nb x) := by
  rintro _ _ (⟨h, rfl⟩ | ⟨i, z, cr, r, h1, h2, h3, h4, h5, h6, h7, rfl⟩) (⟨h', rfl⟩ | ⟨i', z', cr', r', g1, g2, g3, g4, g5, g6, g7, rfl⟩)
  · exact ⟨rfl, fun _ => rfl, vEq.rf⟩
  · exact absurd ⟨i', g1, g2⟩ h
  · exact absurd ⟨i, h1, h2⟩ h'
  · have ei : i = i' := (nI_eq (by omega) (by omega)).mp (h2.symm.trans g2)
    subst ei
    have ez : z = z' := (nI_eq (by omega) (by omega)).mp (h3.symm.trans g3)
    have ec : cr = cr' := (nI_eq (by omega) (by omega)).mp (h6.symm.trans g6)
    have er : r = r' := by
      rcases h7 with ⟨rfl, a⟩ | ⟨a, rfl, b, c⟩ <;> rcases g7 with ⟨rfl, d⟩ | ⟨d, rfl, e, f⟩
      · rfl
      · exact absurd (e.symm.trans a) (nI_nm1 (by omega))
      · exact absurd (b.symm.trans d) (nI_nm1 (by omega))
      · rw [(nI_eq (by omega) (by omega)).mp (b.symm.trans e)]
    subst ez ec er
    exact ⟨rfl, fun _ => rfl, vEq.rf⟩
theorem uniq_rl {N : nT} {nr nb : Nat} {w : Nat → Nat} {x : Int32} : uniq (okRl N nr nb w x) := by
  rintro _ _ (⟨h, rfl⟩ | ⟨h, rfl⟩) (⟨h2, rfl⟩ | ⟨h2, rfl⟩)
  · exact ⟨rfl, fun _ => rfl, vEq.rf⟩
  · exact absurd h2 h
  · exact absurd h h2
  · exact ⟨rfl, fun _ => rfl, vEq.rf⟩
/-! what is told does not matter -/
def tdm (td : Nat → Int32) (o : oA3) : oA3 := (o.1, o.2.1, o.2.2.s_td td)
theorem tdm_if {td : Nat → Int32} {c : Prop} [Decidable c] {a b a' b' : oA3} (ha : a' = tdm td a) (hb : b' = tdm td b) : (if c then a' else b') = tdm td (if c then a else b) := by
  by_cases z : c
  · rw [if_pos z, if_pos z]; exact ha
  · rw [if_neg z, if_neg z]; exact hb
section TD
variable {N : nT} {td : Nat → Int32}
theorem td_coal {x : Int32} : oCoal (N.s_td td) x = tdm td (oCoal N x) := tdm_if rfl rfl
theorem td_bronze {x : Int32} : oBronze (N.s_td td) x = tdm td (oBronze N x) := tdm_if (tdm_if rfl rfl) rfl
theorem td_mould {n : Nat} {x y : Int32} : oMould (N.s_td td) n x y = tdm td (oMould N n x y) := tdm_if (tdm_if rfl rfl) rfl
theorem td_rack {n : Nat} {x : Int32} : oRack (N.s_td td) n x = tdm td (oRack N n x) := tdm_if (tdm_if rfl rfl) rfl
theorem td_take {n : Nat} {x : Int32} : oTake (N.s_td td) n x = tdm td (oTake N n x) := tdm_if (tdm_if rfl (tdm_if rfl rfl)) rfl
theorem td_recast {n : Nat} {x : Int32} : oRecast (N.s_td td) n x = tdm td (oRecast N n x) := tdm_if (tdm_if (tdm_if rfl rfl) rfl) rfl
theorem td_pass {n : Nat} {x : Int32} : oPass (N.s_td td) n x = tdm td (oPass N n x) := tdm_if rfl rfl
theorem td_pour {a b c : Nat} {x y : Int32} : oPour (N.s_td td) a b c x y = tdm td (oPour N a b c x y) := tdm_if (tdm_if rfl (tdm_if rfl (tdm_if (tdm_if rfl rfl) rfl))) rfl
theorem td_ord {a b c : Nat} {o : orT} : oOrd (N.s_td td) a b c o = tdm td (oOrd N a b c o) := tdm_if td_coal (tdm_if td_bronze (tdm_if td_mould (tdm_if td_rack (tdm_if td_pour (tdm_if td_pass (tdm_if td_take td_recast))))))
end TD
theorem rnF_td {td : Nat → Int32} : ∀ {L : List orT} {N : nT}, rnF (N.s_td td) L = (rnF N L).s_td td
  | [], N => rfl
  | o :: L, N => by
    rw [rnF, rnF]
    show (if (oOrd (N.s_td td) (N.g 2).toNatClampNeg (N.g 3).toNatClampNeg (N.g 4).toNatClampNeg o).1 = 0 then rnF (oOrd (N.s_td td) (N.g 2).toNatClampNeg (N.g 3).toNatClampNeg (N.g 4).toNatClampNeg o).2.2 L else (oOrd (N.s_td td) (N.g 2).toNatClampNeg (N.g 3).toNatClampNeg (N.g 4).toNatClampNeg o).2.2) = _
    rw [td_ord]
    by_cases z : (oOrd N (N.g 2).toNatClampNeg (N.g 3).toNatClampNeg (N.g 4).toNatClampNeg o).1 = 0
    · rw [if_pos z, if_pos (show (tdm td (oOrd N (N.g 2).toNatClampNeg (N.g 3).toNatClampNeg (N.g 4).toNatClampNeg o)).1 = 0 from z)]
      exact rnF_td
    · rw [if_neg z, if_neg (show ¬ (tdm td (oOrd N (N.g 2).toNatClampNeg (N.g 3).toNatClampNeg (N.g 4).toNatClampNeg o)).1 = 0 from z)]
      rfl
theorem uniq_run {N : nT} {n : Nat} : uniq (okRun N n) := by
  rintro _ _ (⟨e, td, ap, tm, h, rfl⟩ | ⟨L, e, td, h, h2⟩) (⟨e', td', ap', tm', g, rfl⟩ | ⟨L', e', td', g, g2⟩)
  · have q := h.symm.trans g
    injection q with q1 q2
    subst q2
    exact ⟨rfl, fun _ => rfl, vEq.rf⟩
  · have q := h.symm.trans g
    injection q with q1 q2
    cases q1
  · have q := h.symm.trans g
    injection q with q1 q2
    cases q1
  · have q := h.symm.trans g
    injection q with q1 q2
    injection q1 with q1
    subst q1 q2
    have et : rnF (N.bgn td' e L.length) L = (rnF (N.bgn td e L.length) L).s_td td' := rnF_td (N := N.bgn td e L.length)
    rw [et] at g2
    obtain ⟨k0, hk0, hc0⟩ := rnF_co (L := L) (N := N.bgn td e L.length) rfl rfl
    rcases h2 with ⟨a1, rfl⟩ | ⟨k, k1, a1, rfl⟩ <;> rcases g2 with ⟨b1, rfl⟩ | ⟨k', k1', b1, rfl⟩
    · exact ⟨rfl, fun _ => rfl, vEq.rf⟩
    · have := (nI_eq (by omega) (by omega)).mp (a1.symm.trans b1)
      omega
    · have := (nI_eq (by omega) (by omega)).mp (a1.symm.trans b1)
      omega
    · have := (nI_eq (by omega) (by omega)).mp (a1.symm.trans b1)
      have ek : k = k' := by omega
      subst ek
      exact ⟨rfl, fun _ => rfl, vEq.rf⟩
