/-! ===== Pouring by the hottest; the reference's sets ===== -/
theorem pc_lt : ∀ s : Fin 256, ∀ n : Fin 9, s.1 < 2 ^ n.1 → pc s.1 < n.1 → ∃ k : Fin 8, k.1 < n.1 ∧ s.1.testBit k.1 = false := by decide +kernel
theorem pc_full : ∀ s : Fin 256, ∀ n : Fin 9, s.1 < 2 ^ n.1 → pc s.1 ≤ n.1 := by decide +kernel
/-- turn after turn: what was looked at, what was poured -/
def sim (D : pT) : Nat → Nat → Nat → Prop
  | 0, s, q => s = 0 ∧ q = 0
  | t + 1, s, q => ∃ s0 q0 b, sim D t s0 q0 ∧ isHt D s0 b ∧ s = sb s0 b ∧ ((okS D q0 b ∧ q = sb q0 b) ∨ (¬ okS D q0 b ∧ q = q0))
theorem sim_u {D : pT} : ∀ {t s q s2 q2 : Nat}, sim D t s q → sim D t s2 q2 → s = s2 ∧ q = q2
  | 0, _, _, _, _, ⟨a, b⟩, ⟨c, d⟩ => ⟨a.trans c.symm, b.trans d.symm⟩
  | t + 1, _, _, _, _, ⟨s0, q0, b, h1, h2, h3, h4⟩, ⟨s1, q1, b1, g1, g2, g3, g4⟩ => by
    obtain ⟨rfl, rfl⟩ := sim_u h1 g1
    have := isHt_u h2 g2
    subst this
    refine ⟨h3.trans g3.symm, ?_⟩
    rcases h4 with ⟨x, y⟩ | ⟨x, y⟩ <;> rcases g4 with ⟨z, w⟩ | ⟨z, w⟩
    · exact y.trans w.symm
    · exact absurd x z
    · exact absurd z x
    · exact y.trans w.symm
theorem sim_ok {D : pT} (hn : D.2.1 ≤ 8) : ∀ {t s q : Nat}, sim D t s q → s < 2 ^ D.2.1 ∧ q < 2 ^ D.2.1 ∧ pc s = t ∧ ∀ j, j < 8 → q.testBit j = true → s.testBit j = true
  | 0, s, q, ⟨a, b⟩ => by
    subst a b
    exact ⟨Nat.two_pow_pos _, Nat.two_pow_pos _, pc_0, fun _ _ h => h⟩
  | t + 1, s, q, ⟨s0, q0, b, h1, h2, h3, h4⟩ => by
    obtain ⟨a1, a2, a3, a4⟩ := sim_ok hn h1
    have hb8 : b < 8 := Nat.lt_of_lt_of_le h2.1 hn
    have s256 := Nat.lt_of_lt_of_le a1 (p2_le hn)
    have q256 := Nat.lt_of_lt_of_le a2 (p2_le hn)
    have hp := pc_sb ⟨s0, s256⟩ ⟨b, hb8⟩ h2.2.1
    simp only at hp
    subst h3
    refine ⟨sb_n hn a1 h2.1, ?_, by omega, fun j hj hq => ?_⟩
    · rcases h4 with ⟨-, rfl⟩ | ⟨-, rfl⟩
      · exact sb_n hn a2 h2.1
      · exact a2
    · rw [sb_t s256 hb8 hj]
      rcases h4 with ⟨-, rfl⟩ | ⟨-, rfl⟩
      · rw [sb_t q256 hb8 hj] at hq
        by_cases e : j = b
        · simp [e]
        · simp only [e, decide_false, Bool.false_or] at hq ⊢
          exact a4 j hj hq
      · rw [a4 j hj hq]
        simp
theorem sim_out {D : pT} (hn : D.2.1 ≤ 8) {t s q b : Nat} (h : sim D t s q) (hb : isHt D s b) : q.testBit b = false := by
  cases hz : q.testBit b with
  | false => rfl
  | true =>
    have := (sim_ok hn h).2.2.2 b (Nat.lt_of_lt_of_le hb.1 hn) hz
    rw [hb.2.1] at this
    cases this
section PP
variable {G : gT}
set_option maxRecDepth 20000 in
theorem pr_hottest_l (hg : gOK G) (D : pT) (co hlf plf mb : Nat → Int32) (hp : pOK D co) {K : Option Value → xW → Prop} {KX : Nat → xW → Prop} (hK : ∀ s q, sim D D.2.1 s q → K (some (.int (nI (pc q)))) (pw D co hlf plf mb)) : ∀ (c t : Nat) (ht : t ≤ D.2.1) (s q : Nat) (hs : sim D t s q) (hc9 : D.2.1 - t = c),
    AW G M_X4_hottest 3 0 0 18 [some (.ref 0), some (.int (hv D q)), some (.int (pv D q)), some (.int (nI s)), some (.int (nI (pc q))), some (.int (nI t)), none, none] [] (pw D co hlf plf mb) K KX := by
  intro c
  induction c using Nat.strongRecOn with | ind c ih => ?_
  intro t ht s q hs hc9
  have hn := hp.1
  obtain ⟨a1, a2, a3, a4⟩ := sim_ok hn hs
  have s256 := Nat.lt_of_lt_of_le a1 (p2_le hn)
  have q256 := Nat.lt_of_lt_of_le a2 (p2_le hn)
  have hpq : pc q ≤ 8 := cnt_le _ _
  have hH := sH_le hp q
  have hP := sP_le hp q
  have h14 := hp.2.1
  have h20 := hp.2.2.2.1
  refine wp_ok (M := M_X4_hottest) hg ok_X4_hottest (lkp [(18, [true, true, true, true, true, true, false, false])]) 60 _ _ _ _ _ _ ?_
  repeat' (first | refine And.intro ?_ ?_ | (with_reducible intro h9; exact absurd h9 (by simp only [cI, cN]; decide +kernel)) | with_reducible intro _ | exact (rfl : narrow _ _ = _) | decide | (unfold vp_in; decide))
  · rename_i g
    simp (discharger := omega) only [cI, nI_leI] at g
    have : t = D.2.1 := by omega
    subst this
    exact hK s q hs
  · rename_i g
    simp (discharger := omega) only [cN, nI_leI] at g
    have hex : ∃ k, k < D.2.1 ∧ s.testBit k = false := by
      obtain ⟨k, h1, h2⟩ := pc_lt ⟨s, s256⟩ ⟨D.2.1, by omega⟩ a1 (by simp only; omega)
      exact ⟨k.1, h1, h2⟩
    refine cc0 [0, 1, 2, 3, 4] (pr_hot hg D co hlf plf mb hp s s256 hex) (by decide) (by decide) (by decide) rfl (by repeat' (first | exact trivial | refine And.intro ?_ ?_ | rfl)) (by first | rfl | (simp (discharger := omega) only [renVs, renV, rnI, cI, cN, ← nI_0, nI_ltI, nI_leI, nI_eq, nI_add, pk_mul, pk_sub, nI_clamp, vinI, not_true_eq_false, not_false_eq_true, iK0, iK1, iK2, iK3, iK4, iK5, iKm1, bK6, bK7, bK8, bK9, bK10, bK12, bK14, bK15, bK16, bK20, bK21, bK26, bK30, bK32, bK33, bK45, bK48, bK57, bK59, bK60, bK62, bK63, bK64, bK80, bK93, bK98, bK99, bK100, bK104, bK107, bK109, bK110, bK112, bK113, bK114, bK115, bK116, bK119, sK255, sK256, sK500, sK700, sK798, sK912, sK1400, sK2000])) ?_
    (rintro _ _ ⟨⟨b, hb, rfl⟩, rfl⟩) <;> (repeat' (first | refine And.intro ?_ ?_ | (with_reducible intro h9; exact absurd h9 (by simp only [cI, cN]; decide +kernel)) | with_reducible intro _ | exact (rfl : narrow _ _ = _) | decide | (unfold vp_in; decide)))
    · have := hb.1
      rw [vinI (by omega)]; omega
    have hb1 := hb.1
    have hcb := hp.2.2.2.2.1 b
    have hqb := sim_out hn hs hb
    rw [nI_clamp (by omega), hp.2.2.2.2.2 b hb.1]
    refine cc0 [] (pr_enough hg _ _ _) (by decide) (by decide) (by decide) rfl (by repeat' (first | exact trivial | refine And.intro ?_ ?_ | rfl)) (by first | rfl | (simp (discharger := omega) only [renVs, renV, rnI, cI, cN, ← nI_0, nI_ltI, nI_leI, nI_eq, nI_add, pk_mul, pk_sub, nI_clamp, vinI, not_true_eq_false, not_false_eq_true, iK0, iK1, iK2, iK3, iK4, iK5, iKm1, bK6, bK7, bK8, bK9, bK10, bK12, bK14, bK15, bK16, bK20, bK21, bK26, bK30, bK32, bK33, bK45, bK48, bK57, bK59, bK60, bK62, bK63, bK64, bK80, bK93, bK98, bK99, bK100, bK104, bK107, bK109, bK110, bK112, bK113, bK114, bK115, bK116, bK119, sK255, sK256, sK500, sK700, sK798, sK912, sK1400, sK2000])) ?_
    (rintro _ _ ⟨⟨rfl, q1, q2⟩ | ⟨rfl, q9⟩, rfl⟩) <;> (repeat' (first | refine And.intro ?_ ?_ | (with_reducible intro h9; exact absurd h9 (by simp only [cI, cN]; decide +kernel)) | with_reducible intro _ | exact (rfl : narrow _ _ = _) | decide | (unfold vp_in; decide)))
    · have hok : okS D q b := by
        unfold hv at q1
        unfold pv at q2
        rw [pk_mul, nI_add, nI_ltI (by omega) (by omega)] at q1
        rw [pk_mul, nI_add, sub_ltI (by omega) (by omega) (by omega)] at q2
        exact ⟨by omega, by omega⟩
      refine cc0 [] (bc_after hg _ _) (by decide) (by decide) (by decide) rfl (by repeat' (first | exact trivial | refine And.intro ?_ ?_ | rfl)) (by first | rfl | (simp (discharger := omega) only [renVs, renV, rnI, cI, cN, ← nI_0, nI_ltI, nI_leI, nI_eq, nI_add, pk_mul, pk_sub, nI_clamp, vinI, not_true_eq_false, not_false_eq_true, iK0, iK1, iK2, iK3, iK4, iK5, iKm1, bK6, bK7, bK8, bK9, bK10, bK12, bK14, bK15, bK16, bK20, bK21, bK26, bK30, bK32, bK33, bK45, bK48, bK57, bK59, bK60, bK62, bK63, bK64, bK80, bK93, bK98, bK99, bK100, bK104, bK107, bK109, bK110, bK112, bK113, bK114, bK115, bK116, bK119, sK255, sK256, sK500, sK700, sK798, sK912, sK1400, sK2000])) ?_
      (rintro _ _ ⟨rfl, rfl⟩) <;> (repeat' (first | refine And.intro ?_ ?_ | (with_reducible intro h9; exact absurd h9 (by simp only [cI, cN]; decide +kernel)) | with_reducible intro _ | exact (rfl : narrow _ _ = _) | decide | (unfold vp_in; decide)))
      refine cc0 [] (bc_pounds hg _) (by decide) (by decide) (by decide) rfl (by repeat' (first | exact trivial | refine And.intro ?_ ?_ | rfl)) (by first | rfl | (simp (discharger := omega) only [renVs, renV, rnI, cI, cN, ← nI_0, nI_ltI, nI_leI, nI_eq, nI_add, pk_mul, pk_sub, nI_clamp, vinI, not_true_eq_false, not_false_eq_true, iK0, iK1, iK2, iK3, iK4, iK5, iKm1, bK6, bK7, bK8, bK9, bK10, bK12, bK14, bK15, bK16, bK20, bK21, bK26, bK30, bK32, bK33, bK45, bK48, bK57, bK59, bK60, bK62, bK63, bK64, bK80, bK93, bK98, bK99, bK100, bK104, bK107, bK109, bK110, bK112, bK113, bK114, bK115, bK116, bK119, sK255, sK256, sK500, sK700, sK798, sK912, sK1400, sK2000])) ?_
      (rintro _ _ ⟨rfl, rfl⟩) <;> (repeat' (first | refine And.intro ?_ ?_ | (with_reducible intro h9; exact absurd h9 (by simp only [cI, cN]; decide +kernel)) | with_reducible intro _ | exact (rfl : narrow _ _ = _) | decide | (unfold vp_in; decide)))
      refine AW.cg (ih _ (by omega) (t + 1) (by omega) (sb s b) (sb q b) ⟨s, q, b, hs, hb, rfl, Or.inl ⟨hok, rfl⟩⟩ rfl) rfl rfl rfl ?_ rfl rfl
      have eh : hap (hv D q) (nI (D.1 b)) = hv D (sb q b) := by
        unfold hv
        rw [sumB_sb q256 (by omega) hqb hn, if_pos hb1, hap_nI (by omega) hcb.2]
        congr 1
        show _ = max 20 (D.2.2.1 - (_ + (D.1 b + 2)))
        omega
      have ep : pv D q - (nI 5 * nI (D.1 b) + nI 10) = pv D (sb q b) := by
        unfold pv
        rw [sumB_sb q256 (by omega) hqb hn, if_pos hb1, pk_mul, nI_add, sub_subI]
        rfl
      have es := b_or8 s256 (show b < 8 by omega)
      have ec := pc_sb ⟨q, q256⟩ ⟨b, by omega⟩ hqb
      simp only at ec
      rw [← eh, ← ep, ← es, ec]
      simp (discharger := omega) only [msk, clr_i, clr_r, ← nI_add, iK1]
    · have hok : ¬ okS D q b := fun z => by
        have z1 := z.1
        have z2 := z.2
        unfold hv pv at q9
        rw [pk_mul, nI_add, nI_ltI (by omega) (by omega), pk_mul, nI_add, sub_ltI (by omega) (by omega) (by omega)] at q9
        omega
      refine AW.cg (ih _ (by omega) (t + 1) (by omega) (sb s b) q ⟨s, q, b, hs, hb, rfl, Or.inr ⟨hok, rfl⟩⟩ rfl) rfl rfl rfl ?_ rfl rfl
      have es := b_or8 s256 (show b < 8 by omega)
      rw [← es]
      simp (discharger := omega) only [msk, clr_i, clr_r, ← nI_add, iK1]
set_option maxRecDepth 20000 in
theorem pr_hottest (hg : gOK G) (D : pT) (co hlf plf mb : Nat → Int32) (hp : pOK D co) : Spec G 3 0 0 m_X4_hottest [.ref 0] (pw D co hlf plf mb) (fun v w' => (∃ s q, sim D D.2.1 s q ∧ v = some (.int (nI (pc q)))) ∧ w' = pw D co hlf plf mb) NX := by
  have e1 : hv D 0 = nI D.2.2.1 := by
    unfold hv
    rw [sumB_0]
    congr 1
    have := hp.2.2.1
    omega
  have e2 : pv D 0 = nI D.2.2.2 := by
    unfold pv
    rw [sumB_0, pk_sub (by omega)]
    rfl
  refine wp_spec (M := M_X4_hottest) hg ok_X4_hottest (lkp [(18, [true, true, true, true, true, true, false, false])]) 60 rfl rfl ?_
  repeat' (first | refine And.intro ?_ ?_ | (with_reducible intro h9; exact absurd h9 (by simp only [cI, cN]; decide +kernel)) | with_reducible intro _ | exact (rfl : narrow _ _ = _) | decide | (unfold vp_in; decide))
  refine AW.cg (pr_hottest_l hg D co hlf plf mb hp (fun s q h => ⟨⟨s, q, h, rfl⟩, rfl⟩) _ 0 (by omega) 0 0 ⟨rfl, rfl⟩ rfl) rfl rfl rfl ?_ rfl rfl
  rw [e1, e2, pc_0]
  rfl
/-- Foundry, then pouring -/
def lw (F : fT) (co : Nat → Int32) (n : Nat) (h p : Int32) (hlf plf mb : Nat → Int32) : xW := [.inr (4, [.ref 1, .ref 3, .ref 5, .int F.h, .int F.p, .int F.br, .int F.lo, .int F.ld, .int F.hr, .int F.po]), .inr (9, [.int (nI 8), .int (nI 2), .ref 2, .int (nI F.M.1)]), .inl (0, 8 * 2, .inl F.M.2), .inr (9, [.int (nI 4), .int (nI 1), .ref 4, .int (nI F.R.1)]), .inl (0, 4 * 1, .inl F.R.2), .inr (9, [.int (nI 12), .int (nI 8), .ref 6, .int (nI F.B.1)]), .inl (0, 12 * 8, .inl F.B.2),
  .inr (7, [.ref 8, .int (nI n), .int h, .int p, .ref 9, .ref 10, .ref 11]), .inl (0, 8, .inl co), .inl (0, 256, .inl hlf), .inl (0, 256, .inl plf), .inl (0, 256, .inl mb)]
set_option maxRecDepth 20000 in
theorem pr_look_l (hg : gOK G) (F : fT) (hF : fB F) (h p : Int32) (hlf plf mb : Nat → Int32) {K : Option Value → xW → Prop} {KX : Nat → xW → Prop} (hK : ∀ co, (∀ k, k < F.M.1 → co k = F.m k 0) → K none (lw F co F.M.1 F.h F.p hlf plf mb)) : ∀ (c k : Nat) (hk : k ≤ F.M.1) (co : Nat → Int32) (hc : ∀ j, j < k → co j = F.m j 0) (hc9 : F.M.1 - k = c),
    AW G M_X4_lookAt 2 0 0 18 [some (.ref 7), some (.ref 0), some (.int (nI k))] [] (lw F co F.M.1 h p hlf plf mb) K KX := by
  intro c
  induction c using Nat.strongRecOn with | ind c ih => ?_
  intro k hk co hc hc9
  obtain ⟨h1, h2, h3⟩ := id hF
  refine wp_ok (M := M_X4_lookAt) hg ok_X4_lookAt (lkp [(18, [true, true, true])]) 60 _ _ _ _ _ _ ?_
  repeat' (first | refine And.intro ?_ ?_ | (with_reducible intro h9; exact absurd h9 (by simp only [cI, cN]; decide +kernel)) | with_reducible intro _ | exact (rfl : narrow _ _ = _) | decide | (unfold vp_in; decide))
  · rename_i g
    simp (discharger := omega) only [cI, nI_leI] at g
    have : k = F.M.1 := by omega
    subst this
    exact hK co hc
  · rename_i g
    simp (discharger := omega) only [cN, nI_leI] at g
    refine cc0 [1, 2] (tb_get hg 8 2 F.M.1 k 0 F.M.2 h1 (by omega) (by omega) (by omega) (by omega) (by omega)) (by decide) (by decide) (by decide) rfl (by repeat' (first | exact trivial | refine And.intro ?_ ?_ | rfl)) (by first | rfl | (simp (discharger := omega) only [renVs, renV, rnI, cI, cN, ← nI_0, nI_ltI, nI_leI, nI_eq, nI_add, pk_mul, pk_sub, nI_clamp, vinI, not_true_eq_false, not_false_eq_true, iK0, iK1, iK2, iK3, iK4, iK5, iKm1, bK6, bK7, bK8, bK9, bK10, bK12, bK14, bK15, bK16, bK20, bK21, bK26, bK30, bK32, bK33, bK45, bK48, bK57, bK59, bK60, bK62, bK63, bK64, bK80, bK93, bK98, bK99, bK100, bK104, bK107, bK109, bK110, bK112, bK113, bK114, bK115, bK116, bK119, sK255, sK256, sK500, sK700, sK798, sK912, sK1400, sK2000])) ?_
    (rintro _ _ ⟨rfl, rfl⟩) <;> (repeat' (first | refine And.intro ?_ ?_ | (with_reducible intro h9; exact absurd h9 (by simp only [cI, cN]; decide +kernel)) | with_reducible intro _ | exact (rfl : narrow _ _ = _) | decide | (unfold vp_in; decide)))
    · rw [vinI (by omega)]; omega
    · exact AW.cg (ih _ (by omega) (k + 1) (by omega) (upd co k (F.m k 0)) (fun j hj => by
        by_cases e : j = k
        · subst e; rw [upd_eq]
        · rw [upd_ne e]; exact hc j (by omega)) rfl) rfl rfl rfl (by first | rfl | (simp (discharger := omega) only [msk, clr_i, clr_r, cI, cN, ← nI_0, nI_ltI, nI_leI, nI_eq, nI_add, pk_mul, pk_sub, nI_clamp, vinI, not_true_eq_false, not_false_eq_true, iK0, iK1, iK2, iK3, iK4, iK5, iKm1, bK6, bK7, bK8, bK9, bK10, bK12, bK14, bK15, bK16, bK20, bK21, bK26, bK30, bK32, bK33, bK45, bK48, bK57, bK59, bK60, bK62, bK63, bK64, bK80, bK93, bK98, bK99, bK100, bK104, bK107, bK109, bK110, bK112, bK113, bK114, bK115, bK116, bK119, sK255, sK256, sK500, sK700, sK798, sK912, sK1400, sK2000]; done) | (simp (discharger := omega) only [msk, clr_i, clr_r, cI, cN, ← nI_0, nI_ltI, nI_leI, nI_eq, nI_add, pk_mul, pk_sub, nI_clamp, vinI, not_true_eq_false, not_false_eq_true, iK0, iK1, iK2, iK3, iK4, iK5, iKm1, bK6, bK7, bK8, bK9, bK10, bK12, bK14, bK15, bK16, bK20, bK21, bK26, bK30, bK32, bK33, bK45, bK48, bK57, bK59, bK60, bK62, bK63, bK64, bK80, bK93, bK98, bK99, bK100, bK104, bK107, bK109, bK110, bK112, bK113, bK114, bK115, bK116, bK119, sK255, sK256, sK500, sK700, sK798, sK912, sK1400, sK2000]; rfl)) rfl (by rw [nI_clamp (by omega)]; rfl)
set_option maxRecDepth 20000 in
theorem pr_look (hg : gOK G) (F : fT) (hF : fB F) (co : Nat → Int32) (n : Nat) (h p : Int32) (hlf plf mb : Nat → Int32) : Spec G 2 0 0 m_X4_lookAt [.ref 7, .ref 0] (lw F co n h p hlf plf mb) (fun v w' => v = none ∧ ∃ co, (∀ k, k < F.M.1 → co k = F.m k 0) ∧ w' = lw F co F.M.1 F.h F.p hlf plf mb) NX := by
  have h1 := hF.1
  have e : (if nI F.M.1 < nI 8 then nI F.M.1 else nI 8) = nI F.M.1 := by
    by_cases z : F.M.1 < 8
    · rw [if_pos ((nI_ltI (by omega) (by omega)).mpr z)]
    · rw [if_neg (fun y => z ((nI_ltI (by omega) (by omega)).mp y))]; congr 1; omega
  refine wp_spec (M := M_X4_lookAt) hg ok_X4_lookAt (lkp [(18, [true, true, true])]) 60 rfl rfl ?_
  repeat' (first | refine And.intro ?_ ?_ | (with_reducible intro h9; exact absurd h9 (by simp only [cI, cN]; decide +kernel)) | with_reducible intro _ | exact (rfl : narrow _ _ = _) | decide | (unfold vp_in; decide))
  refine cc0 [1, 2] (tb_size hg 8 2 F.M.1 F.M.2) (by decide) (by decide) (by decide) rfl (by repeat' (first | exact trivial | refine And.intro ?_ ?_ | rfl)) (by first | rfl | (simp (discharger := omega) only [renVs, renV, rnI, cI, cN, ← nI_0, nI_ltI, nI_leI, nI_eq, nI_add, pk_mul, pk_sub, nI_clamp, vinI, not_true_eq_false, not_false_eq_true, iK0, iK1, iK2, iK3, iK4, iK5, iKm1, bK6, bK7, bK8, bK9, bK10, bK12, bK14, bK15, bK16, bK20, bK21, bK26, bK30, bK32, bK33, bK45, bK48, bK57, bK59, bK60, bK62, bK63, bK64, bK80, bK93, bK98, bK99, bK100, bK104, bK107, bK109, bK110, bK112, bK113, bK114, bK115, bK116, bK119, sK255, sK256, sK500, sK700, sK798, sK912, sK1400, sK2000])) ?_
  (rintro _ _ ⟨rfl, rfl⟩) <;> (repeat' (first | refine And.intro ?_ ?_ | (with_reducible intro h9; exact absurd h9 (by simp only [cI, cN]; decide +kernel)) | with_reducible intro _ | exact (rfl : narrow _ _ = _) | decide | (unfold vp_in; decide)))
  have e' : (if nI F.M.1 < (Int8.ofInt 8).toInt32 then nI F.M.1 else (Int8.ofInt 8).toInt32) = nI F.M.1 := by rw [bK8]; exact e
  exact AW.cg (pr_look_l hg F hF h p hlf plf mb (fun co q => ⟨rfl, co, q, rfl⟩) _ 0 (by omega) co (fun j hj => by omega) rfl) rfl rfl rfl (by first | rfl | (simp (discharger := omega) only [msk, clr_i, clr_r, cI, cN, ← nI_0, nI_ltI, nI_leI, nI_eq, nI_add, pk_mul, pk_sub, nI_clamp, vinI, not_true_eq_false, not_false_eq_true, iK0, iK1, iK2, iK3, iK4, iK5, iKm1, bK6, bK7, bK8, bK9, bK10, bK12, bK14, bK15, bK16, bK20, bK21, bK26, bK30, bK32, bK33, bK45, bK48, bK57, bK59, bK60, bK62, bK63, bK64, bK80, bK93, bK98, bK99, bK100, bK104, bK107, bK109, bK110, bK112, bK113, bK114, bK115, bK116, bK119, sK255, sK256, sK500, sK700, sK798, sK912, sK1400, sK2000]; done) | (simp (discharger := omega) only [msk, clr_i, clr_r, cI, cN, ← nI_0, nI_ltI, nI_leI, nI_eq, nI_add, pk_mul, pk_sub, nI_clamp, vinI, not_true_eq_false, not_false_eq_true, iK0, iK1, iK2, iK3, iK4, iK5, iKm1, bK6, bK7, bK8, bK9, bK10, bK12, bK14, bK15, bK16, bK20, bK21, bK26, bK30, bK32, bK33, bK45, bK48, bK57, bK59, bK60, bK62, bK63, bK64, bK80, bK93, bK98, bK99, bK100, bK104, bK107, bK109, bK110, bK112, bK113, bK114, bK115, bK116, bK119, sK255, sK256, sK500, sK700, sK798, sK912, sK1400, sK2000]; rfl)) rfl (by (rw [e']) <;> rfl)
end PP
