/-! ===== Pouring ===== -/
theorem sub_ltI {a b c : Nat} (ha : a < 2 ^ 20) (hb : b < 2 ^ 20) (hc : c < 2 ^ 20) : nI a - nI b < nI c ↔ a < b + c := by
  rw [Int32.lt_iff_toInt_lt, pk_sub_toInt (by omega) (by omega), nI_toInt (by omega)]
  omega
theorem sub_subI (x : Int32) (a b : Nat) : x - nI a - nI b = x - nI (a + b) := by
  rw [← nI_add, Int32.sub_eq_add_neg, Int32.sub_eq_add_neg, Int32.sub_eq_add_neg, Int32.neg_add, Int32.sub_eq_add_neg, Int32.add_assoc]
/-- the numbers of pouring -/
def pOK (D : pT) (co : Nat → Int32) : Prop := D.2.1 ≤ 8 ∧ D.2.2.1 ≤ 1400 ∧ 20 ≤ D.2.2.1 ∧ D.2.2.2 ≤ 2000 ∧ (∀ k, 10 ≤ D.1 k ∧ D.1 k ≤ 60) ∧ ∀ k, k < D.2.1 → co k = nI (D.1 k)
def pw (D : pT) (co hlf plf mb : Nat → Int32) : xW := [.inr (7, [.ref 1, .int (nI D.2.1), .int (nI D.2.2.1), .int (nI D.2.2.2), .ref 2, .ref 3, .ref 4]), .inl (0, 8, .inl co), .inl (0, 256, .inl hlf), .inl (0, 256, .inl plf), .inl (0, 256, .inl mb)]
def hv (D : pT) (s : Nat) : Int32 := nI (max 20 (D.2.2.1 - sumB (fH D.1) s D.2.1))
def pv (D : pT) (s : Nat) : Int32 := nI D.2.2.2 - nI (sumB (fP D.1) s D.2.1)
theorem sH_le {D : pT} {co : Nat → Int32} (h : pOK D co) (s : Nat) : sumB (fH D.1) s D.2.1 ≤ 500 := by
  have h1 := sumB_le (f := fH D.1) (B := 62) (s := s) (fun k => by have := (h.2.2.2.2.1 k).2; unfold fH; omega) D.2.1
  have := h.1
  omega
theorem sP_le {D : pT} {co : Nat → Int32} (h : pOK D co) (s : Nat) : sumB (fP D.1) s D.2.1 ≤ 2500 := by
  have h1 := sumB_le (f := fP D.1) (B := 310) (s := s) (fun k => by have := (h.2.2.2.2.1 k).2; unfold fP; omega) D.2.1
  have := h.1
  omega
theorem hap_nI {h c : Nat} (hh : h ≤ 1400) (hc : c ≤ 60) : hap (nI h) (nI c) = nI (max 20 (h - (c + 2))) := by
  have e : (nI 5 * nI c + nI 10) / nI 5 = nI (c + 2) := by
    rw [pk_mul, nI_add, pk_div (by omega) (by omega) (by omega)]
    congr 1
    omega
  unfold hap
  rw [e]
  rcases Nat.lt_or_ge h (c + 2) with q | q
  · have e2 : ¬ nI 20 < nI h - nI (c + 2) := by
      rw [Int32.lt_iff_toInt_lt, pk_sub_toInt (by omega) (by omega), nI_toInt (by omega)]
      omega
    rw [if_neg e2]
    congr 1
    omega
  · rw [pk_sub q]
    by_cases q2 : 20 < h - (c + 2)
    · rw [if_pos ((nI_ltI (by omega) (by omega)).mpr q2)]
      congr 1; omega
    · rw [if_neg (fun z => q2 ((nI_ltI (by omega) (by omega)).mp z))]
      congr 1; omega
section PP
variable {G : gT}
set_option maxRecDepth 20000 in
theorem pr_enough (hg : gOK G) (c h p : Int32) : Spec G 2 0 0 m_X4_isEnough [.int c, .int h, .int p] [] (fun v w' => ((v = some (.int (nI 1)) ∧ ¬ h < nI 700 + nI 8 * c ∧ ¬ p < nI 5 * c + nI 10) ∨ (v = some (.int (nI 0)) ∧ (h < nI 700 + nI 8 * c ∨ p < nI 5 * c + nI 10))) ∧ w' = []) NX := by
  refine wp_spec (M := M_X4_isEnough) hg ok_X4_isEnough cut0 60 rfl rfl ?_
  repeat' (first | refine And.intro ?_ ?_ | (with_reducible intro h9; exact absurd h9 (by simp only [cI, cN]; decide +kernel)) | with_reducible intro _ | exact (rfl : narrow _ _ = _) | decide | (unfold vp_in; decide))
  refine cc0 [] (bc_heat hg c) (by decide) (by decide) (by decide) rfl (by repeat' (first | exact trivial | refine And.intro ?_ ?_ | rfl)) (by first | rfl | (simp (discharger := omega) only [renVs, renV, rnI, cI, cN, ← nI_0, nI_ltI, nI_leI, nI_eq, nI_add, pk_mul, pk_sub, nI_clamp, vinI, not_true_eq_false, not_false_eq_true, iK0, iK1, iK2, iK3, iK4, iK5, iKm1, bK6, bK7, bK8, bK9, bK10, bK12, bK14, bK15, bK16, bK20, bK21, bK26, bK30, bK32, bK33, bK45, bK48, bK57, bK59, bK60, bK62, bK63, bK64, bK80, bK93, bK98, bK99, bK100, bK104, bK107, bK109, bK110, bK112, bK113, bK114, bK115, bK116, bK119, sK255, sK256, sK500, sK700, sK798, sK912, sK1400, sK2000])) ?_
  (rintro _ _ ⟨rfl, rfl⟩) <;> (repeat' (first | refine And.intro ?_ ?_ | (with_reducible intro h9; exact absurd h9 (by simp only [cI, cN]; decide +kernel)) | with_reducible intro _ | exact (rfl : narrow _ _ = _) | decide | (unfold vp_in; decide)))
  · rename_i g
    exact Or.inr ⟨rfl, Or.inl g⟩
  · rename_i g
    refine cc0 [] (bc_pounds hg c) (by decide) (by decide) (by decide) rfl (by repeat' (first | exact trivial | refine And.intro ?_ ?_ | rfl)) (by first | rfl | (simp (discharger := omega) only [renVs, renV, rnI, cI, cN, ← nI_0, nI_ltI, nI_leI, nI_eq, nI_add, pk_mul, pk_sub, nI_clamp, vinI, not_true_eq_false, not_false_eq_true, iK0, iK1, iK2, iK3, iK4, iK5, iKm1, bK6, bK7, bK8, bK9, bK10, bK12, bK14, bK15, bK16, bK20, bK21, bK26, bK30, bK32, bK33, bK45, bK48, bK57, bK59, bK60, bK62, bK63, bK64, bK80, bK93, bK98, bK99, bK100, bK104, bK107, bK109, bK110, bK112, bK113, bK114, bK115, bK116, bK119, sK255, sK256, sK500, sK700, sK798, sK912, sK1400, sK2000])) ?_
    (rintro _ _ ⟨rfl, rfl⟩) <;> (repeat' (first | refine And.intro ?_ ?_ | (with_reducible intro h9; exact absurd h9 (by simp only [cI, cN]; decide +kernel)) | with_reducible intro _ | exact (rfl : narrow _ _ = _) | decide | (unfold vp_in; decide)))
    · rename_i g2
      exact Or.inr ⟨rfl, Or.inr g2⟩
    · rename_i g2
      exact Or.inl ⟨rfl, g, g2⟩
set_option maxRecDepth 20000 in
theorem pr_next (hg : gOK G) (D : pT) (co hlf plf mb : Nat → Int32) (hp : pOK D co) (s k : Nat) (hs : s < 2 ^ D.2.1) (hk : k < D.2.1) (hh : hlf s = hv D s) (hq : plf s = pv D s) : Spec G 3 0 0 m_X4_pouredWithNext [.ref 0, .int (nI s), .int (nI k)] (pw D co hlf plf mb) (fun v w' => ((avl D s k ∧ v = some (.int (nI 1 + mb (sb s k)))) ∨ (¬ avl D s k ∧ v = some (.int (nI 0)))) ∧ w' = pw D co hlf plf mb) NX := by
  have hn := hp.1
  have h256 : s < 256 := Nat.lt_of_lt_of_le hs (p2_le hn)
  have hk8 : k < 8 := by omega
  have hb := sb_256 h256 hk8
  have eo := b_or8 h256 hk8
  have eo1 : nI s ||| nI 1 <<< (nI k &&& 31) = nI (sb s k) := by rw [← iK1]; exact eo
  have hck := hp.2.2.2.2.2 k hk
  have hcb := hp.2.2.2.2.1 k
  have hH := sH_le hp s
  have hP := sP_le hp s
  have h14 := hp.2.1
  have h20 := hp.2.2.2.1
  refine wp_spec (M := M_X4_pouredWithNext) hg ok_X4_pouredWithNext cut0 90 rfl rfl ?_
  repeat' (first | refine And.intro ?_ ?_ | (with_reducible intro h9; exact absurd h9 (by simp only [cI, cN]; decide +kernel)) | with_reducible intro _ | exact (rfl : narrow _ _ = _) | decide | (unfold vp_in; decide))
  all_goals try (exfalso; rename_i h9; simp (discharger := omega) only [eo1, cI, cN, ← nI_0, nI_ltI, nI_leI, nI_eq, nI_add, pk_mul, pk_sub, nI_clamp, vinI, not_true_eq_false, not_false_eq_true, iK0, iK1, iK2, iK3, iK4, iK5, iKm1, bK6, bK7, bK8, bK9, bK10, bK12, bK14, bK15, bK16, bK20, bK21, bK26, bK30, bK32, bK33, bK45, bK48, bK57, bK59, bK60, bK62, bK63, bK64, bK80, bK93, bK98, bK99, bK100, bK104, bK107, bK109, bK110, bK112, bK113, bK114, bK115, bK116, bK119, sK255, sK256, sK500, sK700, sK798, sK912, sK1400, sK2000] at h9 <;> first | done | omega)
  · rename_i g
    simp only [cI, eo] at g
    rw [nI_eq (by omega) (by omega)] at g
    refine Or.inr ⟨fun z => ?_, rfl⟩
    have := (sb_ok ⟨s, h256⟩ ⟨k, hk8⟩ z.2.1).1
    have h2 : 0 < 2 ^ k := Nat.two_pow_pos k
    simp only at this
    omega
  · rfl
  all_goals try (simp (discharger := omega) only [eo1, hh, hq, upd_ne, upd_eq, cI, cN, ← nI_0, nI_ltI, nI_leI, nI_eq, nI_add, pk_mul, pk_sub, nI_clamp, vinI, not_true_eq_false, not_false_eq_true, iK0, iK1, iK2, iK3, iK4, iK5, iKm1, bK6, bK7, bK8, bK9, bK10, bK12, bK14, bK15, bK16, bK20, bK21, bK26, bK30, bK32, bK33, bK45, bK48, bK57, bK59, bK60, bK62, bK63, bK64, bK80, bK93, bK98, bK99, bK100, bK104, bK107, bK109, bK110, bK112, bK113, bK114, bK115, bK116, bK119, sK255, sK256, sK500, sK700, sK798, sK912, sK1400, sK2000] <;> first | done | omega)
  all_goals try (exfalso; rename_i h9; simp (discharger := omega) only [eo1, cI, cN, ← nI_0, nI_ltI, nI_leI, nI_eq, nI_add, pk_mul, pk_sub, nI_clamp, vinI, not_true_eq_false, not_false_eq_true, iK0, iK1, iK2, iK3, iK4, iK5, iKm1, bK6, bK7, bK8, bK9, bK10, bK12, bK14, bK15, bK16, bK20, bK21, bK26, bK30, bK32, bK33, bK45, bK48, bK57, bK59, bK60, bK62, bK63, bK64, bK80, bK93, bK98, bK99, bK100, bK104, bK107, bK109, bK110, bK112, bK113, bK114, bK115, bK116, bK119, sK255, sK256, sK500, sK700, sK798, sK912, sK1400, sK2000] at h9 <;> first | done | omega)
  rename_i g g2
  simp only [cN, eo] at g
  rw [nI_eq (by omega) (by omega)] at g
  have hbit : s.testBit k = false := by
    cases hz : s.testBit k with
    | false => rfl
    | true => exact absurd (sb_same ⟨s, h256⟩ ⟨k, hk8⟩ hz) g
  rw [nI_clamp (by omega), nI_clamp (by omega), hck, hh, hq]
  refine cc0 [] (pr_enough hg _ _ _) (by decide) (by decide) (by decide) rfl (by repeat' (first | exact trivial | refine And.intro ?_ ?_ | rfl)) (by first | rfl | (simp (discharger := omega) only [renVs, renV, rnI, cI, cN, ← nI_0, nI_ltI, nI_leI, nI_eq, nI_add, pk_mul, pk_sub, nI_clamp, vinI, not_true_eq_false, not_false_eq_true, iK0, iK1, iK2, iK3, iK4, iK5, iKm1, bK6, bK7, bK8, bK9, bK10, bK12, bK14, bK15, bK16, bK20, bK21, bK26, bK30, bK32, bK33, bK45, bK48, bK57, bK59, bK60, bK62, bK63, bK64, bK80, bK93, bK98, bK99, bK100, bK104, bK107, bK109, bK110, bK112, bK113, bK114, bK115, bK116, bK119, sK255, sK256, sK500, sK700, sK798, sK912, sK1400, sK2000])) ?_
  (rintro _ _ ⟨⟨rfl, q1, q2⟩ | ⟨rfl, q⟩, rfl⟩) <;> (repeat' (first | refine And.intro ?_ ?_ | (with_reducible intro h9; exact absurd h9 (by simp only [cI, cN]; decide +kernel)) | with_reducible intro _ | exact (rfl : narrow _ _ = _) | decide | (unfold vp_in; decide)))
  · rw [eo, vinI (by omega)]; omega
  · have ha : avl D s k := by
      refine ⟨hk, hbit, ?_, ?_⟩
      · unfold hv at q1
        rw [pk_mul, nI_add, nI_ltI (by omega) (by omega)] at q1
        omega
      · unfold pv at q2
        rw [pk_mul, nI_add, sub_ltI (by omega) (by omega) (by omega)] at q2
        omega
    rw [eo, nI_clamp (by omega)]
    exact Or.inl ⟨ha, rfl⟩
  · rfl
  · refine Or.inr ⟨fun ha => ?_, rfl⟩
    have h1 := ha.2.2.1
    have h2 := ha.2.2.2
    rcases q with q | q
    · unfold hv at q
      rw [pk_mul, nI_add, nI_ltI (by omega) (by omega)] at q
      omega
    · unfold pv at q
      rw [pk_mul, nI_add, sub_ltI (by omega) (by omega) (by omega)] at q
      omega
  · rfl
set_option maxRecDepth 20000 in
theorem pr_weigh_i (hg : gOK G) (D : pT) (co mb : Nat → Int32) (hp : pOK D co) (j : Nat) (hj : j < D.2.1) {K : Option Value → xW → Prop} {KX : Nat → xW → Prop} (hK : ∀ hlf plf, (∀ s, s < 2 ^ (j + 1) → hlf s = hv D s ∧ plf s = pv D s) → AW G M_X4_weighWhatIsLeft 3 0 0 94 [some (.ref 0), some (.int (nI j)), none, none] [] (pw D co hlf plf mb) K KX) : ∀ (c t : Nat) (ht : t ≤ 2 ^ j) (hlf plf : Nat → Int32) (h1 : ∀ s, s < 2 ^ j + t → hlf s = hv D s ∧ plf s = pv D s) (hc9 : 2 ^ j - t = c),
    AW G M_X4_weighWhatIsLeft 3 0 0 36 [some (.ref 0), some (.int (nI j)), some (.int (nI (2 ^ j))), some (.int (nI t))] [] (pw D co hlf plf mb) K KX := by
  intro c
  induction c using Nat.strongRecOn with | ind c ih => ?_
  intro t ht hlf plf h1 hc9
  have hn := hp.1
  have h128 : 2 ^ j ≤ 128 := Nat.le_trans (Nat.pow_le_pow_right (by omega) (show j ≤ 7 by omega)) (by decide)
  have hck := hp.2.2.2.2.2 j hj
  have hcb := hp.2.2.2.2.1 j
  have h14 := hp.2.1
  have h2s : 2 ^ (j + 1) = 2 ^ j + 2 ^ j := by rw [Nat.pow_succ]; omega
  refine wp_ok (M := M_X4_weighWhatIsLeft) hg ok_X4_weighWhatIsLeft (lkp [(36, [true, true, true, true]), (94, [true, true, false, false])]) 60 _ _ _ _ _ _ ?_
  repeat' (first | refine And.intro ?_ ?_ | (with_reducible intro h9; exact absurd h9 (by simp only [cI, cN]; decide +kernel)) | with_reducible intro _ | exact (rfl : narrow _ _ = _) | decide | (unfold vp_in; decide))
  · rename_i g
    simp (discharger := omega) only [cI, nI_leI] at g
    exact hK hlf plf (fun s hs => h1 s (by omega))
  · rename_i g
    rw [vinI (by omega)]
    simp (discharger := omega) only [cN, nI_leI] at g
    omega
  · rename_i g
    rw [vinI (by omega)]
    omega
  rename_i g
  simp (discharger := omega) only [cN, nI_leI] at g
  have htj : t < 2 ^ j := by omega
  have e1 := h1 t (by omega)
  have hbit : t.testBit j = false := hi_bit ⟨t, by omega⟩ ⟨j, by omega⟩ ⟨j, by omega⟩ htj (Nat.le_refl _)
  have esb := (sb_ok ⟨t, by omega⟩ ⟨j, by omega⟩ hbit).1
  simp only at esb
  have hH := sH_le hp t
  have hP := sP_le hp t
  have eh : hap (hv D t) (nI (D.1 j)) = hv D (t + 2 ^ j) := by
    unfold hv
    rw [← esb, sumB_sb (by omega) (by omega) hbit hn, if_pos hj, hap_nI (by omega) hcb.2]
    congr 1
    show _ = max 20 (D.2.2.1 - (_ + (D.1 j + 2)))
    omega
  have ep : pv D t - (nI 5 * nI (D.1 j) + nI 10) = pv D (t + 2 ^ j) := by
    unfold pv
    rw [← esb, sumB_sb (by omega) (by omega) hbit hn, if_pos hj, pk_mul, nI_add, sub_subI]
    rfl
  rw [nI_clamp (by omega), nI_clamp (by omega), e1.1, hck]
  refine cc0 [] (bc_after hg _ _) (by decide) (by decide) (by decide) rfl (by repeat' (first | exact trivial | refine And.intro ?_ ?_ | rfl)) (by first | rfl | (simp (discharger := omega) only [renVs, renV, rnI, cI, cN, ← nI_0, nI_ltI, nI_leI, nI_eq, nI_add, pk_mul, pk_sub, nI_clamp, vinI, not_true_eq_false, not_false_eq_true, iK0, iK1, iK2, iK3, iK4, iK5, iKm1, bK6, bK7, bK8, bK9, bK10, bK12, bK14, bK15, bK16, bK20, bK21, bK26, bK30, bK32, bK33, bK45, bK48, bK57, bK59, bK60, bK62, bK63, bK64, bK80, bK93, bK98, bK99, bK100, bK104, bK107, bK109, bK110, bK112, bK113, bK114, bK115, bK116, bK119, sK255, sK256, sK500, sK700, sK798, sK912, sK1400, sK2000])) ?_
  (rintro _ _ ⟨rfl, rfl⟩) <;> (repeat' (first | refine And.intro ?_ ?_ | (with_reducible intro h9; exact absurd h9 (by simp only [cI, cN]; decide +kernel)) | with_reducible intro _ | exact (rfl : narrow _ _ = _) | decide | (unfold vp_in; decide)))
  all_goals try (simp (discharger := omega) only [upd_ne, upd_eq, cI, cN, ← nI_0, nI_ltI, nI_leI, nI_eq, nI_add, pk_mul, pk_sub, nI_clamp, vinI, not_true_eq_false, not_false_eq_true, iK0, iK1, iK2, iK3, iK4, iK5, iKm1, bK6, bK7, bK8, bK9, bK10, bK12, bK14, bK15, bK16, bK20, bK21, bK26, bK30, bK32, bK33, bK45, bK48, bK57, bK59, bK60, bK62, bK63, bK64, bK80, bK93, bK98, bK99, bK100, bK104, bK107, bK109, bK110, bK112, bK113, bK114, bK115, bK116, bK119, sK255, sK256, sK500, sK700, sK798, sK912, sK1400, sK2000] <;> first | done | omega)
  refine cc0 [] (bc_pounds hg _) (by decide) (by decide) (by decide) rfl (by repeat' (first | exact trivial | refine And.intro ?_ ?_ | rfl)) (by first | rfl | (simp (discharger := omega) only [renVs, renV, rnI, cI, cN, ← nI_0, nI_ltI, nI_leI, nI_eq, nI_add, pk_mul, pk_sub, nI_clamp, vinI, not_true_eq_false, not_false_eq_true, iK0, iK1, iK2, iK3, iK4, iK5, iKm1, bK6, bK7, bK8, bK9, bK10, bK12, bK14, bK15, bK16, bK20, bK21, bK26, bK30, bK32, bK33, bK45, bK48, bK57, bK59, bK60, bK62, bK63, bK64, bK80, bK93, bK98, bK99, bK100, bK104, bK107, bK109, bK110, bK112, bK113, bK114, bK115, bK116, bK119, sK255, sK256, sK500, sK700, sK798, sK912, sK1400, sK2000])) ?_
  (rintro _ _ ⟨rfl, rfl⟩) <;> (repeat' (first | refine And.intro ?_ ?_ | (with_reducible intro h9; exact absurd h9 (by simp only [cI, cN]; decide +kernel)) | with_reducible intro _ | exact (rfl : narrow _ _ = _) | decide | (unfold vp_in; decide)))
  all_goals try (simp (discharger := omega) only [upd_ne, upd_eq, cI, cN, ← nI_0, nI_ltI, nI_leI, nI_eq, nI_add, pk_mul, pk_sub, nI_clamp, vinI, not_true_eq_false, not_false_eq_true, iK0, iK1, iK2, iK3, iK4, iK5, iKm1, bK6, bK7, bK8, bK9, bK10, bK12, bK14, bK15, bK16, bK20, bK21, bK26, bK30, bK32, bK33, bK45, bK48, bK57, bK59, bK60, bK62, bK63, bK64, bK80, bK93, bK98, bK99, bK100, bK104, bK107, bK109, bK110, bK112, bK113, bK114, bK115, bK116, bK119, sK255, sK256, sK500, sK700, sK798, sK912, sK1400, sK2000] <;> first | done | omega)
  refine AW.cg (ih _ (by omega) (t + 1) (by omega) (upd hlf (t + 2 ^ j) (hv D (t + 2 ^ j))) (upd plf (t + 2 ^ j) (pv D (t + 2 ^ j))) (fun s hs => ?_) rfl) rfl rfl rfl (by first | rfl | (simp (discharger := omega) only [msk, clr_i, clr_r, cI, cN, ← nI_0, nI_ltI, nI_leI, nI_eq, nI_add, pk_mul, pk_sub, nI_clamp, vinI, not_true_eq_false, not_false_eq_true, iK0, iK1, iK2, iK3, iK4, iK5, iKm1, bK6, bK7, bK8, bK9, bK10, bK12, bK14, bK15, bK16, bK20, bK21, bK26, bK30, bK32, bK33, bK45, bK48, bK57, bK59, bK60, bK62, bK63, bK64, bK80, bK93, bK98, bK99, bK100, bK104, bK107, bK109, bK110, bK112, bK113, bK114, bK115, bK116, bK119, sK255, sK256, sK500, sK700, sK798, sK912, sK1400, sK2000]; done) | (simp (discharger := omega) only [msk, clr_i, clr_r, cI, cN, ← nI_0, nI_ltI, nI_leI, nI_eq, nI_add, pk_mul, pk_sub, nI_clamp, vinI, not_true_eq_false, not_false_eq_true, iK0, iK1, iK2, iK3, iK4, iK5, iKm1, bK6, bK7, bK8, bK9, bK10, bK12, bK14, bK15, bK16, bK20, bK21, bK26, bK30, bK32, bK33, bK45, bK48, bK57, bK59, bK60, bK62, bK63, bK64, bK80, bK93, bK98, bK99, bK100, bK104, bK107, bK109, bK110, bK112, bK113, bK114, bK115, bK116, bK119, sK255, sK256, sK500, sK700, sK798, sK912, sK1400, sK2000]; rfl)) rfl ?_
  · by_cases z : s = t + 2 ^ j
    · subst z
      rw [upd_eq, upd_eq]
      exact ⟨rfl, rfl⟩
    · rw [upd_ne z, upd_ne z]
      exact h1 s (by omega)
  · rw [← eh, ← ep]
    simp (discharger := omega) only [pw, nI_add, nI_clamp, e1.2, hck]
theorem pr_weigh_o (hg : gOK G) (D : pT) (co mb : Nat → Int32) (hp : pOK D co) {K : Option Value → xW → Prop} {KX : Nat → xW → Prop} (hK : ∀ hlf plf, (∀ s, s < 2 ^ D.2.1 → hlf s = hv D s ∧ plf s = pv D s) → K none (pw D co hlf plf mb)) : ∀ (c j : Nat) (hj : j ≤ D.2.1) (hlf plf : Nat → Int32) (h1 : ∀ s, s < 2 ^ j → hlf s = hv D s ∧ plf s = pv D s) (hc9 : D.2.1 - j = c),
    AW G M_X4_weighWhatIsLeft 3 0 0 22 [some (.ref 0), some (.int (nI j)), none, none] [] (pw D co hlf plf mb) K KX := by
  intro c
  induction c using Nat.strongRecOn with | ind c ih => ?_
  intro j hj hlf plf h1 hc9
  have hn := hp.1
  refine wp_ok (M := M_X4_weighWhatIsLeft) hg ok_X4_weighWhatIsLeft (lkp [(22, [true, true, false, false]), (36, [true, true, true, true])]) 60 _ _ _ _ _ _ ?_
  repeat' (first | refine And.intro ?_ ?_ | (with_reducible intro h9; exact absurd h9 (by simp only [cI, cN]; decide +kernel)) | with_reducible intro _ | exact (rfl : narrow _ _ = _) | decide | (unfold vp_in; decide))
  · rename_i g
    simp (discharger := omega) only [cI, nI_leI] at g
    have : j = D.2.1 := by omega
    subst this
    exact hK hlf plf h1
  · rename_i g
    simp (discharger := omega) only [cN, nI_leI] at g
    have ep := bs_pow ⟨j, by omega⟩
    simp only at ep
    refine AW.cg (pr_weigh_i hg D co mb hp j (by omega) (fun hlf plf h2 => ?_) _ 0 (Nat.zero_le _) hlf plf (fun s hs => h1 s (by omega)) rfl) rfl rfl rfl ?_ rfl rfl
    · refine wp_ok (M := M_X4_weighWhatIsLeft) hg ok_X4_weighWhatIsLeft (lkp [(22, [true, true, false, false])]) 60 _ _ _ _ _ _ ?_
      repeat' (first | refine And.intro ?_ ?_ | (with_reducible intro h9; exact absurd h9 (by simp only [cI, cN]; decide +kernel)) | with_reducible intro _ | exact (rfl : narrow _ _ = _) | decide | (unfold vp_in; decide))
      exact AW.cg (ih _ (by omega) (j + 1) (by omega) hlf plf h2 rfl) rfl rfl rfl (by first | rfl | (simp (discharger := omega) only [msk, clr_i, clr_r, cI, cN, ← nI_0, nI_ltI, nI_leI, nI_eq, nI_add, pk_mul, pk_sub, nI_clamp, vinI, not_true_eq_false, not_false_eq_true, iK0, iK1, iK2, iK3, iK4, iK5, iKm1, bK6, bK7, bK8, bK9, bK10, bK12, bK14, bK15, bK16, bK20, bK21, bK26, bK30, bK32, bK33, bK45, bK48, bK57, bK59, bK60, bK62, bK63, bK64, bK80, bK93, bK98, bK99, bK100, bK104, bK107, bK109, bK110, bK112, bK113, bK114, bK115, bK116, bK119, sK255, sK256, sK500, sK700, sK798, sK912, sK1400, sK2000]; done) | (simp (discharger := omega) only [msk, clr_i, clr_r, cI, cN, ← nI_0, nI_ltI, nI_leI, nI_eq, nI_add, pk_mul, pk_sub, nI_clamp, vinI, not_true_eq_false, not_false_eq_true, iK0, iK1, iK2, iK3, iK4, iK5, iKm1, bK6, bK7, bK8, bK9, bK10, bK12, bK14, bK15, bK16, bK20, bK21, bK26, bK30, bK32, bK33, bK45, bK48, bK57, bK59, bK60, bK62, bK63, bK64, bK80, bK93, bK98, bK99, bK100, bK104, bK107, bK109, bK110, bK112, bK113, bK114, bK115, bK116, bK119, sK255, sK256, sK500, sK700, sK798, sK912, sK1400, sK2000]; rfl)) rfl rfl
    · rw [← ep]
      rfl
set_option maxRecDepth 20000 in
theorem pr_weigh (hg : gOK G) (D : pT) (co hlf0 plf0 mb : Nat → Int32) (hp : pOK D co) : Spec G 3 0 0 m_X4_weighWhatIsLeft [.ref 0] (pw D co hlf0 plf0 mb) (fun v w' => v = none ∧ ∃ hlf plf, (∀ s, s < 2 ^ D.2.1 → hlf s = hv D s ∧ plf s = pv D s) ∧ w' = pw D co hlf plf mb) NX := by
  have h20 := hp.2.2.1
  refine wp_spec (M := M_X4_weighWhatIsLeft) hg ok_X4_weighWhatIsLeft (lkp [(22, [true, true, false, false])]) 60 rfl rfl ?_
  repeat' (first | refine And.intro ?_ ?_ | (with_reducible intro h9; exact absurd h9 (by simp only [cI, cN]; decide +kernel)) | with_reducible intro _ | exact (rfl : narrow _ _ = _) | decide | (unfold vp_in; decide))
  exact AW.cg (pr_weigh_o hg D co mb hp (fun hlf plf h => ⟨rfl, hlf, plf, h, rfl⟩) _ 0 (by omega) (upd hlf0 0 (nI D.2.2.1)) (upd plf0 0 (nI D.2.2.2)) (fun s hs => by
    have : s = 0 := by simp at hs; omega
    subst this
    rw [upd_eq, upd_eq]
    unfold hv pv
    rw [sumB_0, sumB_0]
    refine ⟨by congr 1; omega, ?_⟩
    rw [pk_sub (by omega)]
    rfl) rfl) rfl rfl rfl (by first | rfl | (simp (discharger := omega) only [msk, clr_i, clr_r, cI, cN, ← nI_0, nI_ltI, nI_leI, nI_eq, nI_add, pk_mul, pk_sub, nI_clamp, vinI, not_true_eq_false, not_false_eq_true, iK0, iK1, iK2, iK3, iK4, iK5, iKm1, bK6, bK7, bK8, bK9, bK10, bK12, bK14, bK15, bK16, bK20, bK21, bK26, bK30, bK32, bK33, bK45, bK48, bK57, bK59, bK60, bK62, bK63, bK64, bK80, bK93, bK98, bK99, bK100, bK104, bK107, bK109, bK110, bK112, bK113, bK114, bK115, bK116, bK119, sK255, sK256, sK500, sK700, sK798, sK912, sK1400, sK2000]; done) | (simp (discharger := omega) only [msk, clr_i, clr_r, cI, cN, ← nI_0, nI_ltI, nI_leI, nI_eq, nI_add, pk_mul, pk_sub, nI_clamp, vinI, not_true_eq_false, not_false_eq_true, iK0, iK1, iK2, iK3, iK4, iK5, iKm1, bK6, bK7, bK8, bK9, bK10, bK12, bK14, bK15, bK16, bK20, bK21, bK26, bK30, bK32, bK33, bK45, bK48, bK57, bK59, bK60, bK62, bK63, bK64, bK80, bK93, bK98, bK99, bK100, bK104, bK107, bK109, bK110, bK112, bK113, bK114, bK115, bK116, bK119, sK255, sK256, sK500, sK700, sK798, sK912, sK1400, sK2000]; rfl)) rfl rfl
/-- the most behind each set from lo on -/
def mOk (D : pT) (mb : Nat → Int32) (lo : Nat) : Prop := ∀ s, lo ≤ s → s < 2 ^ D.2.1 → ∃ m, mb s = nI m ∧ m ≤ 8 ∧ isMx D s m
set_option maxRecDepth 20000 in
theorem pr_count_i (hg : gOK G) (D : pT) (co hlf plf mb : Nat → Int32) (hp : pOK D co) (hv0 : ∀ s, s < 2 ^ D.2.1 → hlf s = hv D s ∧ plf s = pv D s) (s : Nat) (hs : s < 2 ^ D.2.1) (hm : mOk D mb (s + 1)) {K : Option Value → xW → Prop} {KX : Nat → xW → Prop} (hK : ∀ m, m ≤ 8 → isMx D s m → AW G M_X4_countBehind 4 0 0 42 [some (.ref 0), some (.int (nI s)), some (.int (nI m)), none] [] (pw D co hlf plf mb) K KX) : ∀ (c k : Nat) (hk : k ≤ D.2.1) (m : Nat) (h8 : m ≤ 8) (hpm : pmx D s k m) (hc9 : D.2.1 - k = c),
    AW G M_X4_countBehind 4 0 0 17 [some (.ref 0), some (.int (nI s)), some (.int (nI m)), some (.int (nI k))] [] (pw D co hlf plf mb) K KX := by
  intro c
  induction c using Nat.strongRecOn with | ind c ih => ?_
  intro k hk m h8 hpm hc9
  have hn := hp.1
  have h256 : s < 256 := Nat.lt_of_lt_of_le hs (p2_le hn)
  refine wp_ok (M := M_X4_countBehind) hg ok_X4_countBehind (lkp [(17, [true, true, true, true]), (42, [true, true, true, false])]) 60 _ _ _ _ _ _ ?_
  repeat' (first | refine And.intro ?_ ?_ | (with_reducible intro h9; exact absurd h9 (by simp only [cI, cN]; decide +kernel)) | with_reducible intro _ | exact (rfl : narrow _ _ = _) | decide | (unfold vp_in; decide))
  · rename_i g
    simp (discharger := omega) only [cI, nI_leI] at g
    have : k = D.2.1 := by omega
    subst this
    exact hK m h8 (pmx_all hpm)
  · rename_i g
    simp (discharger := omega) only [cN, nI_leI] at g
    refine cc0 [0, 1, 2, 3, 4] (pr_next hg D co hlf plf mb hp s k hs (by omega) (hv0 s hs).1 (hv0 s hs).2) (by decide) (by decide) (by decide) rfl (by repeat' (first | exact trivial | refine And.intro ?_ ?_ | rfl)) (by first | rfl | (simp (discharger := omega) only [renVs, renV, rnI, cI, cN, ← nI_0, nI_ltI, nI_leI, nI_eq, nI_add, pk_mul, pk_sub, nI_clamp, vinI, not_true_eq_false, not_false_eq_true, iK0, iK1, iK2, iK3, iK4, iK5, iKm1, bK6, bK7, bK8, bK9, bK10, bK12, bK14, bK15, bK16, bK20, bK21, bK26, bK30, bK32, bK33, bK45, bK48, bK57, bK59, bK60, bK62, bK63, bK64, bK80, bK93, bK98, bK99, bK100, bK104, bK107, bK109, bK110, bK112, bK113, bK114, bK115, bK116, bK119, sK255, sK256, sK500, sK700, sK798, sK912, sK1400, sK2000])) ?_
    (rintro _ _ ⟨⟨ha, rfl⟩ | ⟨ha, rfl⟩, rfl⟩) <;> (repeat' (first | refine And.intro ?_ ?_ | (with_reducible intro h9; exact absurd h9 (by simp only [cI, cN]; decide +kernel)) | with_reducible intro _ | exact (rfl : narrow _ _ = _) | decide | (unfold vp_in; decide)))
    · have hk8 : k < 8 := by omega
      have esb := (sb_ok ⟨s, h256⟩ ⟨k, hk8⟩ ha.2.1).1
      simp only at esb
      have hpos : 0 < 2 ^ k := Nat.two_pow_pos k
      obtain ⟨b, e1, e2, e3⟩ := hm (sb s k) (by omega) (sb_n hn hs ha.1)
      have hl := pmx_y hpm ha e3
      obtain ⟨l, hl1, hl2⟩ := e3.1
      have hlen := isMx_le hn (k :: l) s h256 ⟨ha, hl1⟩
      simp only [List.length_cons] at hlen
      rw [e1, nI_add]
      refine AW.cg (ih _ (by omega) (k + 1) (by omega) (max m (1 + b)) (by omega) hl rfl) rfl rfl rfl ?_ rfl rfl
      have e4 : (if nI m < nI (1 + b) then nI (1 + b) else nI m) = nI (max m (1 + b)) := by
        by_cases z : m < 1 + b
        · rw [if_pos ((nI_ltI (by omega) (by omega)).mpr z)]; congr 1; omega
        · rw [if_neg (fun y => z ((nI_ltI (by omega) (by omega)).mp y))]; congr 1; omega
      rw [e4]
      simp only [iK1, nI_add]
      rfl
    · refine AW.cg (ih _ (by omega) (k + 1) (by omega) m h8 (pmx_n hpm ha) rfl) rfl rfl rfl ?_ rfl rfl
      have e4 : (if nI m < nI 0 then nI 0 else nI m) = nI m := if_neg (by rw [nI_ltI (by omega) (by omega)]; omega)
      rw [e4]
      simp only [iK1, nI_add]
      rfl
end PP
