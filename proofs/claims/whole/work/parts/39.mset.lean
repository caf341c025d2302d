/-! ===== the reference: sets ===== -/
/-- the reference's row has the numbers of pouring -/
def gD (D : pT) (g : Nat → Int32) : Prop := D.2.1 ≤ 8 ∧ D.2.2.1 ≤ 1400 ∧ 20 ≤ D.2.2.1 ∧ D.2.2.2 ≤ 2000 ∧ (∀ k, 10 ≤ D.1 k ∧ D.1 k ≤ 60) ∧ (∀ k, k < D.2.1 → g (10 + 2 * k) = nI (D.1 k)) ∧ g 0 = nI D.2.2.1 ∧ g 1 = nI D.2.2.2 ∧ g 2 = nI D.2.1
theorem gH_le {D : pT} {g : Nat → Int32} (h : gD D g) (s : Nat) {j : Nat} (hj : j ≤ 8) : sumB (fH D.1) s j ≤ 500 := by
  have h1 := sumB_le (f := fH D.1) (B := 62) (s := s) (fun k => by have := (h.2.2.2.2.1 k).2; unfold fH; omega) j
  omega
theorem gP_le {D : pT} {g : Nat → Int32} (h : gD D g) (s : Nat) {j : Nat} (hj : j ≤ 8) : sumB (fP D.1) s j ≤ 2500 := by
  have h1 := sumB_le (f := fP D.1) (B := 310) (s := s) (fun k => by have := (h.2.2.2.2.1 k).2; unfold fP; omega) j
  omega
section NN
variable {G : gT}
set_option maxRecDepth 20000 in
theorem md_pours_l (hg : gOK G) (N : nT) (D : pT) (hd : gD D N.g) (s k : Nat) (hs : s < 256) (hk : k < D.2.1) {K : Option Value → xW → Prop} {KX : Nat → xW → Prop} (hK : okS D s k → K (some (.int (nI 1))) (mw N)) (hK2 : ¬ okS D s k → K (some (.int (nI 0))) (mw N)) : ∀ (c j : Nat) (hj : j ≤ D.2.1) (hc9 : D.2.1 - j = c),
    AW G M_X9_pours 3 0 0 18 [some (.ref 0), some (.int (nI s)), some (.int (nI k)), some (.int (nI D.2.2.2 - nI (sumB (fP D.1) s j))), some (.int (nI D.2.2.1 - nI (sumB (fH D.1) s j))), some (.int (nI j))] [] (mw N) K KX := by
  intro c
  induction c using Nat.strongRecOn with | ind c ih => ?_
  intro j hj hc9
  obtain ⟨hn, h14, h20, hP20, hcb, hck, hg0, hg1, hg2⟩ := id hd
  have hH := gH_le hd s (j := D.2.1) hn
  have hP := gP_le hd s (j := D.2.1) hn
  have e2 : N.g (Int32.ofInt 2).toNatClampNeg = nI D.2.1 := hg2
  refine wp_ok (M := M_X9_pours) hg ok_X9_pours (lkp [(18, [true, true, true, true, true, true])]) 60 _ _ _ _ _ _ ?_
  repeat' (first | refine And.intro ?_ ?_ | (with_reducible intro h9; exact absurd h9 (by simp only [cI, cN]; decide +kernel)) | with_reducible intro _ | exact (rfl : narrow _ _ = _) | decide | (unfold vp_in; decide))
  · rename_i g
    simp (discharger := omega) only [cI, e2, nI_leI] at g
    have : j = D.2.1 := by omega
    subst this
    have sp := md_takes hg N k (by omega)
    rw [hck k hk] at sp
    refine cc0 [0, 1, 2, 3, 4, 5, 6, 7, 8] (sp) (by decide) (by decide) (by decide) rfl (by repeat' (first | exact trivial | refine And.intro ?_ ?_ | rfl)) (by first | rfl | (simp (discharger := omega) only [renVs, renV, rnI, cI, cN, ← nI_0, nI_ltI, nI_leI, nI_eq, nI_add, pk_mul, pk_sub, nI_clamp, vinI, not_true_eq_false, not_false_eq_true, iK0, iK1, iK2, iK3, iK4, iK5, iKm1, bK6, bK7, bK8, bK9, bK10, bK12, bK14, bK15, bK16, bK20, bK21, bK26, bK30, bK32, bK33, bK45, bK48, bK57, bK59, bK60, bK62, bK63, bK64, bK80, bK93, bK98, bK99, bK100, bK104, bK107, bK109, bK110, bK112, bK113, bK114, bK115, bK116, bK119, sK255, sK256, sK500, sK700, sK798, sK912, sK1400, sK2000])) ?_
    (rintro _ _ ⟨rfl, rfl⟩) <;> (repeat' (first | refine And.intro ?_ ?_ | (with_reducible intro h9; exact absurd h9 (by simp only [cI, cN]; decide +kernel)) | with_reducible intro _ | exact (rfl : narrow _ _ = _) | decide | (unfold vp_in; decide)))
    · rename_i g2
      refine hK2 fun z => ?_
      simp only [cI] at g2
      rw [pk_mul, nI_add, sub_ltI (by omega) (by omega) (by have := hcb k; omega)] at g2
      have := z.2
      omega
    · rename_i g2
      simp only [cN] at g2
      have hck9 := hcb k
      rw [pk_mul, nI_add, sub_ltI (by omega) (by omega) (by omega)] at g2
      have sp2 := md_needs hg N k (by omega)
      rw [hck k hk] at sp2
      refine cc0 [0, 1, 2, 3, 4, 5, 6, 7, 8] (sp2) (by decide) (by decide) (by decide) rfl (by repeat' (first | exact trivial | refine And.intro ?_ ?_ | rfl)) (by first | rfl | (simp (discharger := omega) only [renVs, renV, rnI, cI, cN, ← nI_0, nI_ltI, nI_leI, nI_eq, nI_add, pk_mul, pk_sub, nI_clamp, vinI, not_true_eq_false, not_false_eq_true, iK0, iK1, iK2, iK3, iK4, iK5, iKm1, bK6, bK7, bK8, bK9, bK10, bK12, bK14, bK15, bK16, bK20, bK21, bK26, bK30, bK32, bK33, bK45, bK48, bK57, bK59, bK60, bK62, bK63, bK64, bK80, bK93, bK98, bK99, bK100, bK104, bK107, bK109, bK110, bK112, bK113, bK114, bK115, bK116, bK119, sK255, sK256, sK500, sK700, sK798, sK912, sK1400, sK2000])) ?_
      (rintro _ _ ⟨rfl, rfl⟩) <;> (repeat' (first | refine And.intro ?_ ?_ | (with_reducible intro h9; exact absurd h9 (by simp only [cI, cN]; decide +kernel)) | with_reducible intro _ | exact (rfl : narrow _ _ = _) | decide | (unfold vp_in; decide)))
      · rename_i g3
        refine hK2 fun z => ?_
        simp only [cI] at g3
        rw [pk_mul, nI_add, sub_ltI (by omega) (by omega) (by omega)] at g3
        have := z.1
        omega
      · rename_i g3
        simp only [cN] at g3
        rw [pk_mul, nI_add, sub_ltI (by omega) (by omega) (by omega)] at g3
        exact hK ⟨by omega, by omega⟩
  · rename_i g g2
    simp (discharger := omega) only [cN, e2, nI_leI] at g
    have hb := b_shr8 hs (show j < 8 by omega)
    simp only [cI, hb] at g2
    have sp := md_takes hg N j (by omega)
    rw [hck j (by omega)] at sp
    have hbit : s.testBit j = true := by
      cases hz : s.testBit j with
      | true => rfl
      | false => rw [hz] at g2; exact absurd (show nI (if false = true then 1 else 0) = 0 by decide) g2
    have e5 : (nI 5 * nI (D.1 j) + nI 10) / nI 5 = nI (D.1 j + 2) := by
      have := hcb j
      rw [pk_mul, nI_add, pk_div (by omega) (by omega) (by omega)]
      congr 1
      omega
    refine cc0 [0, 1, 2, 3, 4, 5, 6, 7, 8] (sp) (by decide) (by decide) (by decide) rfl (by repeat' (first | exact trivial | refine And.intro ?_ ?_ | rfl)) (by first | rfl | (simp (discharger := omega) only [renVs, renV, rnI, cI, cN, ← nI_0, nI_ltI, nI_leI, nI_eq, nI_add, pk_mul, pk_sub, nI_clamp, vinI, not_true_eq_false, not_false_eq_true, iK0, iK1, iK2, iK3, iK4, iK5, iKm1, bK6, bK7, bK8, bK9, bK10, bK12, bK14, bK15, bK16, bK20, bK21, bK26, bK30, bK32, bK33, bK45, bK48, bK57, bK59, bK60, bK62, bK63, bK64, bK80, bK93, bK98, bK99, bK100, bK104, bK107, bK109, bK110, bK112, bK113, bK114, bK115, bK116, bK119, sK255, sK256, sK500, sK700, sK798, sK912, sK1400, sK2000])) ?_
    (rintro _ _ ⟨rfl, rfl⟩) <;> (repeat' (first | refine And.intro ?_ ?_ | (with_reducible intro h9; exact absurd h9 (by simp only [cI, cN]; decide +kernel)) | with_reducible intro _ | exact (rfl : narrow _ _ = _) | decide | (unfold vp_in; decide)))
    refine cc0 [0, 1, 2, 3, 4, 5, 6, 7, 8] (sp) (by decide) (by decide) (by decide) rfl (by repeat' (first | exact trivial | refine And.intro ?_ ?_ | rfl)) (by first | rfl | (simp (discharger := omega) only [renVs, renV, rnI, cI, cN, ← nI_0, nI_ltI, nI_leI, nI_eq, nI_add, pk_mul, pk_sub, nI_clamp, vinI, not_true_eq_false, not_false_eq_true, iK0, iK1, iK2, iK3, iK4, iK5, iKm1, bK6, bK7, bK8, bK9, bK10, bK12, bK14, bK15, bK16, bK20, bK21, bK26, bK30, bK32, bK33, bK45, bK48, bK57, bK59, bK60, bK62, bK63, bK64, bK80, bK93, bK98, bK99, bK100, bK104, bK107, bK109, bK110, bK112, bK113, bK114, bK115, bK116, bK119, sK255, sK256, sK500, sK700, sK798, sK912, sK1400, sK2000])) ?_
    (rintro _ _ ⟨rfl, rfl⟩) <;> (repeat' (first | refine And.intro ?_ ?_ | (with_reducible intro h9; exact absurd h9 (by simp only [cI, cN]; decide +kernel)) | with_reducible intro _ | exact (rfl : narrow _ _ = _) | decide | (unfold vp_in; decide)))
    refine AW.cg (ih _ (by omega) (j + 1) (by omega) rfl) rfl rfl rfl ?_ rfl rfl
    have e6 : sumB (fP D.1) s (j + 1) = sumB (fP D.1) s j + (5 * D.1 j + 10) := by
      show _ + (if s.testBit j = true then fP D.1 j else 0) = _
      rw [if_pos hbit]; rfl
    have e7 : sumB (fH D.1) s (j + 1) = sumB (fH D.1) s j + (D.1 j + 2) := by
      show _ + (if s.testBit j = true then fH D.1 j else 0) = _
      rw [if_pos hbit]; rfl
    have e8 : nI D.2.2.2 - nI (sumB (fP D.1) s j + (5 * D.1 j + 10)) = nI D.2.2.2 - nI (sumB (fP D.1) s j) - (nI 5 * nI (D.1 j) + nI 10) := by rw [pk_mul, nI_add, sub_subI]
    have e9 : nI D.2.2.1 - nI (sumB (fH D.1) s j + (D.1 j + 2)) = nI D.2.2.1 - nI (sumB (fH D.1) s j) - (nI 5 * nI (D.1 j) + nI 10) / nI 5 := by rw [e5, sub_subI]
    rw [e6, e7, e8, e9]
    simp only [msk, clr_i, clr_r, iK1, iK5, nI_add]
  · rename_i g g2
    simp (discharger := omega) only [cN, e2, nI_leI] at g
    have hb := b_shr8 hs (show j < 8 by omega)
    simp only [cN, hb] at g2
    have hbit : s.testBit j = false := by
      cases hz : s.testBit j with
      | false => rfl
      | true => rw [hz] at g2; exact absurd g2 (by decide)
    refine AW.cg (ih _ (by omega) (j + 1) (by omega) rfl) rfl rfl rfl ?_ rfl rfl
    have e6 : sumB (fP D.1) s (j + 1) = sumB (fP D.1) s j := by
      show _ + (if s.testBit j = true then fP D.1 j else 0) = _
      rw [hbit]; rfl
    have e7 : sumB (fH D.1) s (j + 1) = sumB (fH D.1) s j := by
      show _ + (if s.testBit j = true then fH D.1 j else 0) = _
      rw [hbit]; rfl
    rw [e6, e7]
    simp only [msk, clr_i, clr_r, iK1, nI_add]
set_option maxRecDepth 20000 in
theorem md_pours (hg : gOK G) (N : nT) (D : pT) (hd : gD D N.g) (s k : Nat) (hs : s < 256) (hk : k < D.2.1) : Spec G 3 0 0 m_X9_pours [.ref 0, .int (nI s), .int (nI k)] (mw N) (fun v w' => ((v = some (.int (nI 1)) ∧ okS D s k) ∨ (v = some (.int (nI 0)) ∧ ¬ okS D s k)) ∧ w' = mw N) NX := by
  obtain ⟨hn, h14, h20, hP20, hcb, hck, hg0, hg1, hg2⟩ := id hd
  refine wp_spec (M := M_X9_pours) hg ok_X9_pours (lkp [(18, [true, true, true, true, true, true])]) 60 rfl rfl ?_
  repeat' (first | refine And.intro ?_ ?_ | (with_reducible intro h9; exact absurd h9 (by simp only [cI, cN]; decide +kernel)) | with_reducible intro _ | exact (rfl : narrow _ _ = _) | decide | (unfold vp_in; decide))
  refine AW.cg (md_pours_l hg N D hd s k hs hk (fun h => ⟨Or.inl ⟨rfl, h⟩, rfl⟩) (fun h => ⟨Or.inr ⟨rfl, h⟩, rfl⟩) _ 0 (by omega) rfl) rfl rfl rfl ?_ rfl rfl
  show [some (Value.ref 0), some (Value.int (nI s)), some (Value.int (nI k)), some (Value.int (nI D.2.2.2 - nI 0)), some (Value.int (nI D.2.2.1 - nI 0)), some (Value.int (nI 0))] = [some (Value.ref 0), some (Value.int (nI s)), some (Value.int (nI k)), some (Value.int (N.g 1)), some (Value.int (N.g 0)), some (Value.int (nI 0))]
  rw [hg0, hg1, pk_sub (by omega), pk_sub (by omega)]
  rfl
set_option maxRecDepth 20000 in
theorem md_many_l (hg : gOK G) (s : Nat) (hs : s < 256) {K : Option Value → xW → Prop} {KX : Nat → xW → Prop} (hK : K (some (.int (nI (pc s)))) []) : ∀ (c k : Nat) (hk : k ≤ 8) (hc9 : 8 - k = c),
    AW G M_X9_many 1 0 0 4 [some (.int (nI s)), some (.int (nI (cnt (fun k => s.testBit k) k))), some (.int (nI k))] [] [] K KX := by
  intro c
  induction c using Nat.strongRecOn with | ind c ih => ?_
  intro k hk hc9
  have hcn := cnt_le (fun k => s.testBit k) k
  refine wp_ok (M := M_X9_many) hg ok_X9_many (lkp [(4, [true, true, true])]) 60 _ _ _ _ _ _ ?_
  repeat' (first | refine And.intro ?_ ?_ | (with_reducible intro h9; exact absurd h9 (by simp only [cI, cN]; decide +kernel)) | with_reducible intro _ | exact (rfl : narrow _ _ = _) | decide | (unfold vp_in; decide))
  · rename_i g
    simp (discharger := omega) only [cI, bK8, nI_leI] at g
    have : k = 8 := by omega
    subst this
    exact hK
  · rename_i g
    simp (discharger := omega) only [cN, bK8, nI_leI] at g
    have hb := b_shr8 hs (show k < 8 by omega)
    refine AW.cg (ih _ (by omega) (k + 1) (by omega) rfl) rfl rfl rfl ?_ rfl rfl
    rw [hb]
    cases hz : s.testBit k with
    | true =>
      rw [cnt_t (p := fun k => s.testBit k) (n := k) hz]
      simp only [msk, clr_i, clr_r, iK1, nI_add, if_true]
    | false =>
      rw [cnt_f (p := fun k => s.testBit k) (n := k) (by simp only [hz]; exact Bool.noConfusion)]
      simp only [msk, clr_i, clr_r, iK1, nI_add]
      rfl
set_option maxRecDepth 20000 in
theorem md_many (hg : gOK G) (s : Nat) (hs : s < 256) : Spec G 1 0 0 m_X9_many [.int (nI s)] [] (fun v w' => v = some (.int (nI (pc s))) ∧ w' = []) NX := by
  refine wp_spec (M := M_X9_many) hg ok_X9_many (lkp [(4, [true, true, true])]) 60 rfl rfl ?_
  repeat' (first | refine And.intro ?_ ?_ | (with_reducible intro h9; exact absurd h9 (by simp only [cI, cN]; decide +kernel)) | with_reducible intro _ | exact (rfl : narrow _ _ = _) | decide | (unfold vp_in; decide))
  exact AW.cg (md_many_l hg s hs ⟨rfl, rfl⟩ _ 0 (by omega) rfl) rfl rfl rfl (by first | rfl | (simp (discharger := omega) only [msk, clr_i, clr_r, cnt, cI, cN, ← nI_0, nI_ltI, nI_leI, nI_eq, nI_add, pk_mul, pk_sub, nI_clamp, vinI, not_true_eq_false, not_false_eq_true, iK0, iK1, iK2, iK3, iK4, iK5, iKm1, bK6, bK7, bK8, bK9, bK10, bK12, bK14, bK15, bK16, bK20, bK21, bK26, bK30, bK32, bK33, bK45, bK48, bK57, bK59, bK60, bK62, bK63, bK64, bK80, bK93, bK98, bK99, bK100, bK104, bK107, bK109, bK110, bK112, bK113, bK114, bK115, bK116, bK119, sK255, sK256, sK500, sK700, sK798, sK912, sK1400, sK2000]; done) | (simp (discharger := omega) only [msk, clr_i, clr_r, cnt, cI, cN, ← nI_0, nI_ltI, nI_leI, nI_eq, nI_add, pk_mul, pk_sub, nI_clamp, vinI, not_true_eq_false, not_false_eq_true, iK0, iK1, iK2, iK3, iK4, iK5, iKm1, bK6, bK7, bK8, bK9, bK10, bK12, bK14, bK15, bK16, bK20, bK21, bK26, bK30, bK32, bK33, bK45, bK48, bK57, bK59, bK60, bK62, bK63, bK64, bK80, bK93, bK98, bK99, bK100, bK104, bK107, bK109, bK110, bK112, bK113, bK114, bK115, bK116, bK119, sK255, sK256, sK500, sK700, sK798, sK912, sK1400, sK2000]; rfl)) rfl rfl
end NN
