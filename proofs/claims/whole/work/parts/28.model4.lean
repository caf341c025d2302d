/-! ===== the reference: hours ===== -/
/-- a bell in the hall is cold -/
def gC (g : Nat → Int32) (n : Nat) : Prop := ∀ i, i < n → g (30 + 7 * i + 3) = -1 → ¬ nI 0 < g (30 + 7 * i + 4)
theorem bl_or (k q : Nat) : (∃ j, j < 7 ∧ q = 30 + 7 * k + j) ∨ (∀ j, j < 7 → q ≠ 30 + 7 * k + j) := by
  by_cases h : 30 + 7 * k ≤ q ∧ q < 30 + 7 * k + 7
  · exact Or.inl ⟨q - (30 + 7 * k), by omega, by omega⟩
  · exact Or.inr fun j hj e => h (by omega)
theorem hg1_s0 {g : Nat → Int32} {n k : Nat} (h : ¬ nI 0 < g (30 + 7 * k + 4)) : hg1 g n (k + 1) = hg1 g n k := funext fun q => by
  rcases bl_or k q with ⟨j, hj, rfl⟩ | hq
  · rw [hg1_at hj, if_neg h, hg1_k hj]
  · exact hg1_ne hq
theorem hg1_s1 {g : Nat → Int32} {n k : Nat} (h : nI 0 < g (30 + 7 * k + 4)) (hc : gck g n k = false) : upd (hg1 g n k) (30 + 7 * k + 4) (mxi (nI 0) (g (30 + 7 * k + 4) - glo g n k)) = hg1 g n (k + 1) := funext fun q => by
  rcases bl_or k q with ⟨j, hj, rfl⟩ | hq
  · rw [hg1_at hj, if_pos h]
    by_cases h4 : j = 4
    · subst h4
      rw [upd_eq, if_pos rfl]
    · rw [upd_ne (by omega), if_neg h4, if_neg (by rw [hc]; exact fun z => Bool.noConfusion z.2), hg1_k hj]
  · rw [hg1_ne hq, upd_ne (hq 4 (by omega))]
theorem hg1_s2 {g : Nat → Int32} {n k : Nat} (h : nI 0 < g (30 + 7 * k + 4)) (hc : gck g n k = true) : upd (upd (hg1 g n k) (30 + 7 * k + 4) (mxi (nI 0) (g (30 + 7 * k + 4) - glo g n k))) (30 + 7 * k + 5) (g (30 + 7 * k + 5) + nI 1) = hg1 g n (k + 1) := funext fun q => by
  rcases bl_or k q with ⟨j, hj, rfl⟩ | hq
  · rw [hg1_at hj, if_pos h]
    by_cases h5 : j = 5
    · subst h5
      rw [upd_eq, if_neg (by omega), if_pos ⟨rfl, hc⟩]
    · by_cases h4 : j = 4
      · subst h4
        rw [upd_ne (by omega), upd_eq, if_pos rfl]
      · rw [upd_ne (by omega), upd_ne (by omega), if_neg h4, if_neg (fun z => h5 z.1), hg1_k hj]
  · rw [hg1_ne hq, upd_ne (hq 5 (by omega)), upd_ne (hq 4 (by omega))]
abbrev gwc (g : Nat → Int32) (n : Nat) (i : Nat) : Bool := decide (nI 0 < g (30 + 7 * i + 4) ∧ gck g n i = true)
abbrev hr0 (g : Nat → Int32) : Nat → Int32 := upd g 0 (mxi (nI 20) (g 0 - nI 5))
theorem hr0_ne {g : Nat → Int32} {q : Nat} (h : q ≠ 0) : hr0 g q = g q := upd_ne h
def hrG (g : Nat → Int32) (n : Nat) : Nat → Int32 := upd (hg1 (hr0 g) n n) 8 (g 8 + nI 1)
def hrC (g : Nat → Int32) (n : Nat) : Nat := cnt (gwc (hr0 g) n) n
theorem glo_h {g : Nat → Int32} {n k i r : Nat} (h : g (30 + 7 * i + 3) = nI r) (hr : r < 4) : glo (hg1 g n k) n i = glo g n i := by
  show mlos (hg1 g n k) n (grk (hg1 g n k) i) = mlos g n (grk g i)
  have e : grk (hg1 g n k) i = r := by
    unfold grk
    rw [hg1_3, h, nI_clamp (by omega)]
  have e2 : grk g i = r := by
    unfold grk
    rw [h, nI_clamp (by omega)]
  rw [e, e2]
  exact glo_eq (fun q hq => hg1_lo hq) (fun i => hg1_3) r hr
section NN
variable {G : gT}
set_option maxRecDepth 20000 in
theorem md_hour_l (hg : gOK G) (N : nT) (g : Nat → Int32) (n : Nat) (h4 : g 4 = nI n) (hn2 : n ≤ 12) (hK3 : gK g n) (hC : gC g n) {K : Option Value → xW → Prop} {KX : Nat → xW → Prop} (hK : K (some (.int (nI (cnt (gwc g n) n)))) (mw (N.s_g (upd (hg1 g n n) 8 (g 8 + nI 1))))) : ∀ (c k : Nat) (hk : k ≤ n) (hc9 : n - k = c),
    AW G M_X9_hour 5 0 0 23 [some (.ref 0), some (.int (nI (cnt (gwc g n) k))), some (.int (nI k))] [] (mw (N.s_g (hg1 g n k))) K KX := by
  intro c
  induction c using Nat.strongRecOn with | ind c ih => ?_
  intro k hk hc9
  have hcn : cnt (gwc g n) k ≤ k := cnt_le _ _
  have hnb : (N.s_g (hg1 g n k)).nb n := ⟨by show hg1 g n k 4 = nI n; rw [hg1_lo (by omega)]; exact h4, hn2⟩
  have hn1 := hnb.1
  have ew : (N.s_g (hg1 g n k)).b k 4 = g (30 + 7 * k + 4) := hg1_k (by omega)
  refine wp_ok (M := M_X9_hour) hg ok_X9_hour (lkp [(23, [true, true, true])]) 60 _ _ _ _ _ _ ?_
  repeat' (first | refine And.intro ?_ ?_ | (with_reducible intro h9; exact absurd h9 (by simp only [cI, cN]; decide +kernel)) | with_reducible intro _ | exact (rfl : narrow _ _ = _) | decide | (unfold vp_in; decide))
  · rename_i g9
    replace g9 : nI n ≤ nI k := by rw [← hn1]; exact g9
    rw [nI_leI (by omega) (by omega)] at g9
    have : k = n := by omega
    subst this
    refine Kcg (K := K) hK rfl ?_
    rw [show g 8 = hg1 g k k (Int8.ofInt 8).toInt32.toNatClampNeg from (hg1_lo (n := k) (k := k) (show 8 < 30 by omega)).symm]
    rfl
  · rename_i g9
    replace g9 : ¬ nI n ≤ nI k := by rw [← hn1]; exact g9
    rw [nI_leI (by omega) (by omega)] at g9
    refine cc0 [0, 1, 2, 3, 4, 5, 6, 7, 8] (md_of hg (N.s_g (hg1 g n k)) k 4 (by omega) (by omega)) (by decide) (by decide) (by decide) rfl (by repeat' (first | exact trivial | refine And.intro ?_ ?_ | rfl)) (by first | rfl | (simp (discharger := omega) only [renVs, renV, rnI, cI, cN, ← nI_0, nI_ltI, nI_leI, nI_eq, nI_add, pk_mul, pk_sub, nI_clamp, vinI, not_true_eq_false, not_false_eq_true, iK0, iK1, iK2, iK3, iK4, iK5, iKm1, bK6, bK7, bK8, bK9, bK10, bK12, bK14, bK15, bK16, bK20, bK21, bK26, bK30, bK32, bK33, bK45, bK48, bK57, bK59, bK60, bK62, bK63, bK64, bK80, bK93, bK98, bK99, bK100, bK104, bK107, bK109, bK110, bK112, bK113, bK114, bK115, bK116, bK119, sK255, sK256, sK500, sK700, sK798, sK912, sK1400, sK2000])) ?_
    (rintro _ _ ⟨rfl, rfl⟩) <;> (repeat' (first | refine And.intro ?_ ?_ | (with_reducible intro h9; exact absurd h9 (by simp only [cI, cN]; decide +kernel)) | with_reducible intro _ | exact (rfl : narrow _ _ = _) | decide | (unfold vp_in; decide)))
    · rename_i g2
      simp only [cI, ← nI_0, ew] at g2
      have hw : ¬ nI 0 < g (30 + 7 * k + 4) := Int32.not_lt.mpr g2
      exact AW.cg (ih _ (by omega) (k + 1) (by omega) rfl) rfl rfl rfl (by first | rfl | (simp (discharger := omega) only [msk, clr_i, clr_r, cnt_f (p := gwc g n) (n := k) (by simp only [decide_eq_true_eq]; exact fun z => hw z.1), Nat.add_zero, cI, cN, ← nI_0, nI_ltI, nI_leI, nI_eq, nI_add, pk_mul, pk_sub, nI_clamp, vinI, not_true_eq_false, not_false_eq_true, iK0, iK1, iK2, iK3, iK4, iK5, iKm1, bK6, bK7, bK8, bK9, bK10, bK12, bK14, bK15, bK16, bK20, bK21, bK26, bK30, bK32, bK33, bK45, bK48, bK57, bK59, bK60, bK62, bK63, bK64, bK80, bK93, bK98, bK99, bK100, bK104, bK107, bK109, bK110, bK112, bK113, bK114, bK115, bK116, bK119, sK255, sK256, sK500, sK700, sK798, sK912, sK1400, sK2000]; done) | (simp (discharger := omega) only [msk, clr_i, clr_r, cnt_f (p := gwc g n) (n := k) (by simp only [decide_eq_true_eq]; exact fun z => hw z.1), Nat.add_zero, cI, cN, ← nI_0, nI_ltI, nI_leI, nI_eq, nI_add, pk_mul, pk_sub, nI_clamp, vinI, not_true_eq_false, not_false_eq_true, iK0, iK1, iK2, iK3, iK4, iK5, iKm1, bK6, bK7, bK8, bK9, bK10, bK12, bK14, bK15, bK16, bK20, bK21, bK26, bK30, bK32, bK33, bK45, bK48, bK57, bK59, bK60, bK62, bK63, bK64, bK80, bK93, bK98, bK99, bK100, bK104, bK107, bK109, bK110, bK112, bK113, bK114, bK115, bK116, bK119, sK255, sK256, sK500, sK700, sK798, sK912, sK1400, sK2000]; rfl)) rfl (by rw [hg1_s0 hw]; rfl)
    · rename_i g2
      simp only [cN, ← nI_0, ew] at g2
      have hw : nI 0 < g (30 + 7 * k + 4) := Int32.not_le.mp g2
      have hkn : k < n := by omega
      rcases hK3 k hkn with q | ⟨r, hr, q⟩
      · exact absurd hw (hC k hkn q)
      · have el : glo (hg1 g n k) n k = glo g n k := glo_h q hr
        have ec : gck (hg1 g n k) n k = gck g n k := by
          show decide (¬ (glo (hg1 g n k) n k ≤ nI 6 + nI 2 * hg1 g n k (30 + 7 * k + 1) ∨ hg1 g n k (30 + 7 * k + 5) = nI 9)) = _
          rw [el, hg1_k (by omega), hg1_k (by omega)]
        have sp := md_cools hg (N.s_g (hg1 g n k)) n hnb k r hkn hr (by show hg1 g n k _ = _; rw [hg1_3]; exact q)
        rw [show glo (N.s_g (hg1 g n k)).g n k = glo g n k from el, show gck (N.s_g (hg1 g n k)).g n k = gck g n k from ec, ew, show (N.s_g (hg1 g n k)).b k 5 = g (30 + 7 * k + 5) from hg1_k (by omega)] at sp
        refine cc0 [0, 1, 2, 3, 4, 5, 6, 7, 8] (sp) (by decide) (by decide) (by decide) rfl (by repeat' (first | exact trivial | refine And.intro ?_ ?_ | rfl)) (by first | rfl | (simp (discharger := omega) only [renVs, renV, rnI, cI, cN, ← nI_0, nI_ltI, nI_leI, nI_eq, nI_add, pk_mul, pk_sub, nI_clamp, vinI, not_true_eq_false, not_false_eq_true, iK0, iK1, iK2, iK3, iK4, iK5, iKm1, bK6, bK7, bK8, bK9, bK10, bK12, bK14, bK15, bK16, bK20, bK21, bK26, bK30, bK32, bK33, bK45, bK48, bK57, bK59, bK60, bK62, bK63, bK64, bK80, bK93, bK98, bK99, bK100, bK104, bK107, bK109, bK110, bK112, bK113, bK114, bK115, bK116, bK119, sK255, sK256, sK500, sK700, sK798, sK912, sK1400, sK2000])) ?_
        (rintro _ _ (⟨z, rfl, rfl⟩ | ⟨z, rfl, rfl⟩)) <;> (repeat' (first | refine And.intro ?_ ?_ | (with_reducible intro h9; exact absurd h9 (by simp only [cI, cN]; decide +kernel)) | with_reducible intro _ | exact (rfl : narrow _ _ = _) | decide | (unfold vp_in; decide)))
        · have nz : ¬ (gwc g n k = true) := fun y => by
            have := (of_decide_eq_true y).2
            rw [z] at this
            cases this
          exact AW.cg (ih _ (by omega) (k + 1) (by omega) rfl) rfl rfl rfl (by first | rfl | (simp (discharger := omega) only [msk, clr_i, clr_r, cnt_f (p := gwc g n) (n := k) nz, Nat.add_zero, cI, cN, ← nI_0, nI_ltI, nI_leI, nI_eq, nI_add, pk_mul, pk_sub, nI_clamp, vinI, not_true_eq_false, not_false_eq_true, iK0, iK1, iK2, iK3, iK4, iK5, iKm1, bK6, bK7, bK8, bK9, bK10, bK12, bK14, bK15, bK16, bK20, bK21, bK26, bK30, bK32, bK33, bK45, bK48, bK57, bK59, bK60, bK62, bK63, bK64, bK80, bK93, bK98, bK99, bK100, bK104, bK107, bK109, bK110, bK112, bK113, bK114, bK115, bK116, bK119, sK255, sK256, sK500, sK700, sK798, sK912, sK1400, sK2000]; done) | (simp (discharger := omega) only [msk, clr_i, clr_r, cnt_f (p := gwc g n) (n := k) nz, Nat.add_zero, cI, cN, ← nI_0, nI_ltI, nI_leI, nI_eq, nI_add, pk_mul, pk_sub, nI_clamp, vinI, not_true_eq_false, not_false_eq_true, iK0, iK1, iK2, iK3, iK4, iK5, iKm1, bK6, bK7, bK8, bK9, bK10, bK12, bK14, bK15, bK16, bK20, bK21, bK26, bK30, bK32, bK33, bK45, bK48, bK57, bK59, bK60, bK62, bK63, bK64, bK80, bK93, bK98, bK99, bK100, bK104, bK107, bK109, bK110, bK112, bK113, bK114, bK115, bK116, bK119, sK255, sK256, sK500, sK700, sK798, sK912, sK1400, sK2000]; rfl)) rfl (by rw [← hg1_s1 hw z]; rfl)
        · exact AW.cg (ih _ (by omega) (k + 1) (by omega) rfl) rfl rfl rfl (by first | rfl | (simp (discharger := omega) only [msk, clr_i, clr_r, cnt_t (p := gwc g n) (n := k) (decide_eq_true ⟨hw, z⟩), cI, cN, ← nI_0, nI_ltI, nI_leI, nI_eq, nI_add, pk_mul, pk_sub, nI_clamp, vinI, not_true_eq_false, not_false_eq_true, iK0, iK1, iK2, iK3, iK4, iK5, iKm1, bK6, bK7, bK8, bK9, bK10, bK12, bK14, bK15, bK16, bK20, bK21, bK26, bK30, bK32, bK33, bK45, bK48, bK57, bK59, bK60, bK62, bK63, bK64, bK80, bK93, bK98, bK99, bK100, bK104, bK107, bK109, bK110, bK112, bK113, bK114, bK115, bK116, bK119, sK255, sK256, sK500, sK700, sK798, sK912, sK1400, sK2000]; done) | (simp (discharger := omega) only [msk, clr_i, clr_r, cnt_t (p := gwc g n) (n := k) (decide_eq_true ⟨hw, z⟩), cI, cN, ← nI_0, nI_ltI, nI_leI, nI_eq, nI_add, pk_mul, pk_sub, nI_clamp, vinI, not_true_eq_false, not_false_eq_true, iK0, iK1, iK2, iK3, iK4, iK5, iKm1, bK6, bK7, bK8, bK9, bK10, bK12, bK14, bK15, bK16, bK20, bK21, bK26, bK30, bK32, bK33, bK45, bK48, bK57, bK59, bK60, bK62, bK63, bK64, bK80, bK93, bK98, bK99, bK100, bK104, bK107, bK109, bK110, bK112, bK113, bK114, bK115, bK116, bK119, sK255, sK256, sK500, sK700, sK798, sK912, sK1400, sK2000]; rfl)) rfl (by rw [← hg1_s2 hw z]; rfl)
set_option maxRecDepth 20000 in
theorem md_hour (hg : gOK G) (N : nT) (n : Nat) (hn : N.nb n) (hK3 : gK N.g n) (hC : gC N.g n) : Spec G 5 0 0 m_X9_hour [.ref 0] (mw N) (fun v w' => v = some (.int (nI (hrC N.g n))) ∧ w' = mw (N.s_g (hrG N.g n))) NX := by
  refine wp_spec (M := M_X9_hour) hg ok_X9_hour (lkp [(23, [true, true, true])]) 60 rfl rfl ?_
  repeat' (first | refine And.intro ?_ ?_ | (with_reducible intro h9; exact absurd h9 (by simp only [cI, cN]; decide +kernel)) | with_reducible intro _ | exact (rfl : narrow _ _ = _) | decide | (unfold vp_in; decide))
  refine cc0 [] (md_most hg (nI 20) (N.g 0 - nI 5)) (by decide) (by decide) (by decide) rfl (by repeat' (first | exact trivial | refine And.intro ?_ ?_ | rfl)) (by first | rfl | (simp (discharger := omega) only [renVs, renV, rnI, cI, cN, ← nI_0, nI_ltI, nI_leI, nI_eq, nI_add, pk_mul, pk_sub, nI_clamp, vinI, not_true_eq_false, not_false_eq_true, iK0, iK1, iK2, iK3, iK4, iK5, iKm1, bK6, bK7, bK8, bK9, bK10, bK12, bK14, bK15, bK16, bK20, bK21, bK26, bK30, bK32, bK33, bK45, bK48, bK57, bK59, bK60, bK62, bK63, bK64, bK80, bK93, bK98, bK99, bK100, bK104, bK107, bK109, bK110, bK112, bK113, bK114, bK115, bK116, bK119, sK255, sK256, sK500, sK700, sK798, sK912, sK1400, sK2000])) ?_
  (rintro _ _ ⟨rfl, rfl⟩) <;> (repeat' (first | refine And.intro ?_ ?_ | (with_reducible intro h9; exact absurd h9 (by simp only [cI, cN]; decide +kernel)) | with_reducible intro _ | exact (rfl : narrow _ _ = _) | decide | (unfold vp_in; decide)))
  exact AW.cg (md_hour_l hg N (hr0 N.g) n (by rw [hr0_ne (by omega)]; exact hn.1) hn.2 (fun i hi => by rw [hr0_ne (by omega)]; exact hK3 i hi) (fun i hi => by rw [hr0_ne (by omega), hr0_ne (by omega)]; exact hC i hi) ⟨rfl, by rw [hr0_ne (by omega)]; rfl⟩ _ 0 (by omega) rfl) rfl rfl rfl (by first | rfl | (simp (discharger := omega) only [msk, clr_i, clr_r, cnt, cI, cN, ← nI_0, nI_ltI, nI_leI, nI_eq, nI_add, pk_mul, pk_sub, nI_clamp, vinI, not_true_eq_false, not_false_eq_true, iK0, iK1, iK2, iK3, iK4, iK5, iKm1, bK6, bK7, bK8, bK9, bK10, bK12, bK14, bK15, bK16, bK20, bK21, bK26, bK30, bK32, bK33, bK45, bK48, bK57, bK59, bK60, bK62, bK63, bK64, bK80, bK93, bK98, bK99, bK100, bK104, bK107, bK109, bK110, bK112, bK113, bK114, bK115, bK116, bK119, sK255, sK256, sK500, sK700, sK798, sK912, sK1400, sK2000]; done) | (simp (discharger := omega) only [msk, clr_i, clr_r, cnt, cI, cN, ← nI_0, nI_ltI, nI_leI, nI_eq, nI_add, pk_mul, pk_sub, nI_clamp, vinI, not_true_eq_false, not_false_eq_true, iK0, iK1, iK2, iK3, iK4, iK5, iKm1, bK6, bK7, bK8, bK9, bK10, bK12, bK14, bK15, bK16, bK20, bK21, bK26, bK30, bK32, bK33, bK45, bK48, bK57, bK59, bK60, bK62, bK63, bK64, bK80, bK93, bK98, bK99, bK100, bK104, bK107, bK109, bK110, bK112, bK113, bK114, bK115, bK116, bK119, sK255, sK256, sK500, sK700, sK798, sK912, sK1400, sK2000]; rfl)) rfl (by (rw [hg1_0]) <;> rfl)
def psG (g : Nat → Int32) (n : Nat) : Nat → (Nat → Int32)
  | 0 => g
  | j + 1 => hrG (psG g n j) n
def psC (g : Nat → Int32) (n : Nat) : Nat → Int32
  | 0 => nI 0
  | j + 1 => psC g n j + nI (hrC (psG g n j) n)
theorem hrG_3 {g : Nat → Int32} {n i : Nat} : hrG g n (30 + 7 * i + 3) = g (30 + 7 * i + 3) := by
  unfold hrG
  rw [upd_ne (by omega), hg1_3, hr0_ne (by omega)]
theorem hrG_4 {g : Nat → Int32} {n : Nat} : hrG g n 4 = g 4 := by
  unfold hrG
  rw [upd_ne (by omega), hg1_lo (by omega), hr0_ne (by omega)]
theorem hrG_C {g : Nat → Int32} {n : Nat} (h : gC g n) : gC (hrG g n) n := fun i hi h3 => by
  rw [hrG_3] at h3
  have h4 := h i hi h3
  unfold hrG
  rw [upd_ne (by omega)]
  unfold hg1
  have e1 : (30 + 7 * i + 4 - 30) / 7 = i := by omega
  rw [e1, hr0_ne (by omega), if_neg (fun z => h4 z.2.2)]
  exact h4
theorem psG_ok {g : Nat → Int32} {n : Nat} (h4 : g 4 = nI n) (hK : gK g n) (hC : gC g n) : ∀ j, psG g n j 4 = nI n ∧ gK (psG g n j) n ∧ gC (psG g n j) n
  | 0 => ⟨h4, hK, hC⟩
  | j + 1 => by
    obtain ⟨a, b, c⟩ := psG_ok h4 hK hC j
    exact ⟨hrG_4.trans a, fun i hi => by rw [show psG g n (j + 1) = hrG (psG g n j) n from rfl, hrG_3]; exact b i hi, hrG_C c⟩
set_option maxRecDepth 20000 in
theorem md_pass_l (hg : gOK G) (N : nT) (g : Nat → Int32) (n t : Nat) (ht : t ≤ 48) (h4 : g 4 = nI n) (hn2 : n ≤ 12) (hK3 : gK g n) (hC : gC g n) {K : Option Value → xW → Prop} {KX : Nat → xW → Prop} (hK : K (some (.int (psC g n t))) (mw (N.s_g (psG g n t)))) : ∀ (c k : Nat) (hk : k ≤ t) (hc9 : t - k = c),
    AW G M_X9_pass 6 0 0 36 [some (.ref 0), some (.int (nI t)), some (.int (psC g n k)), some (.int (nI k))] [] (mw (N.s_g (psG g n k))) K KX := by
  intro c
  induction c using Nat.strongRecOn with | ind c ih => ?_
  intro k hk hc9
  obtain ⟨p1, p2, p3⟩ := psG_ok h4 hK3 hC k
  refine wp_ok (M := M_X9_pass) hg ok_X9_pass (lkp [(36, [true, true, true, true])]) 60 _ _ _ _ _ _ ?_
  repeat' (first | refine And.intro ?_ ?_ | (with_reducible intro h9; exact absurd h9 (by simp only [cI, cN]; decide +kernel)) | with_reducible intro _ | exact (rfl : narrow _ _ = _) | decide | (unfold vp_in; decide))
  · rename_i g9
    simp (discharger := omega) only [cI, nI_leI] at g9
    have : k = t := by omega
    subst this
    exact hK
  · rename_i g9
    simp (discharger := omega) only [cN, nI_leI] at g9
    refine cc0 [0, 1, 2, 3, 4, 5, 6, 7, 8] (md_hour hg (N.s_g (psG g n k)) n ⟨p1, hn2⟩ p2 p3) (by decide) (by decide) (by decide) rfl (by repeat' (first | exact trivial | refine And.intro ?_ ?_ | rfl)) (by first | rfl | (simp (discharger := omega) only [renVs, renV, rnI, cI, cN, ← nI_0, nI_ltI, nI_leI, nI_eq, nI_add, pk_mul, pk_sub, nI_clamp, vinI, not_true_eq_false, not_false_eq_true, iK0, iK1, iK2, iK3, iK4, iK5, iKm1, bK6, bK7, bK8, bK9, bK10, bK12, bK14, bK15, bK16, bK20, bK21, bK26, bK30, bK32, bK33, bK45, bK48, bK57, bK59, bK60, bK62, bK63, bK64, bK80, bK93, bK98, bK99, bK100, bK104, bK107, bK109, bK110, bK112, bK113, bK114, bK115, bK116, bK119, sK255, sK256, sK500, sK700, sK798, sK912, sK1400, sK2000])) ?_
    (rintro _ _ ⟨rfl, rfl⟩) <;> (repeat' (first | refine And.intro ?_ ?_ | (with_reducible intro h9; exact absurd h9 (by simp only [cI, cN]; decide +kernel)) | with_reducible intro _ | exact (rfl : narrow _ _ = _) | decide | (unfold vp_in; decide)))
    exact AW.cg (ih _ (by omega) (k + 1) (by omega) rfl) rfl rfl rfl (by first | rfl | (simp (discharger := omega) only [msk, clr_i, clr_r, psC, cI, cN, ← nI_0, nI_ltI, nI_leI, nI_eq, nI_add, pk_mul, pk_sub, nI_clamp, vinI, not_true_eq_false, not_false_eq_true, iK0, iK1, iK2, iK3, iK4, iK5, iKm1, bK6, bK7, bK8, bK9, bK10, bK12, bK14, bK15, bK16, bK20, bK21, bK26, bK30, bK32, bK33, bK45, bK48, bK57, bK59, bK60, bK62, bK63, bK64, bK80, bK93, bK98, bK99, bK100, bK104, bK107, bK109, bK110, bK112, bK113, bK114, bK115, bK116, bK119, sK255, sK256, sK500, sK700, sK798, sK912, sK1400, sK2000]; done) | (simp (discharger := omega) only [msk, clr_i, clr_r, psC, cI, cN, ← nI_0, nI_ltI, nI_leI, nI_eq, nI_add, pk_mul, pk_sub, nI_clamp, vinI, not_true_eq_false, not_false_eq_true, iK0, iK1, iK2, iK3, iK4, iK5, iKm1, bK6, bK7, bK8, bK9, bK10, bK12, bK14, bK15, bK16, bK20, bK21, bK26, bK30, bK32, bK33, bK45, bK48, bK57, bK59, bK60, bK62, bK63, bK64, bK80, bK93, bK98, bK99, bK100, bK104, bK107, bK109, bK110, bK112, bK113, bK114, bK115, bK116, bK119, sK255, sK256, sK500, sK700, sK798, sK912, sK1400, sK2000]; rfl)) rfl rfl
set_option maxRecDepth 20000 in
theorem md_pass (hg : gOK G) (N : nT) (n : Nat) (hn : N.nb n) (hc : N.cK) (hK3 : gK N.g n) (hC : gC N.g n) (x : Int32) : Spec G 6 0 0 m_X9_pass [.ref 0, .int x] (mw N) (fun v w' =>
    (¬ (nI 1 ≤ x ∧ x ≤ nI 48) ∧ w' = mw (N.s_co (nI 1)) ∧ ∃ y, v = some (.int y)) ∨
    (∃ t, 1 ≤ t ∧ t ≤ 48 ∧ x = nI t ∧ v = some (.int (psC N.g n t)) ∧ w' = mw ((N.kps N.g).s_g (psG N.g n t)))) NX := by
  refine wp_spec (M := M_X9_pass) hg ok_X9_pass (lkp [(36, [true, true, true, true])]) 60 rfl rfl ?_
  repeat' (first | refine And.intro ?_ ?_ | (with_reducible intro h9; exact absurd h9 (by simp only [cI, cN]; decide +kernel)) | with_reducible intro _ | exact (rfl : narrow _ _ = _) | decide | (unfold vp_in; decide))
  refine cc0 [] (md_in hg x (nI 1) (nI 48)) (by decide) (by decide) (by decide) rfl (by repeat' (first | exact trivial | refine And.intro ?_ ?_ | rfl)) (by first | rfl | (simp (discharger := omega) only [renVs, renV, rnI, cI, cN, ← nI_0, nI_ltI, nI_leI, nI_eq, nI_add, pk_mul, pk_sub, nI_clamp, vinI, not_true_eq_false, not_false_eq_true, iK0, iK1, iK2, iK3, iK4, iK5, iKm1, bK6, bK7, bK8, bK9, bK10, bK12, bK14, bK15, bK16, bK20, bK21, bK26, bK30, bK32, bK33, bK45, bK48, bK57, bK59, bK60, bK62, bK63, bK64, bK80, bK93, bK98, bK99, bK100, bK104, bK107, bK109, bK110, bK112, bK113, bK114, bK115, bK116, bK119, sK255, sK256, sK500, sK700, sK798, sK912, sK1400, sK2000])) ?_
  (rintro _ _ ⟨⟨rfl, q1, q2⟩ | ⟨rfl, q⟩, rfl⟩) <;> (repeat' (first | refine And.intro ?_ ?_ | (with_reducible intro h9; exact absurd h9 (by simp only [cI, cN]; decide +kernel)) | with_reducible intro _ | exact (rfl : narrow _ _ = _) | decide | (unfold vp_in; decide)))
  · refine cc0 [0, 1, 2, 3, 4, 5, 6, 7, 8] (md_f0 hg N) (by decide) (by decide) (by decide) rfl (by repeat' (first | exact trivial | refine And.intro ?_ ?_ | rfl)) (by first | rfl | (simp (discharger := omega) only [renVs, renV, rnI, cI, cN, ← nI_0, nI_ltI, nI_leI, nI_eq, nI_add, pk_mul, pk_sub, nI_clamp, vinI, not_true_eq_false, not_false_eq_true, iK0, iK1, iK2, iK3, iK4, iK5, iKm1, bK6, bK7, bK8, bK9, bK10, bK12, bK14, bK15, bK16, bK20, bK21, bK26, bK30, bK32, bK33, bK45, bK48, bK57, bK59, bK60, bK62, bK63, bK64, bK80, bK93, bK98, bK99, bK100, bK104, bK107, bK109, bK110, bK112, bK113, bK114, bK115, bK116, bK119, sK255, sK256, sK500, sK700, sK798, sK912, sK1400, sK2000])) ?_
    (rintro _ _ ⟨rfl, rfl⟩) <;> (repeat' (first | refine And.intro ?_ ?_ | (with_reducible intro h9; exact absurd h9 (by simp only [cI, cN]; decide +kernel)) | with_reducible intro _ | exact (rfl : narrow _ _ = _) | decide | (unfold vp_in; decide)))
    refine cc0 [0, 1, 2, 3, 4, 5, 6, 7, 8] (md_keepG hg (N.s_co (nI 0)) hc) (by decide) (by decide) (by decide) rfl (by repeat' (first | exact trivial | refine And.intro ?_ ?_ | rfl)) (by first | rfl | (simp (discharger := omega) only [renVs, renV, rnI, cI, cN, ← nI_0, nI_ltI, nI_leI, nI_eq, nI_add, pk_mul, pk_sub, nI_clamp, vinI, not_true_eq_false, not_false_eq_true, iK0, iK1, iK2, iK3, iK4, iK5, iKm1, bK6, bK7, bK8, bK9, bK10, bK12, bK14, bK15, bK16, bK20, bK21, bK26, bK30, bK32, bK33, bK45, bK48, bK57, bK59, bK60, bK62, bK63, bK64, bK80, bK93, bK98, bK99, bK100, bK104, bK107, bK109, bK110, bK112, bK113, bK114, bK115, bK116, bK119, sK255, sK256, sK500, sK700, sK798, sK912, sK1400, sK2000])) ?_
    (rintro _ _ ⟨rfl, rfl⟩) <;> (repeat' (first | refine And.intro ?_ ?_ | (with_reducible intro h9; exact absurd h9 (by simp only [cI, cN]; decide +kernel)) | with_reducible intro _ | exact (rfl : narrow _ _ = _) | decide | (unfold vp_in; decide)))
    obtain ⟨t, ht, rfl⟩ := nI_of (x := x) (by rw [← nI_0]; exact Int32.not_lt.mpr (Int32.le_trans (by decide) q1))
    rw [nI_leI (by omega) (by omega)] at q1 q2
    exact AW.cg (md_pass_l hg (N.kps N.g) N.g n t q2 hn.1 hn.2 hK3 hC (Or.inr ⟨t, q1, q2, rfl, rfl, rfl⟩) _ 0 (by omega) rfl) rfl rfl rfl (by first | rfl | (simp (discharger := omega) only [msk, clr_i, clr_r, psC, cI, cN, ← nI_0, nI_ltI, nI_leI, nI_eq, nI_add, pk_mul, pk_sub, nI_clamp, vinI, not_true_eq_false, not_false_eq_true, iK0, iK1, iK2, iK3, iK4, iK5, iKm1, bK6, bK7, bK8, bK9, bK10, bK12, bK14, bK15, bK16, bK20, bK21, bK26, bK30, bK32, bK33, bK45, bK48, bK57, bK59, bK60, bK62, bK63, bK64, bK80, bK93, bK98, bK99, bK100, bK104, bK107, bK109, bK110, bK112, bK113, bK114, bK115, bK116, bK119, sK255, sK256, sK500, sK700, sK798, sK912, sK1400, sK2000]; done) | (simp (discharger := omega) only [msk, clr_i, clr_r, psC, cI, cN, ← nI_0, nI_ltI, nI_leI, nI_eq, nI_add, pk_mul, pk_sub, nI_clamp, vinI, not_true_eq_false, not_false_eq_true, iK0, iK1, iK2, iK3, iK4, iK5, iKm1, bK6, bK7, bK8, bK9, bK10, bK12, bK14, bK15, bK16, bK20, bK21, bK26, bK30, bK32, bK33, bK45, bK48, bK57, bK59, bK60, bK62, bK63, bK64, bK80, bK93, bK98, bK99, bK100, bK104, bK107, bK109, bK110, bK112, bK113, bK114, bK115, bK116, bK119, sK255, sK256, sK500, sK700, sK798, sK912, sK1400, sK2000]; rfl)) rfl rfl
  · refine cc0 [0, 1, 2, 3, 4, 5, 6, 7, 8] (md_f1 hg N) (by decide) (by decide) (by decide) rfl (by repeat' (first | exact trivial | refine And.intro ?_ ?_ | rfl)) (by first | rfl | (simp (discharger := omega) only [renVs, renV, rnI, cI, cN, ← nI_0, nI_ltI, nI_leI, nI_eq, nI_add, pk_mul, pk_sub, nI_clamp, vinI, not_true_eq_false, not_false_eq_true, iK0, iK1, iK2, iK3, iK4, iK5, iKm1, bK6, bK7, bK8, bK9, bK10, bK12, bK14, bK15, bK16, bK20, bK21, bK26, bK30, bK32, bK33, bK45, bK48, bK57, bK59, bK60, bK62, bK63, bK64, bK80, bK93, bK98, bK99, bK100, bK104, bK107, bK109, bK110, bK112, bK113, bK114, bK115, bK116, bK119, sK255, sK256, sK500, sK700, sK798, sK912, sK1400, sK2000])) ?_
    (rintro _ _ ⟨rfl, rfl⟩) <;> (repeat' (first | refine And.intro ?_ ?_ | (with_reducible intro h9; exact absurd h9 (by simp only [cI, cN]; decide +kernel)) | with_reducible intro _ | exact (rfl : narrow _ _ = _) | decide | (unfold vp_in; decide)))
    refine Or.inl ?_
    exact ⟨q, rfl, _, rfl⟩
end NN
