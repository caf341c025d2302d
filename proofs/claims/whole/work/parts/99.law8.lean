/-! ===== the law's loop ===== -/
section LC
variable {G : gT} {F E : fT} {H : hT} {r : Int32 × Int32} {X : xT} {ht : Nat → Int32} {P : pT7} {S : sT4} {sd : Value} {er : Int32} {N : nT} {fo : Nat → Int64} {fd : Nat → UInt64} {u : xW} {bc bs : Nat} {K : Option Value → xW → Prop}

theorem nI_n3 {L k : Nat} (hL : L < 3) (hk : k < 2 ^ 30) : nI L - Int32.ofInt 3 < nI k := by
  have h1 : nI L - Int32.ofInt 3 < 0 := by
    have : L = 0 ∨ L = 1 ∨ L = 2 := by omega
    rcases this with rfl | rfl | rfl <;> decide
  have h2 : (0 : Int32) ≤ nI k := by
    rw [← nI_0, nI_leI (by omega) (by omega)]
    omega
  exact Int32.lt_of_lt_of_le h1 h2
set_option maxRecDepth 20000 in
set_option maxRecDepth 20000 in
theorem law_head (hg : gOK G) (hL : G.L ≤ 1536) (k : Nat) (hk : 3 * k ≤ 1600) (I : cV F E H r X S sd er (tl N fo fd u) N) (hK : ∀ w, K (some (.int (Int32.ofInt 1))) w) (HX : 3 * k + 3 ≤ G.L → 51 ≤ bc ∧ 1710 ≤ bs ∧ lNext G (bc - 51) (bs - 1710) (nI (3 * k)) K) : AW G M_L_law 12 bc bs 28 (lsL (nI (3 * k))) [] (ww F E H r X ht P S sd er (tl N fo fd u)) K NX := by
  have v1 : 3 * k + 3 ≤ G.L → vp_in (nI (3 * k) + Int32.ofInt 1) G.L := fun z => by
    rw [iK1, nI_add, vinI (by omega)]
    omega
  have v2 : 3 * k + 3 ≤ G.L → vp_in (nI (3 * k) + Int32.ofInt 2) G.L := fun z => by
    rw [iK2, nI_add, vinI (by omega)]
    omega
  have v0 : 3 * k + 3 ≤ G.L → vp_in (nI (3 * k)) G.L := fun z => by
    rw [vinI (by omega)]
    omega
  have hc : ¬ nI G.L - Int32.ofInt 3 < nI (3 * k) → 3 * k + 3 ≤ G.L := fun z => by
    by_cases q : G.L < 3
    · exact absurd (nI_n3 q (by omega)) z
    · rw [iK3, pk_sub (by omega), nI_ltI (by omega) (by omega)] at z
      omega
  refine wp_okL (M := M_L_law) hg okL_law (lkp [(208, [true, true, true, true, true, true, false, false, false]), (264, [true, true, true, true, true, true, false, false, false]), (320, [true, true, true, true, true, true, false, false, false]), (388, [true, true, true, true, true, true, false, false, false]), (444, [true, true, true, true, true, true, false, false, false]), (512, [true, true, true, true, true, true, false, false, false]), (568, [true, true, true, true, true, true, false, false, false]), (624, [true, true, true, true, true, true, false, false, false]), (692, [true, true, true, true, true, true, false, false, false]), (760, [true, true, true, true, true, true, false, false, false]), (816, [true, true, true, true, true, true, false, false, false]), (872, [true, true, true, true, true, true, false, false, false]), (928, [true, true, true, true, true, true, false, false, false]), (996, [true, true, true, true, true, true, false, false, false]), (1052, [true, true, true, true, true, true, false, false, false]), (1120, [true, true, true, true, true, true, false, false, false]), (1204, [true, true, true, true, true, true, false, false, false]), (1272, [true, true, true, true, true, true, false, false, false]), (1328, [true, true, true, true, true, true, false, false, false]), (1412, [true, true, true, true, true, true, false, false, false]), (1456, [true, true, true, true, true, true, false, false, false]), (1512, [true, true, true, true, true, true, false, false, false]), (1553, [true, true, true, true, true, true, false, false, false]), (1597, [true, true, true, true, true, true, false, false, false]), (1653, [true, true, true, true, true, true, false, false, false]), (1709, [true, true, true, true, true, true, false, false, false]), (1765, [true, true, true, true, true, true, false, false, false]), (1823, [true, true, true, true, true, true, false, false, false]), (1867, [true, true, true, true, true, true, false, false, false]), (1880, [true, true, true, true, true, true, false, false, false]), (1952, [true, true, true, true, true, true, false, false, false]), (2008, [true, true, true, true, true, true, false, false, false]), (2021, [true, true, true, true, true, true, false, false, false]), (2086, [true, true, true, true, true, true, false, false, false]), (2152, [true, true, true, true, true, true, false, false, false]), (2196, [true, true, true, true, true, true, false, false, false]), (2209, [true, true, true, true, true, true, false, false, false]), (2253, [true, true, true, true, true, true, false, false, false])]) 120 _ _ _ _ _ _ ?_
  repeat' (first | refine And.intro ?_ ?_ | with_reducible exact v1 | with_reducible exact v2 | (with_reducible intro h9; exact absurd h9 (by simp only [cI, cN]; decide +kernel)) | with_reducible intro _ | exact (rfl : narrow _ _ = _) | decide | (unfold vp_in; decide) | refine Eq.mpr (fL_eq _ _) ?_ | refine Eq.mpr (fW_eq _ _) ?_ | refine Eq.mpr (fN_eq _ _) ?_)
  · exact hK _
  · rename_i g
    exact v0 (hc g)
  · rename_i g
    obtain ⟨hb, hs, HN⟩ := HX (hc g)
    replace v1 := v1 (hc g)
    replace v2 := v2 (hc g)
    obtain ⟨j, hj, e⟩ := pk_andE (G.xs (nI (3 * k)).toNatClampNeg) (m := (Int8.ofInt 63).toInt32) 6 (by decide)
    have e2 : (G.xs (nI (3 * k)).toNatClampNeg &&& (Int8.ofInt 63).toInt32).toInt = (0 : Int) + j := by
      rw [e]
      exact (nI_toInt (by omega)).trans (Int.zero_add _).symm
    have hj2 : 37 ≤ j ∨ j < 37 := by omega
    rcases hj2 with hj2 | hj2
    · exact sw_df (Or.inr (by rw [e2]; show (0 : Int) + 37 ≤ 0 + j; omega)) (AW.up (HN _ _ _ _ _ _ _ _ _ _ _ _ _ _ I) (by omega) (by omega))
    · have hjj : j = 0 ∨ j = 1 ∨ j = 2 ∨ j = 3 ∨ j = 4 ∨ j = 5 ∨ j = 6 ∨ j = 7 ∨ j = 8 ∨ j = 9 ∨ j = 10 ∨ j = 11 ∨ j = 12 ∨ j = 13 ∨ j = 14 ∨ j = 15 ∨ j = 16 ∨ j = 17 ∨ j = 18 ∨ j = 19 ∨ j = 20 ∨ j = 21 ∨ j = 22 ∨ j = 23 ∨ j = 24 ∨ j = 25 ∨ j = 26 ∨ j = 27 ∨ j = 28 ∨ j = 29 ∨ j = 30 ∨ j = 31 ∨ j = 32 ∨ j = 33 ∨ j = 34 ∨ j = 35 ∨ j = 36 := by omega
      rcases hjj with rfl | rfl | rfl | rfl | rfl | rfl | rfl | rfl | rfl | rfl | rfl | rfl | rfl | rfl | rfl | rfl | rfl | rfl | rfl | rfl | rfl | rfl | rfl | rfl | rfl | rfl | rfl | rfl | rfl | rfl | rfl | rfl | rfl | rfl | rfl | rfl | rfl
      · exact sw_at 208 0 e2 rfl (law_coal hg I v1 v2 hb hs HN)
      · exact sw_at 264 1 e2 rfl (law_bronze hg I v1 v2 hb hs HN)
      · exact sw_at 320 2 e2 rfl (law_mould hg I v1 v2 hb hs HN)
      · exact sw_at 388 3 e2 rfl (law_smash hg I v1 v2 hb hs HN)
      · exact sw_at 444 4 e2 rfl (law_mouldOf hg I v1 v2 hb hs HN)
      · exact sw_at 512 5 e2 rfl (law_rack hg I v1 v2 hb hs HN)
      · exact sw_at 568 6 e2 rfl (law_strike hg I v1 v2 hb hs HN)
      · exact sw_at 624 7 e2 rfl (law_rackOf hg I v1 v2 hb hs HN)
      · exact sw_at 692 8 e2 rfl (law_pour hg I v1 v2 hb hs HN)
      · exact sw_at 760 9 e2 rfl (law_pass hg I v1 v2 hb hs HN)
      · exact sw_at 816 10 e2 rfl (law_take hg I v1 v2 hb hs HN)
      · exact sw_at 872 11 e2 rfl (law_ring hg I v1 v2 hb hs HN)
      · exact sw_at 928 12 e2 rfl (law_file hg I v1 v2 hb hs HN)
      · exact sw_at 996 13 e2 rfl (law_recast hg I v1 v2 hb hs HN)
      · exact sw_at 1052 14 e2 rfl (law_bellOf hg I v1 v2 hb hs HN)
      · exact sw_at 1120 15 e2 rfl (law_note hg I v1 v2 hb hs HN)
      · exact sw_at 1204 16 e2 rfl (law_wouldCrack hg I v1 v2 hb hs HN)
      · exact sw_at 1272 17 e2 rfl (law_coldIn hg I v1 v2 hb hs HN)
      · exact sw_at 1328 18 e2 rfl (law_peal hg I v1 v2 hb hs HN)
      · exact sw_at 1412 19 e2 rfl (law_longest hg I v1 v2 hb hs HN)
      · exact sw_at 1456 20 e2 rfl (law_ranked hg I v1 v2 hb hs HN)
      · exact sw_at 1512 21 e2 rfl (law_pourable hg I v1 v2 hb hs HN)
      · exact sw_at 1553 22 e2 rfl (law_first hg I v1 v2 hb hs HN)
      · exact sw_at 1597 23 e2 rfl (law_line hg I v1 v2 hb hs HN)
      · exact sw_at 1653 24 e2 rfl (law_rackLine hg I v1 v2 hb hs HN)
      · exact sw_at 1709 25 e2 rfl (law_character hg I v1 v2 hb hs HN)
      · exact sw_at 1765 26 e2 rfl (law_append hg I v1 v2 hb hs HN)
      · exact sw_at 1823 27 e2 rfl (law_run hg I v1 v2 hb hs HN)
      · exact sw_at 1867 28 e2 rfl (law_errorPosition hg I v1 v2 hb hs HN)
      · exact sw_at 1880 29 e2 rfl (law_refusal hg I v1 v2 hb hs HN)
      · exact sw_at 1952 30 e2 rfl (law_account hg I v1 v2 hb hs HN)
      · exact sw_at 2008 31 e2 rfl (law_isWell hg I v1 v2 hb hs HN)
      · exact sw_at 2021 32 e2 rfl (law_meanNote hg I v1 v2 hb hs HN)
      · exact sw_at 2086 33 e2 rfl (law_soundShare hg I v1 v2 hb hs HN)
      · exact sw_at 2152 34 e2 rfl (law_undo hg I v1 v2 hb hs HN)
      · exact sw_at 2196 35 e2 rfl (law_save hg I v1 v2 hb hs HN)
      · exact sw_at 2209 36 e2 rfl (law_restore hg I v1 v2 hb hs HN)
set_option maxRecDepth 20000 in
set_option maxRecDepth 20000 in
theorem law_next (hg : gOK G) (i : Int32) (h : AW G M_L_law 12 bc bs 28 (lsL (i + Int32.ofInt 3)) [] (ww F E H r X ht P S sd er (tl N fo fd u)) K NX) : AW G M_L_law 12 bc bs 2253 (lsL i) [] (ww F E H r X ht P S sd er (tl N fo fd u)) K NX := by
  refine wp_okL (M := M_L_law) hg okL_law (lkp [(28, [true, true, true, true, true, true, false, false, false])]) 120 _ _ _ _ _ _ ?_
  exact h
set_option maxRecDepth 20000 in
theorem law_loop (hg : gOK G) (hL : G.L ≤ 1536) (hK : ∀ w, K (some (.int (Int32.ofInt 1))) w) : ∀ (n k bc bs : Nat), 3 * k ≤ 1600 → G.L ≤ 3 * k + 3 * n → 51 * n ≤ bc → 1710 * n ≤ bs → ∀ (F E : fT) (H : hT) (r : Int32 × Int32) (X : xT) (ht : Nat → Int32) (P : pT7) (S : sT4) (sd : Value) (er : Int32) (N : nT) (fo : Nat → Int64) (fd : Nat → UInt64) (u : xW), cV F E H r X S sd er (tl N fo fd u) N → AW G M_L_law 12 bc bs 28 (lsL (nI (3 * k))) [] (ww F E H r X ht P S sd er (tl N fo fd u)) K NX
  | 0, k, bc, bs, hk, hn, hb, hs, F, E, H, r, X, ht, P, S, sd, er, N, fo, fd, u, I => law_head hg hL k hk I hK (fun z => absurd z (by omega))
  | n + 1, k, bc, bs, hk, hn, hb, hs, F, E, H, r, X, ht, P, S, sd, er, N, fo, fd, u, I => law_head hg hL k hk I hK (fun z => ⟨by omega, by omega, fun F E H r X ht P S sd er N fo fd u I2 => law_next hg _ (by
      have e : nI (3 * k) + Int32.ofInt 3 = nI (3 * (k + 1)) := by
        rw [iK3, nI_add]
        exact nI_uq (by omega)
      rw [e]
      exact law_loop hg hL hK n (k + 1) _ _ (by omega) (by omega) (by omega) (by omega) F E H r X ht P S sd er N fo fd u I2)⟩)
end LC
