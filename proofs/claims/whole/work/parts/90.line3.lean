/-! ===== a rack's line, a sign: the class's ===== -/
section LL
variable {G : gT} {F E : fT} {H : hT} {r : Int32 × Int32} {X : xT} {ht : Nat → Int32} {P : pT7} {S : sT4} {sd : Value} {er : Int32} {t : xW} {N : nT}
set_option maxRecDepth 20000 in
theorem AW.up {M : mT} {d bc bs pc bc' bs' : Nat} {ls : List (Option Value)} {st : List Value} {w : xW} {K : Option Value → xW → Prop} {KX : Nat → xW → Prop} (h : AW G M d bc bs pc ls st w K KX) (h1 : bc ≤ bc') (h2 : bs ≤ bs') : AW G M d bc' bs' pc ls st w K KX :=
  fun A ad0 R p e s m args below meth c Q C f ad ws H locs cells slots lc sc w0 hl hs hb1 hb2 => h A ad0 R p e s m args below meth c Q C f ad ws H locs cells slots lc sc w0 hl hs (by omega) (by omega)
set_option maxRecDepth 20000 in
theorem x_rack_l (hg : gOK G) (hF : fB F) (g0 : Nat → Int32) (x : Int32) (w : Nat → Nat) (hcg : ∀ u, u < F.B.1 → g0 (30 + 7 * u + 3) = F.b u 3) (hw : ∀ u, u < F.B.1 → F.b u 4 = nI (w u) ∧ w u < 128) (hon : gon g0 x F.B.1 ≤ 3) (t0 : xW) {K : Option Value → xW → Prop} {KX : Nat → xW → Prop} (hK : ∀ S' t', sbL S' t' (rlL g0 x w F.B.1) → tpr t0 t' → K none (ww F E H r X ht P S' sd er t')) : ∀ (c k : Nat) (hk : k ≤ F.B.1) (hcc : F.B.1 - k = c) (S : sT4) (t : xW) (hS : sbL S t (rlL g0 x w k)) (ht0 : tpr t0 t),
    AW G M_X8_writeRack 9 (4 * (12 - k)) (136 * (12 - k)) 10 [some (.ref 0), some (.int x), some (.int (nI k))] [] (ww F E H r X ht P S sd er t) K KX := by
  have h12 := hF.2.2
  intro c
  induction c with
  | zero =>
    intro k hk hcc S t hS ht0
    have e : k = F.B.1 := by omega
    subst e
    refine wp_ok (M := M_X8_writeRack) hg ok_X8_writeRack (lkp []) 60 _ _ _ _ _ _ ?_
    repeat' (first | refine And.intro ?_ ?_ | (with_reducible intro h9; exact absurd h9 (by simp only [cI, cN]; decide +kernel)) | with_reducible intro _ | exact (rfl : narrow _ _ = _) | decide | (unfold vp_in; decide) | refine Eq.mpr (fL_eq _ _) ?_ | refine Eq.mpr (fW_eq _ _) ?_ | refine Eq.mpr (fN_eq _ _) ?_)
    refine ccn 31 [6, 7] (tb_size hg 12 8 F.B.1 F.B.2) (by decide) (Nat.zero_le _) (Nat.zero_le _) rfl (by repeat' (first | exact trivial | refine And.intro ?_ ?_ | rfl)) rfl ?_
    (rintro _ _ ⟨rfl, rfl⟩) <;> (repeat' (first | refine And.intro ?_ ?_ | (with_reducible intro h9; exact absurd h9 (by simp only [cI, cN]; decide +kernel)) | with_reducible intro _ | exact (rfl : narrow _ _ = _) | decide | (unfold vp_in; decide) | refine Eq.mpr (fL_eq _ _) ?_ | refine Eq.mpr (fW_eq _ _) ?_ | refine Eq.mpr (fN_eq _ _) ?_))
    · exact hK S t hS ht0
    · rename_i g
      exfalso
      exact g ((nI_leI (by omega) (by omega)).mpr (by omega))
  | succ c ih =>
    intro k hk hcc S t hS ht0
    have hlt : k < F.B.1 := by omega
    obtain ⟨w1, w2⟩ := hw k hlt
    have s3 := tb_get hg 12 8 F.B.1 k 3 F.B.2 h12 hlt (by omega) (by omega) (by omega) (by omega)
    have s4 := tb_get hg 12 8 F.B.1 k 4 F.B.2 h12 hlt (by omega) (by omega) (by omega) (by omega)
    rw [show F.B.2 (k * 8 + 4) = nI (w k) from w1] at s4
    have l0 := rlL_len (g := g0) (x := x) (w := w) k
    have l1 := dig_len k
    have l2 := dig_len (w k)
    have hm : gon g0 x (k + 1) ≤ gon g0 x F.B.1 := cnt_mono hlt
    by_cases hx : F.b k 3 = x
    · have hg3 : g0 (30 + 7 * k + 3) = x := (hcg k hlt).trans hx
      have hg1 : gon g0 x (k + 1) = gon g0 x k + 1 := cnt_t (decide_eq_true hg3)
      have e : rlL g0 x w (k + 1) = rlL g0 x w k ++ ((if 0 < (rlL g0 x w k).length then [32] else []) ++ (dig k ++ (119 :: dig (w k)))) := by
        rw [rlL, if_pos hg3]
      have lk : (rlL g0 x w k).length ≤ 16 := by omega
      obtain ⟨f, hS1, hS2⟩ := hS
      have hS : sbL S t (rlL g0 x w k) := ⟨f, hS1, hS2⟩
      refine wp_ok (M := M_X8_writeRack) hg ok_X8_writeRack (lkp [(10, [true, true, true])]) 60 _ _ _ _ _ _ ?_
      repeat' (first | refine And.intro ?_ ?_ | (with_reducible intro h9; exact absurd h9 (by simp only [cI, cN]; decide +kernel)) | with_reducible intro _ | exact (rfl : narrow _ _ = _) | decide | (unfold vp_in; decide) | refine Eq.mpr (fL_eq _ _) ?_ | refine Eq.mpr (fW_eq _ _) ?_ | refine Eq.mpr (fN_eq _ _) ?_)
      refine ccn 31 [6, 7] (tb_size hg 12 8 F.B.1 F.B.2) (by decide) (Nat.zero_le _) (Nat.zero_le _) rfl (by repeat' (first | exact trivial | refine And.intro ?_ ?_ | rfl)) rfl ?_
      (rintro _ _ ⟨rfl, rfl⟩) <;> (repeat' (first | refine And.intro ?_ ?_ | (with_reducible intro h9; exact absurd h9 (by simp only [cI, cN]; decide +kernel)) | with_reducible intro _ | exact (rfl : narrow _ _ = _) | decide | (unfold vp_in; decide) | refine Eq.mpr (fL_eq _ _) ?_ | refine Eq.mpr (fW_eq _ _) ?_ | refine Eq.mpr (fN_eq _ _) ?_))
      · rename_i g
        exfalso
        have := (nI_leI (by omega) (by omega)).mp g
        omega
      · refine ccn 31 [6, 7] (s3) (by decide) (Nat.zero_le _) (Nat.zero_le _) rfl (by repeat' (first | exact trivial | refine And.intro ?_ ?_ | rfl)) rfl ?_
        (rintro _ _ ⟨rfl, rfl⟩) <;> (repeat' (first | refine And.intro ?_ ?_ | (with_reducible intro h9; exact absurd h9 (by simp only [cI, cN]; decide +kernel)) | with_reducible intro _ | exact (rfl : narrow _ _ = _) | decide | (unfold vp_in; decide) | refine Eq.mpr (fL_eq _ _) ?_ | refine Eq.mpr (fW_eq _ _) ?_ | refine Eq.mpr (fN_eq _ _) ?_))
        · rename_i g
          exact absurd hx g
        · refine cci 31 (wb_len hg S _ f hS1) (by decide) (by omega) (by omega) rfl (by rfl) ?_ (fun _ _ h => h.elim)
          (rintro _ _ ⟨rfl, rfl⟩) <;> (repeat' (first | refine And.intro ?_ ?_ | (with_reducible intro h9; exact absurd h9 (by simp only [cI, cN]; decide +kernel)) | with_reducible intro _ | exact (rfl : narrow _ _ = _) | decide | (unfold vp_in; decide) | refine Eq.mpr (fL_eq _ _) ?_ | refine Eq.mpr (fW_eq _ _) ?_ | refine Eq.mpr (fN_eq _ _) ?_))
          · rename_i g
            have gl : ¬ 0 < (rlL g0 x w k).length := by
              have := (nI_leI (b := 0) (by omega) (by omega)).mp g
              omega
            refine cci 31 (wl_appI hg hS k (by omega) (by omega)) (by decide) (by omega) (by omega) rfl (by rfl) ?_ (fun _ _ h => h.elim)
            (rintro _ _ ⟨rfl, S2, t2, rfl, k2, p2⟩) <;> (repeat' (first | refine And.intro ?_ ?_ | (with_reducible intro h9; exact absurd h9 (by simp only [cI, cN]; decide +kernel)) | with_reducible intro _ | exact (rfl : narrow _ _ = _) | decide | (unfold vp_in; decide) | refine Eq.mpr (fL_eq _ _) ?_ | refine Eq.mpr (fW_eq _ _) ?_ | refine Eq.mpr (fN_eq _ _) ?_))
            refine cci 31 (wl_app hg k2 119 (by simp only [List.length_append]; omega) (by omega)) (by decide) (by omega) (by omega) rfl (by simp only [bK119]) ?_ (fun _ _ h => h.elim)
            (rintro _ _ ⟨rfl, S3, t3, rfl, k3, p3⟩) <;> (repeat' (first | refine And.intro ?_ ?_ | (with_reducible intro h9; exact absurd h9 (by simp only [cI, cN]; decide +kernel)) | with_reducible intro _ | exact (rfl : narrow _ _ = _) | decide | (unfold vp_in; decide) | refine Eq.mpr (fL_eq _ _) ?_ | refine Eq.mpr (fW_eq _ _) ?_ | refine Eq.mpr (fN_eq _ _) ?_))
            refine ccn 31 [6, 7] (s4) (by decide) (Nat.zero_le _) (Nat.zero_le _) rfl (by repeat' (first | exact trivial | refine And.intro ?_ ?_ | rfl)) rfl ?_
            (rintro _ _ ⟨rfl, rfl⟩) <;> (repeat' (first | refine And.intro ?_ ?_ | (with_reducible intro h9; exact absurd h9 (by simp only [cI, cN]; decide +kernel)) | with_reducible intro _ | exact (rfl : narrow _ _ = _) | decide | (unfold vp_in; decide) | refine Eq.mpr (fL_eq _ _) ?_ | refine Eq.mpr (fW_eq _ _) ?_ | refine Eq.mpr (fN_eq _ _) ?_))
            refine cci 31 (wl_appI hg k3 (w k) (by simp only [List.length_append, List.length_cons, List.length_nil]; omega) w2) (by decide) (by omega) (by omega) rfl (by rfl) ?_ (fun _ _ h => h.elim)
            (rintro _ _ ⟨rfl, S4, t4, rfl, k4, p4⟩) <;> (repeat' (first | refine And.intro ?_ ?_ | (with_reducible intro h9; exact absurd h9 (by simp only [cI, cN]; decide +kernel)) | with_reducible intro _ | exact (rfl : narrow _ _ = _) | decide | (unfold vp_in; decide) | refine Eq.mpr (fL_eq _ _) ?_ | refine Eq.mpr (fW_eq _ _) ?_ | refine Eq.mpr (fN_eq _ _) ?_))
            rw [show rlL g0 x w k ++ dig k ++ [119] ++ dig (w k) = rlL g0 x w (k + 1) from by rw [e, if_neg gl]; simp only [List.append_assoc, List.nil_append, List.singleton_append, List.cons_append]] at k4
            exact AW.cg (AW.up (ih (k + 1) (by omega) (by omega) S4 t4 k4 (ht0.tr ((p2.tr p3).tr p4))) (by omega) (by omega)) rfl rfl rfl (by first | rfl | (simp (discharger := omega) only [msk, clr_i, clr_r, cI, cN, ← nI_0, nI_ltI, nI_leI, nI_eq, nI_add, pk_mul, pk_sub, nI_clamp, vinI, not_true_eq_false, not_false_eq_true, iK0, iK1, iK2, iK3, iK4, iK5, iKm1, bK6, bK7, bK8, bK9, bK10, bK12, bK14, bK15, bK16, bK20, bK21, bK26, bK30, bK32, bK33, bK45, bK48, bK57, bK59, bK60, bK62, bK63, bK64, bK80, bK93, bK98, bK99, bK100, bK104, bK107, bK109, bK110, bK112, bK113, bK114, bK115, bK116, bK119, sK255, sK256, sK500, sK700, sK798, sK912, sK1400, sK2000]; done) | (simp (discharger := omega) only [msk, clr_i, clr_r, cI, cN, ← nI_0, nI_ltI, nI_leI, nI_eq, nI_add, pk_mul, pk_sub, nI_clamp, vinI, not_true_eq_false, not_false_eq_true, iK0, iK1, iK2, iK3, iK4, iK5, iKm1, bK6, bK7, bK8, bK9, bK10, bK12, bK14, bK15, bK16, bK20, bK21, bK26, bK30, bK32, bK33, bK45, bK48, bK57, bK59, bK60, bK62, bK63, bK64, bK80, bK93, bK98, bK99, bK100, bK104, bK107, bK109, bK110, bK112, bK113, bK114, bK115, bK116, bK119, sK255, sK256, sK500, sK700, sK798, sK912, sK1400, sK2000]; rfl)) rfl rfl
          · rename_i g
            have gl : 0 < (rlL g0 x w k).length := by
              rcases Nat.lt_or_ge 0 (rlL g0 x w k).length with z | z
              · exact z
              · exact absurd ((nI_leI (b := 0) (by omega) (by omega)).mpr z) g
            refine cci 31 (wl_app hg hS 32 (by omega) (by omega)) (by decide) (by omega) (by omega) rfl (by simp only [bK32]) ?_ (fun _ _ h => h.elim)
            (rintro _ _ ⟨rfl, S1, t1, rfl, k1, p1⟩) <;> (repeat' (first | refine And.intro ?_ ?_ | (with_reducible intro h9; exact absurd h9 (by simp only [cI, cN]; decide +kernel)) | with_reducible intro _ | exact (rfl : narrow _ _ = _) | decide | (unfold vp_in; decide) | refine Eq.mpr (fL_eq _ _) ?_ | refine Eq.mpr (fW_eq _ _) ?_ | refine Eq.mpr (fN_eq _ _) ?_))
            refine cci 31 (wl_appI hg k1 k (by simp only [List.length_append, List.length_cons, List.length_nil]; omega) (by omega)) (by decide) (by omega) (by omega) rfl (by rfl) ?_ (fun _ _ h => h.elim)
            (rintro _ _ ⟨rfl, S2, t2, rfl, k2, p2⟩) <;> (repeat' (first | refine And.intro ?_ ?_ | (with_reducible intro h9; exact absurd h9 (by simp only [cI, cN]; decide +kernel)) | with_reducible intro _ | exact (rfl : narrow _ _ = _) | decide | (unfold vp_in; decide) | refine Eq.mpr (fL_eq _ _) ?_ | refine Eq.mpr (fW_eq _ _) ?_ | refine Eq.mpr (fN_eq _ _) ?_))
            refine cci 31 (wl_app hg k2 119 (by simp only [List.length_append]; simp only [List.length_append, List.length_cons, List.length_nil]; omega) (by omega)) (by decide) (by omega) (by omega) rfl (by simp only [bK119]) ?_ (fun _ _ h => h.elim)
            (rintro _ _ ⟨rfl, S3, t3, rfl, k3, p3⟩) <;> (repeat' (first | refine And.intro ?_ ?_ | (with_reducible intro h9; exact absurd h9 (by simp only [cI, cN]; decide +kernel)) | with_reducible intro _ | exact (rfl : narrow _ _ = _) | decide | (unfold vp_in; decide) | refine Eq.mpr (fL_eq _ _) ?_ | refine Eq.mpr (fW_eq _ _) ?_ | refine Eq.mpr (fN_eq _ _) ?_))
            refine ccn 31 [6, 7] (s4) (by decide) (Nat.zero_le _) (Nat.zero_le _) rfl (by repeat' (first | exact trivial | refine And.intro ?_ ?_ | rfl)) rfl ?_
            (rintro _ _ ⟨rfl, rfl⟩) <;> (repeat' (first | refine And.intro ?_ ?_ | (with_reducible intro h9; exact absurd h9 (by simp only [cI, cN]; decide +kernel)) | with_reducible intro _ | exact (rfl : narrow _ _ = _) | decide | (unfold vp_in; decide) | refine Eq.mpr (fL_eq _ _) ?_ | refine Eq.mpr (fW_eq _ _) ?_ | refine Eq.mpr (fN_eq _ _) ?_))
            refine cci 31 (wl_appI hg k3 (w k) (by simp only [List.length_append, List.length_cons, List.length_nil]; omega) w2) (by decide) (by omega) (by omega) rfl (by rfl) ?_ (fun _ _ h => h.elim)
            (rintro _ _ ⟨rfl, S4, t4, rfl, k4, p4⟩) <;> (repeat' (first | refine And.intro ?_ ?_ | (with_reducible intro h9; exact absurd h9 (by simp only [cI, cN]; decide +kernel)) | with_reducible intro _ | exact (rfl : narrow _ _ = _) | decide | (unfold vp_in; decide) | refine Eq.mpr (fL_eq _ _) ?_ | refine Eq.mpr (fW_eq _ _) ?_ | refine Eq.mpr (fN_eq _ _) ?_))
            rw [show rlL g0 x w k ++ [32] ++ dig k ++ [119] ++ dig (w k) = rlL g0 x w (k + 1) from by rw [e, if_pos gl]; simp only [List.append_assoc, List.nil_append, List.singleton_append, List.cons_append]] at k4
            exact AW.cg (AW.up (ih (k + 1) (by omega) (by omega) S4 t4 k4 ((ht0.tr p1).tr ((p2.tr p3).tr p4))) (by omega) (by omega)) rfl rfl rfl (by first | rfl | (simp (discharger := omega) only [msk, clr_i, clr_r, cI, cN, ← nI_0, nI_ltI, nI_leI, nI_eq, nI_add, pk_mul, pk_sub, nI_clamp, vinI, not_true_eq_false, not_false_eq_true, iK0, iK1, iK2, iK3, iK4, iK5, iKm1, bK6, bK7, bK8, bK9, bK10, bK12, bK14, bK15, bK16, bK20, bK21, bK26, bK30, bK32, bK33, bK45, bK48, bK57, bK59, bK60, bK62, bK63, bK64, bK80, bK93, bK98, bK99, bK100, bK104, bK107, bK109, bK110, bK112, bK113, bK114, bK115, bK116, bK119, sK255, sK256, sK500, sK700, sK798, sK912, sK1400, sK2000]; done) | (simp (discharger := omega) only [msk, clr_i, clr_r, cI, cN, ← nI_0, nI_ltI, nI_leI, nI_eq, nI_add, pk_mul, pk_sub, nI_clamp, vinI, not_true_eq_false, not_false_eq_true, iK0, iK1, iK2, iK3, iK4, iK5, iKm1, bK6, bK7, bK8, bK9, bK10, bK12, bK14, bK15, bK16, bK20, bK21, bK26, bK30, bK32, bK33, bK45, bK48, bK57, bK59, bK60, bK62, bK63, bK64, bK80, bK93, bK98, bK99, bK100, bK104, bK107, bK109, bK110, bK112, bK113, bK114, bK115, bK116, bK119, sK255, sK256, sK500, sK700, sK798, sK912, sK1400, sK2000]; rfl)) rfl rfl
    · have hg3 : ¬ g0 (30 + 7 * k + 3) = x := fun z => hx ((hcg k hlt).symm.trans z)
      have e : rlL g0 x w (k + 1) = rlL g0 x w k := by
        rw [rlL, if_neg hg3]
      rw [← e] at hS
      refine wp_ok (M := M_X8_writeRack) hg ok_X8_writeRack (lkp [(10, [true, true, true])]) 60 _ _ _ _ _ _ ?_
      repeat' (first | refine And.intro ?_ ?_ | (with_reducible intro h9; exact absurd h9 (by simp only [cI, cN]; decide +kernel)) | with_reducible intro _ | exact (rfl : narrow _ _ = _) | decide | (unfold vp_in; decide) | refine Eq.mpr (fL_eq _ _) ?_ | refine Eq.mpr (fW_eq _ _) ?_ | refine Eq.mpr (fN_eq _ _) ?_)
      refine ccn 31 [6, 7] (tb_size hg 12 8 F.B.1 F.B.2) (by decide) (Nat.zero_le _) (Nat.zero_le _) rfl (by repeat' (first | exact trivial | refine And.intro ?_ ?_ | rfl)) rfl ?_
      (rintro _ _ ⟨rfl, rfl⟩) <;> (repeat' (first | refine And.intro ?_ ?_ | (with_reducible intro h9; exact absurd h9 (by simp only [cI, cN]; decide +kernel)) | with_reducible intro _ | exact (rfl : narrow _ _ = _) | decide | (unfold vp_in; decide) | refine Eq.mpr (fL_eq _ _) ?_ | refine Eq.mpr (fW_eq _ _) ?_ | refine Eq.mpr (fN_eq _ _) ?_))
      · rename_i g
        exfalso
        have := (nI_leI (by omega) (by omega)).mp g
        omega
      · refine ccn 31 [6, 7] (s3) (by decide) (Nat.zero_le _) (Nat.zero_le _) rfl (by repeat' (first | exact trivial | refine And.intro ?_ ?_ | rfl)) rfl ?_
        (rintro _ _ ⟨rfl, rfl⟩) <;> (repeat' (first | refine And.intro ?_ ?_ | (with_reducible intro h9; exact absurd h9 (by simp only [cI, cN]; decide +kernel)) | with_reducible intro _ | exact (rfl : narrow _ _ = _) | decide | (unfold vp_in; decide) | refine Eq.mpr (fL_eq _ _) ?_ | refine Eq.mpr (fW_eq _ _) ?_ | refine Eq.mpr (fN_eq _ _) ?_))
        · exact AW.cg (AW.up (ih (k + 1) (by omega) (by omega) S t hS ht0) (by omega) (by omega)) rfl rfl rfl (by first | rfl | (simp (discharger := omega) only [msk, clr_i, clr_r, cI, cN, ← nI_0, nI_ltI, nI_leI, nI_eq, nI_add, pk_mul, pk_sub, nI_clamp, vinI, not_true_eq_false, not_false_eq_true, iK0, iK1, iK2, iK3, iK4, iK5, iKm1, bK6, bK7, bK8, bK9, bK10, bK12, bK14, bK15, bK16, bK20, bK21, bK26, bK30, bK32, bK33, bK45, bK48, bK57, bK59, bK60, bK62, bK63, bK64, bK80, bK93, bK98, bK99, bK100, bK104, bK107, bK109, bK110, bK112, bK113, bK114, bK115, bK116, bK119, sK255, sK256, sK500, sK700, sK798, sK912, sK1400, sK2000]; done) | (simp (discharger := omega) only [msk, clr_i, clr_r, cI, cN, ← nI_0, nI_ltI, nI_leI, nI_eq, nI_add, pk_mul, pk_sub, nI_clamp, vinI, not_true_eq_false, not_false_eq_true, iK0, iK1, iK2, iK3, iK4, iK5, iKm1, bK6, bK7, bK8, bK9, bK10, bK12, bK14, bK15, bK16, bK20, bK21, bK26, bK30, bK32, bK33, bK45, bK48, bK57, bK59, bK60, bK62, bK63, bK64, bK80, bK93, bK98, bK99, bK100, bK104, bK107, bK109, bK110, bK112, bK113, bK114, bK115, bK116, bK119, sK255, sK256, sK500, sK700, sK798, sK912, sK1400, sK2000]; rfl)) rfl rfl
        · rename_i g
          simp only [cN, Classical.not_not] at g
          exact absurd g hx
set_option maxRecDepth 20000 in
theorem x_rack (hg : gOK G) (hF : fB F) {n : Nat} {f : Nat → Int32} (hS : sbS S t n f) (g0 : Nat → Int32) (x : Int32) (w : Nat → Nat) (hcg : ∀ u, u < F.B.1 → g0 (30 + 7 * u + 3) = F.b u 3) (hw : ∀ u, u < F.B.1 → F.b u 4 = nI (w u) ∧ w u < 128) (hon : gon g0 x F.B.1 ≤ 3) : Spec G 9 48 1632 m_X8_writeRack [.ref 0, .int x] (ww F E H r X ht P S sd er t) (fun v w' => v = none ∧ ∃ S' t', w' = ww F E H r X ht P S' sd er t' ∧ sbL S' t' (rlL g0 x w F.B.1) ∧ tpr t t') NX := by
  refine wp_spec (M := M_X8_writeRack) hg ok_X8_writeRack (lkp [(10, [true, true, true])]) 60 rfl rfl ?_
  repeat' (first | refine And.intro ?_ ?_ | (with_reducible intro h9; exact absurd h9 (by simp only [cI, cN]; decide +kernel)) | with_reducible intro _ | exact (rfl : narrow _ _ = _) | decide | (unfold vp_in; decide) | refine Eq.mpr (fL_eq _ _) ?_ | refine Eq.mpr (fW_eq _ _) ?_ | refine Eq.mpr (fN_eq _ _) ?_)
  refine cci 31 (wl_set hg hS) (by decide) (by decide) (by decide) (by first | rfl | (simp only [renVs]; rfl)) (by first | rfl | (simp (discharger := omega) only [renVs, renV, rnI, cI, cN, ← nI_0, nI_ltI, nI_leI, nI_eq, nI_add, pk_mul, pk_sub, nI_clamp, vinI, not_true_eq_false, not_false_eq_true, iK0, iK1, iK2, iK3, iK4, iK5, iKm1, bK6, bK7, bK8, bK9, bK10, bK12, bK14, bK15, bK16, bK20, bK21, bK26, bK30, bK32, bK33, bK45, bK48, bK57, bK59, bK60, bK62, bK63, bK64, bK80, bK93, bK98, bK99, bK100, bK104, bK107, bK109, bK110, bK112, bK113, bK114, bK115, bK116, bK119, sK255, sK256, sK500, sK700, sK798, sK912, sK1400, sK2000])) ?_ (fun _ _ h => h.elim)
  (rintro _ _ ⟨rfl, S1, rfl, k1⟩) <;> (repeat' (first | refine And.intro ?_ ?_ | (with_reducible intro h9; exact absurd h9 (by simp only [cI, cN]; decide +kernel)) | with_reducible intro _ | exact (rfl : narrow _ _ = _) | decide | (unfold vp_in; decide) | refine Eq.mpr (fL_eq _ _) ?_ | refine Eq.mpr (fW_eq _ _) ?_ | refine Eq.mpr (fN_eq _ _) ?_))
  exact AW.cg (x_rack_l (F := F) (E := E) (H := H) (r := r) (X := X) (ht := ht) (P := P) (sd := sd) (er := er) hg hF g0 x w hcg hw hon t (fun S' t' q1 q2 => ⟨rfl, S', t', rfl, q1, q2⟩) _ 0 (by omega) rfl S1 t k1 tpr.rf) rfl rfl rfl (by first | rfl | (simp (discharger := omega) only [msk, clr_i, clr_r, cI, cN, ← nI_0, nI_ltI, nI_leI, nI_eq, nI_add, pk_mul, pk_sub, nI_clamp, vinI, not_true_eq_false, not_false_eq_true, iK0, iK1, iK2, iK3, iK4, iK5, iKm1, bK6, bK7, bK8, bK9, bK10, bK12, bK14, bK15, bK16, bK20, bK21, bK26, bK30, bK32, bK33, bK45, bK48, bK57, bK59, bK60, bK62, bK63, bK64, bK80, bK93, bK98, bK99, bK100, bK104, bK107, bK109, bK110, bK112, bK113, bK114, bK115, bK116, bK119, sK255, sK256, sK500, sK700, sK798, sK912, sK1400, sK2000]; done) | (simp (discharger := omega) only [msk, clr_i, clr_r, cI, cN, ← nI_0, nI_ltI, nI_leI, nI_eq, nI_add, pk_mul, pk_sub, nI_clamp, vinI, not_true_eq_false, not_false_eq_true, iK0, iK1, iK2, iK3, iK4, iK5, iKm1, bK6, bK7, bK8, bK9, bK10, bK12, bK14, bK15, bK16, bK20, bK21, bK26, bK30, bK32, bK33, bK45, bK48, bK57, bK59, bK60, bK62, bK63, bK64, bK80, bK93, bK98, bK99, bK100, bK104, bK107, bK109, bK110, bK112, bK113, bK114, bK115, bK116, bK119, sK255, sK256, sK500, sK700, sK798, sK912, sK1400, sK2000]; rfl)) rfl rfl
def okRl (N : nT) (nr nb : Nat) (w : Nat → Nat) (x : Int32) (o : oA3) : Prop := (¬ hasP x nr ∧ o = (1, 0, N.s_co (nI 1))) ∨
  (hasP x nr ∧ o = (0, nI (0 + (rlL N.g x w nb).length), ((N.s_co (nI 0)).s_sn (wrl N.sn 0 (rlL N.g x w nb))).s_sm (nI (0 + (rlL N.g x w nb).length))))
abbrev wF (F : fT) (u : Nat) : Nat := (F.b u 4).toNatClampNeg
theorem wF_ok (iF : fI F) (u : Nat) (hu : u < F.B.1) : F.b u 4 = nI (wF F u) ∧ wF F u ≤ 120 := by
  obtain ⟨w, k, s, l, hb⟩ := bN_ex iF hu
  have e : F.b u 4 = nI w := hb.2.2.2.2.1
  have h1 := hb.1
  have e2 : wF F u = w := by
    show (F.b u 4).toNatClampNeg = w
    rw [e, nI_clamp (by omega)]
  rw [e2]
  exact ⟨e, h1⟩
set_option maxRecDepth 20000 in
theorem r_rl (hg : gOK G) (I : cV F E H r X S sd er t N) (x : Int32) : Spec G 3 0 0 m_X9_rackLine [.ref 0, .int x] (mw N) (ansRR (okRl N F.R.1 F.B.1 (wF F) x)) NX := by
  refine Spec.mono (mo_rl hg N F.R.1 F.B.1 I.nr.1 I.nr.2 I.nb (wF F) (fun i hi => by
    obtain ⟨e1, e2⟩ := wF_ok I.1.2.1 i hi
    exact ⟨(b_of I.1.1 hi (by omega)).trans e1, by omega⟩) (fun r hr => by rw [gon_B I.1.1.2.2.2]; exact I.1.2.1.2.2.2.2.2.2 r hr) x) ?_ (fun _ _ h => h)
  rintro v w' (⟨h, rfl, b, rfl⟩ | ⟨r, hr, rfl, rfl, rfl⟩)
  · exact ⟨_, Or.inl ⟨h, rfl⟩, ansR_n rfl rfl⟩
  · exact ⟨_, Or.inr ⟨⟨r, hr, rfl⟩, rfl⟩, ansR_y rfl rfl⟩
theorem rlL_lt {g0 : Nat → Int32} {x : Int32} {w : Nat → Nat} : ∀ {k : Nat}, k ≤ 128 → (∀ u, u < k → w u < 128) → ∀ c ∈ rlL g0 x w k, c < 128
  | 0, _, _, c, hc => by cases hc
  | k + 1, hk, hw, c, hc => by
    have ih := rlL_lt (g0 := g0) (x := x) (w := w) (k := k) (by omega) fun u hu => hw u (by omega)
    rw [rlL] at hc
    split at hc
    · simp only [List.mem_append, List.mem_cons] at hc
      rcases hc with hc | hc | hc | hc | hc
      · exact ih c hc
      · split at hc
        · rw [List.mem_singleton.mp hc]; omega
        · cases hc
      · exact dig_lt k (by omega) c hc
      · omega
      · exact dig_lt (w k) (hw k (by omega)) c hc
    · exact ih c hc
set_option maxRecDepth 20000 in
theorem c_rl (hg : gOK G) (I : cV F E H r X S sd er t N) (x : Int32) : Spec G 10 50 1700 m_X8_rackLine [.ref 0, .int x] (ww F E H r X ht P S sd er t) (ansCR t (okRl N F.R.1 F.B.1 (wF F) x)) (excCR t [(2, 1)] (okRl N F.R.1 F.B.1 (wF F) x)) := by
  have h4 := I.nr.2
  have h12 := I.nb.2
  have I2 := I
  obtain ⟨⟨a1, a2, a3⟩, ⟨b1, b2⟩, c, d, e, ⟨n, f, hS, f2, f3, f4⟩, ⟨y, y1, y2⟩⟩ := I
  refine wp_spec (M := M_X8_rackLine) hg ok_X8_rackLine cut0 60 rfl rfl ?_
  repeat' (first | refine And.intro ?_ ?_ | (with_reducible intro h9; exact absurd h9 (by simp only [cI, cN]; decide +kernel)) | with_reducible intro _ | exact (rfl : narrow _ _ = _) | decide | (unfold vp_in; decide) | refine Eq.mpr (fL_eq _ _) ?_ | refine Eq.mpr (fW_eq _ _) ?_ | refine Eq.mpr (fN_eq _ _) ?_)
  refine ccn 31 [4, 5] (tb_has hg 4 1 F.R.1 F.R.2 x (by omega)) (by decide) (by decide) (by decide) rfl (by repeat' (first | exact trivial | refine And.intro ?_ ?_ | rfl)) (by first | rfl | (simp (discharger := omega) only [renVs, renV, rnI, cI, cN, ← nI_0, nI_ltI, nI_leI, nI_eq, nI_add, pk_mul, pk_sub, nI_clamp, vinI, not_true_eq_false, not_false_eq_true, iK0, iK1, iK2, iK3, iK4, iK5, iKm1, bK6, bK7, bK8, bK9, bK10, bK12, bK14, bK15, bK16, bK20, bK21, bK26, bK30, bK32, bK33, bK45, bK48, bK57, bK59, bK60, bK62, bK63, bK64, bK80, bK93, bK98, bK99, bK100, bK104, bK107, bK109, bK110, bK112, bK113, bK114, bK115, bK116, bK119, sK255, sK256, sK500, sK700, sK798, sK912, sK1400, sK2000])) ?_
  (rintro _ _ ⟨⟨rfl, q⟩ | ⟨rfl, q⟩, rfl⟩) <;> (repeat' (first | refine And.intro ?_ ?_ | (with_reducible intro h9; exact absurd h9 (by simp only [cI, cN]; decide +kernel)) | with_reducible intro _ | exact (rfl : narrow _ _ = _) | decide | (unfold vp_in; decide) | refine Eq.mpr (fL_eq _ _) ?_ | refine Eq.mpr (fW_eq _ _) ?_ | refine Eq.mpr (fN_eq _ _) ?_))
  · have hon : gon N.g x F.B.1 ≤ 3 := by
      obtain ⟨i, hi, rfl⟩ := q
      rw [gon_B a1.2.2.2]
      exact a2.2.2.2.2.2.2 i hi
    have hw : ∀ u, u < F.B.1 → F.b u 4 = nI (wF F u) ∧ wF F u < 128 := fun u hu => ⟨(wF_ok a2 u hu).1, by have := (wF_ok a2 u hu).2; omega⟩
    have hlen := rlL_len (g := N.g) (x := x) (w := wF F) F.B.1
    refine cci 31 (x_rack hg a2.B hS N.g x (wF F) (fun u hu => b_of a1 hu (by omega)) hw hon) (by decide) (by decide) (by decide) (by first | rfl | (simp only [renVs]; rfl)) (by first | rfl | (simp (discharger := omega) only [renVs, renV, rnI, cI, cN, ← nI_0, nI_ltI, nI_leI, nI_eq, nI_add, pk_mul, pk_sub, nI_clamp, vinI, not_true_eq_false, not_false_eq_true, iK0, iK1, iK2, iK3, iK4, iK5, iKm1, bK6, bK7, bK8, bK9, bK10, bK12, bK14, bK15, bK16, bK20, bK21, bK26, bK30, bK32, bK33, bK45, bK48, bK57, bK59, bK60, bK62, bK63, bK64, bK80, bK93, bK98, bK99, bK100, bK104, bK107, bK109, bK110, bK112, bK113, bK114, bK115, bK116, bK119, sK255, sK256, sK500, sK700, sK798, sK912, sK1400, sK2000])) ?_ (fun _ _ h => h.elim)
    (rintro _ _ ⟨rfl, S', t', rfl, k1, k2⟩) <;> (repeat' (first | refine And.intro ?_ ?_ | (with_reducible intro h9; exact absurd h9 (by simp only [cI, cN]; decide +kernel)) | with_reducible intro _ | exact (rfl : narrow _ _ = _) | decide | (unfold vp_in; decide) | refine Eq.mpr (fL_eq _ _) ?_ | refine Eq.mpr (fW_eq _ _) ?_ | refine Eq.mpr (fN_eq _ _) ?_))
    have hl := lnI_of (N := N.s_co (nI 0)) k1 (by omega) (rlL_lt (by omega) fun u hu => (hw u hu).2)
    obtain ⟨f', k3, k4⟩ := k1
    refine cci 31 (wb_len hg S' _ f' k3) (by decide) (by decide) (by decide) (by first | rfl | (simp only [renVs]; rfl)) (by first | rfl | (simp (discharger := omega) only [renVs, renV, rnI, cI, cN, ← nI_0, nI_ltI, nI_leI, nI_eq, nI_add, pk_mul, pk_sub, nI_clamp, vinI, not_true_eq_false, not_false_eq_true, iK0, iK1, iK2, iK3, iK4, iK5, iKm1, bK6, bK7, bK8, bK9, bK10, bK12, bK14, bK15, bK16, bK20, bK21, bK26, bK30, bK32, bK33, bK45, bK48, bK57, bK59, bK60, bK62, bK63, bK64, bK80, bK93, bK98, bK99, bK100, bK104, bK107, bK109, bK110, bK112, bK113, bK114, bK115, bK116, bK119, sK255, sK256, sK500, sK700, sK798, sK912, sK1400, sK2000])) ?_ (fun _ _ h => h.elim)
    (rintro _ _ ⟨rfl, rfl⟩) <;> (repeat' (first | refine And.intro ?_ ?_ | (with_reducible intro h9; exact absurd h9 (by simp only [cI, cN]; decide +kernel)) | with_reducible intro _ | exact (rfl : narrow _ _ = _) | decide | (unfold vp_in; decide) | refine Eq.mpr (fL_eq _ _) ?_ | refine Eq.mpr (fW_eq _ _) ?_ | refine Eq.mpr (fN_eq _ _) ?_))
    show ansCR t (okRl N F.R.1 F.B.1 (wF F) x) _ _
    refine ⟨_, Or.inr ⟨q, rfl⟩, ansC_y rfl (by rw [Nat.zero_add]) ?_⟩
    exact ⟨_, _, _, _, _, _, _, _, _, _, _, rfl, ⟨⟨a1, a2, a3⟩, ⟨hC_tp b1 k2, b2⟩, c, d, e, hl, y, k2 _ _ y1 y2, y2⟩, keep11.tp k2⟩
  · show excCR t [(2, 1)] (okRl N F.R.1 F.B.1 (wF F) x) 2 _
    exact ⟨_, Or.inl ⟨q, rfl⟩, excC_n rfl rfl (cEnd_co I2 _)⟩
set_option maxRecDepth 20000 in
theorem r_char (hg : gOK G) (I : cV F E H r X S sd er t N) {n : Nat} (hn : N.sm = nI n) (hn8 : n ≤ 80) (hc : ∀ q, q < n → ∃ z, z < 65536 ∧ N.sn q = nI z) (x : Int32) : Spec G 2 0 0 m_X9_character [.ref 0, .int x] (mw N) (ansR (oOne N n N.sn x)) NX := by
  refine Spec.mono (mo_char hg N n hn hn8 hc x) ?_ (fun _ _ h => h)
  rintro v w' (⟨h, rfl, b, rfl⟩ | ⟨i, hi, rfl, rfl, rfl⟩)
  · exact ansR_n (oOne_1 h) rfl
  · exact ansR_y (oOne_0 hi (by omega)) rfl
set_option maxRecDepth 20000 in
theorem c_char (hg : gOK G) (I : cV F E H r X S sd er t N) (x : Int32) : ∃ n, N.sm = nI n ∧ n ≤ 80 ∧ (∀ q, q < n → ∃ z, z < 65536 ∧ N.sn q = nI z) ∧ Spec G 7 8 150 m_X8_character [.ref 0, .int x] (ww F E H r X ht P S sd er t) (ansC t (oOne N n N.sn x)) (excC t [(2, 1)] (oOne N n N.sn x)) := by
  have I2 := I
  obtain ⟨⟨a1, a2, a3⟩, ⟨b1, b2⟩, c, d, e, ⟨n, f, hS, f2, f3, f4⟩, y⟩ := I
  refine ⟨n, f2, by omega, fun q hq => ?_, ?_⟩
  · obtain ⟨z, z1, z2, z3⟩ := f4 q hq
    exact ⟨z, by omega, z3⟩
  by_cases q : hasP x n
  · obtain ⟨i, hi, rfl⟩ := q
    obtain ⟨z, z1, z2, z3⟩ := f4 i hi
    refine wp_spec (M := M_X8_character) hg ok_X8_character cut0 60 rfl rfl ?_
    repeat' (first | refine And.intro ?_ ?_ | (with_reducible intro h9; exact absurd h9 (by simp only [cI, cN]; decide +kernel)) | with_reducible intro _ | exact (rfl : narrow _ _ = _) | decide | (unfold vp_in; decide) | refine Eq.mpr (fL_eq _ _) ?_ | refine Eq.mpr (fW_eq _ _) ?_ | refine Eq.mpr (fN_eq _ _) ?_)
    · rename_i g
      exact absurd g (nI_pos (by omega))
    · refine cci 31 (wb_len hg S n f hS) (by decide) (by decide) (by decide) (by first | rfl | (simp only [renVs]; rfl)) (by first | rfl | (simp (discharger := omega) only [renVs, renV, rnI, cI, cN, ← nI_0, nI_ltI, nI_leI, nI_eq, nI_add, pk_mul, pk_sub, nI_clamp, vinI, not_true_eq_false, not_false_eq_true, iK0, iK1, iK2, iK3, iK4, iK5, iKm1, bK6, bK7, bK8, bK9, bK10, bK12, bK14, bK15, bK16, bK20, bK21, bK26, bK30, bK32, bK33, bK45, bK48, bK57, bK59, bK60, bK62, bK63, bK64, bK80, bK93, bK98, bK99, bK100, bK104, bK107, bK109, bK110, bK112, bK113, bK114, bK115, bK116, bK119, sK255, sK256, sK500, sK700, sK798, sK912, sK1400, sK2000])) ?_ (fun _ _ h => h.elim)
      (rintro _ _ ⟨rfl, rfl⟩) <;> (repeat' (first | refine And.intro ?_ ?_ | (with_reducible intro h9; exact absurd h9 (by simp only [cI, cN]; decide +kernel)) | with_reducible intro _ | exact (rfl : narrow _ _ = _) | decide | (unfold vp_in; decide) | refine Eq.mpr (fL_eq _ _) ?_ | refine Eq.mpr (fW_eq _ _) ?_ | refine Eq.mpr (fN_eq _ _) ?_))
      · refine cci 31 (wb_at hg S n i z f hS hi z1 z2) (by decide) (by decide) (by decide) (by first | rfl | (simp only [renVs]; rfl)) (by first | rfl | (simp (discharger := omega) only [renVs, renV, rnI, cI, cN, ← nI_0, nI_ltI, nI_leI, nI_eq, nI_add, pk_mul, pk_sub, nI_clamp, vinI, not_true_eq_false, not_false_eq_true, iK0, iK1, iK2, iK3, iK4, iK5, iKm1, bK6, bK7, bK8, bK9, bK10, bK12, bK14, bK15, bK16, bK20, bK21, bK26, bK30, bK32, bK33, bK45, bK48, bK57, bK59, bK60, bK62, bK63, bK64, bK80, bK93, bK98, bK99, bK100, bK104, bK107, bK109, bK110, bK112, bK113, bK114, bK115, bK116, bK119, sK255, sK256, sK500, sK700, sK798, sK912, sK1400, sK2000])) ?_ (fun _ _ h => h.elim)
        (rintro _ _ ⟨rfl, rfl⟩) <;> (repeat' (first | refine And.intro ?_ ?_ | (with_reducible intro h9; exact absurd h9 (by simp only [cI, cN]; decide +kernel)) | with_reducible intro _ | exact (rfl : narrow _ _ = _) | decide | (unfold vp_in; decide) | refine Eq.mpr (fL_eq _ _) ?_ | refine Eq.mpr (fW_eq _ _) ?_ | refine Eq.mpr (fN_eq _ _) ?_))
        · exact (pk_charN (by omega)).1
        · show ansC t (oOne N n N.sn (nI i)) _ _
          exact ansC_y (oOne_0 hi (by omega)) z3.symm (cEnd_co I2 _)
      · rename_i g
        exact absurd ((nI_ltI (by omega) (by omega)).mpr hi) g
  · refine wp_spec (M := M_X8_character) hg ok_X8_character cut0 60 rfl rfl ?_
    repeat' (first | refine And.intro ?_ ?_ | (with_reducible intro h9; exact absurd h9 (by simp only [cI, cN]; decide +kernel)) | with_reducible intro _ | exact (rfl : narrow _ _ = _) | decide | (unfold vp_in; decide) | refine Eq.mpr (fL_eq _ _) ?_ | refine Eq.mpr (fW_eq _ _) ?_ | refine Eq.mpr (fN_eq _ _) ?_)
    · show excC t [(2, 1)] (oOne N n N.sn x) 2 _
      exact excC_n (oOne_1 q) rfl (cEnd_co I2 _)
    · rename_i g0
      refine cci 31 (wb_len hg S n f hS) (by decide) (by decide) (by decide) (by first | rfl | (simp only [renVs]; rfl)) (by first | rfl | (simp (discharger := omega) only [renVs, renV, rnI, cI, cN, ← nI_0, nI_ltI, nI_leI, nI_eq, nI_add, pk_mul, pk_sub, nI_clamp, vinI, not_true_eq_false, not_false_eq_true, iK0, iK1, iK2, iK3, iK4, iK5, iKm1, bK6, bK7, bK8, bK9, bK10, bK12, bK14, bK15, bK16, bK20, bK21, bK26, bK30, bK32, bK33, bK45, bK48, bK57, bK59, bK60, bK62, bK63, bK64, bK80, bK93, bK98, bK99, bK100, bK104, bK107, bK109, bK110, bK112, bK113, bK114, bK115, bK116, bK119, sK255, sK256, sK500, sK700, sK798, sK912, sK1400, sK2000])) ?_ (fun _ _ h => h.elim)
      (rintro _ _ ⟨rfl, rfl⟩) <;> (repeat' (first | refine And.intro ?_ ?_ | (with_reducible intro h9; exact absurd h9 (by simp only [cI, cN]; decide +kernel)) | with_reducible intro _ | exact (rfl : narrow _ _ = _) | decide | (unfold vp_in; decide) | refine Eq.mpr (fL_eq _ _) ?_ | refine Eq.mpr (fW_eq _ _) ?_ | refine Eq.mpr (fN_eq _ _) ?_))
      · rename_i g
        exact absurd (hasP_of g0 g (by omega)) q
      · show excC t [(2, 1)] (oOne N n N.sn x) 2 _
        exact excC_n (oOne_1 q) rfl (cEnd_co I2 _)
end LL
