/-! ===== lines: the class's ===== -/
section ML
variable {G : gT}
set_option maxRecDepth 20000 in
theorem mo_line2 (hg : gOK G) (N : nT) (nb : Nat) (hb : N.nb nb) (hr : gK N.g nb) (hz : ∀ i, i < nb → ∃ z, z < 1000 ∧ gnote N.g i = nI z) (hcr : ∀ i, i < nb → ∃ c, c ≤ 9 ∧ N.b i 5 = nI c) (x : Int32) : Spec G 3 0 0 m_X9_line [.ref 0, .int x] (mw N) (fun v w' =>
    (¬ hasP x nb ∧ nRef N 1 v w') ∨
    (∃ i z cr r, i < nb ∧ x = nI i ∧ gnote N.g i = nI z ∧ z < 1000 ∧ cr ≤ 9 ∧ N.b i 5 = nI cr ∧ ((r = none ∧ N.b i 3 = -1) ∨ ∃ r', r = some r' ∧ N.b i 3 = nI r' ∧ r' < 4) ∧ v = some (.int (nI (lnL N.g i z cr r).length)) ∧ w' = mwl (N.s_co (nI 0)) 0 N.sn (lnL N.g i z cr r))) NX := by
  have hb2 := hb.2
  refine wp_spec (M := M_X9_line) hg ok_X9_line (lkp [(83, [true, true, true])]) 60 rfl rfl ?_
  repeat' (first | refine And.intro ?_ ?_ | (with_reducible intro h9; exact absurd h9 (by simp only [cI, cN]; decide +kernel)) | with_reducible intro _ | exact (rfl : narrow _ _ = _) | decide | (unfold vp_in; decide))
  refine cc0 [0, 1, 2, 3, 4, 5, 6, 7, 8] (md_isBell hg N nb hb.1 (by omega) x) (by decide) (by decide) (by decide) rfl (by repeat' (first | exact trivial | refine And.intro ?_ ?_ | rfl)) (by first | rfl | (simp (discharger := omega) only [renVs, renV, rnI, cI, cN, ← nI_0, nI_ltI, nI_leI, nI_eq, nI_add, pk_mul, pk_sub, nI_clamp, vinI, not_true_eq_false, not_false_eq_true, iK0, iK1, iK2, iK3, iK4, iK5, iKm1, bK6, bK7, bK8, bK9, bK10, bK12, bK14, bK15, bK16, bK20, bK21, bK26, bK30, bK32, bK33, bK45, bK48, bK57, bK59, bK60, bK62, bK63, bK64, bK80, bK93, bK98, bK99, bK100, bK104, bK107, bK109, bK110, bK112, bK113, bK114, bK115, bK116, bK119, sK255, sK256, sK500, sK700, sK798, sK912, sK1400, sK2000])) ?_
  (rintro _ _ ⟨⟨rfl, q⟩ | ⟨rfl, q⟩, rfl⟩) <;> (repeat' (first | refine And.intro ?_ ?_ | (with_reducible intro h9; exact absurd h9 (by simp only [cI, cN]; decide +kernel)) | with_reducible intro _ | exact (rfl : narrow _ _ = _) | decide | (unfold vp_in; decide)))
  · obtain ⟨i, hi, rfl⟩ := q
    obtain ⟨z, hz1, hz2⟩ := hz i hi
    obtain ⟨cr, hc1, hc2⟩ := hcr i hi
    have l1 := dig_len i
    have l3 := dig_len z
    refine cc0 [0, 1, 2, 3, 4, 5, 6, 7, 8] (md_f0 hg N) (by decide) (by decide) (by decide) rfl (by repeat' (first | exact trivial | refine And.intro ?_ ?_ | rfl)) (by first | rfl | (simp (discharger := omega) only [renVs, renV, rnI, cI, cN, ← nI_0, nI_ltI, nI_leI, nI_eq, nI_add, pk_mul, pk_sub, nI_clamp, vinI, not_true_eq_false, not_false_eq_true, iK0, iK1, iK2, iK3, iK4, iK5, iKm1, bK6, bK7, bK8, bK9, bK10, bK12, bK14, bK15, bK16, bK20, bK21, bK26, bK30, bK32, bK33, bK45, bK48, bK57, bK59, bK60, bK62, bK63, bK64, bK80, bK93, bK98, bK99, bK100, bK104, bK107, bK109, bK110, bK112, bK113, bK114, bK115, bK116, bK119, sK255, sK256, sK500, sK700, sK798, sK912, sK1400, sK2000])) ?_
    (rintro _ _ ⟨rfl, rfl⟩) <;> (repeat' (first | refine And.intro ?_ ?_ | (with_reducible intro h9; exact absurd h9 (by simp only [cI, cN]; decide +kernel)) | with_reducible intro _ | exact (rfl : narrow _ _ = _) | decide | (unfold vp_in; decide)))
    refine cc0 [0, 1, 2, 3, 4, 5, 6, 7, 8] (md_wrN hg ((N.s_co (nI 0)).s_sm (nI 0)) 0 i rfl (by omega) (by omega)) (by decide) (by decide) (by decide) rfl (by repeat' (first | exact trivial | refine And.intro ?_ ?_ | rfl)) (by first | rfl | (simp (discharger := omega) only [renVs, renV, rnI, cI, cN, ← nI_0, nI_ltI, nI_leI, nI_eq, nI_add, pk_mul, pk_sub, nI_clamp, vinI, not_true_eq_false, not_false_eq_true, iK0, iK1, iK2, iK3, iK4, iK5, iKm1, bK6, bK7, bK8, bK9, bK10, bK12, bK14, bK15, bK16, bK20, bK21, bK26, bK30, bK32, bK33, bK45, bK48, bK57, bK59, bK60, bK62, bK63, bK64, bK80, bK93, bK98, bK99, bK100, bK104, bK107, bK109, bK110, bK112, bK113, bK114, bK115, bK116, bK119, sK255, sK256, sK500, sK700, sK798, sK912, sK1400, sK2000])) ?_
    (rintro _ _ ⟨rfl, rfl⟩) <;> (repeat' (first | refine And.intro ?_ ?_ | (with_reducible intro h9; exact absurd h9 (by simp only [cI, cN]; decide +kernel)) | with_reducible intro _ | exact (rfl : narrow _ _ = _) | decide | (unfold vp_in; decide)))
    refine cc0 [0, 1, 2, 3, 4, 5, 6, 7, 8] (md_writes hg _ (0 + (dig i).length) 64 rfl (by omega) (by omega)) (by decide) (by decide) (by decide) rfl (by repeat' (first | exact trivial | refine And.intro ?_ ?_ | rfl)) (by first | rfl | (simp (discharger := omega) only [renVs, renV, rnI, cI, cN, ← nI_0, nI_ltI, nI_leI, nI_eq, nI_add, pk_mul, pk_sub, nI_clamp, vinI, not_true_eq_false, not_false_eq_true, iK0, iK1, iK2, iK3, iK4, iK5, iKm1, bK6, bK7, bK8, bK9, bK10, bK12, bK14, bK15, bK16, bK20, bK21, bK26, bK30, bK32, bK33, bK45, bK48, bK57, bK59, bK60, bK62, bK63, bK64, bK80, bK93, bK98, bK99, bK100, bK104, bK107, bK109, bK110, bK112, bK113, bK114, bK115, bK116, bK119, sK255, sK256, sK500, sK700, sK798, sK912, sK1400, sK2000])) ?_
    (rintro _ _ ⟨rfl, rfl⟩) <;> (repeat' (first | refine And.intro ?_ ?_ | (with_reducible intro h9; exact absurd h9 (by simp only [cI, cN]; decide +kernel)) | with_reducible intro _ | exact (rfl : narrow _ _ = _) | decide | (unfold vp_in; decide)))
    have fin : ∀ (pre : List Nat) (r : Option Nat) (F : Nat → Int32) (L : Nat), lnL N.g i z cr r = pre ++ List.replicate cr 33 → wrl N.sn 0 pre = F → pre.length = L → L ≤ 15 → ((r = none ∧ N.b i 3 = -1) ∨ ∃ r', r = some r' ∧ N.b i 3 = nI r' ∧ r' < 4) →
        AW G M_X9_line 3 0 0 83 [some (.ref 0), some (.int (nI i)), some (.int (nI 0))] [] (mw (((N.s_co (nI 0)).s_sn F).s_sm (nI L))) (fun v w' =>
    (¬ hasP (nI i) nb ∧ nRef N 1 v w') ∨
    (∃ i1 z cr r, i1 < nb ∧ nI i = nI i1 ∧ gnote N.g i1 = nI z ∧ z < 1000 ∧ cr ≤ 9 ∧ N.b i1 5 = nI cr ∧ ((r = none ∧ N.b i1 3 = -1) ∨ ∃ r', r = some r' ∧ N.b i1 3 = nI r' ∧ r' < 4) ∧ v = some (.int (nI (lnL N.g i1 z cr r).length)) ∧ w' = mwl (N.s_co (nI 0)) 0 N.sn (lnL N.g i1 z cr r))) NX := by
      intro pre r F L e1 e2 e3 e4 e5
      subst e2 e3
      refine AW.cg (mo_line_l hg (N.s_co (nI 0)) i cr (by omega) hc2 hc1 (wrl N.sn 0 pre) pre.length (by omega) (Or.inr ⟨i, z, cr, r, hi, rfl, hz2, hz1, hc1, hc2, e5, ?_, ?_⟩) _ 0 (by omega) rfl) rfl rfl rfl rfl rfl rfl
      · rw [e1, List.length_append, List.length_replicate]
      · rw [e1]
        show mw _ = mw _
        rw [wrl_app, List.length_append, List.length_replicate]
        simp only [Nat.zero_add]
    rcases hr i hi with h3 | ⟨r, hr4, h3⟩
    · have h3' : N.g (30 + 7 * i + 3) = -1 := h3
      have sp := fun (f : Nat → Int32) (x : Int32) => md_of hg (((N.s_co (nI 0)).s_sn f).s_sm x) i 3 (by omega) (by omega)
      have sp' : ∀ (f : Nat → Int32) (x : Int32), Spec G 1 0 0 m_X9_of [.ref 0, .int (nI i), .int (nI 3)] (mw (((N.s_co (nI 0)).s_sn f).s_sm x)) (fun v w' => v = some (.int (-1)) ∧ w' = mw (((N.s_co (nI 0)).s_sn f).s_sm x)) NX := fun f x => by
        have := sp f x
        rw [show (((N.s_co (nI 0)).s_sn f).s_sm x).b i 3 = -1 from h3'] at this
        exact this
      have sn' : ∀ (f : Nat → Int32) (x : Int32), Spec G 2 0 0 m_X9_noteOf [.ref 0, .int (nI i)] (mw (((N.s_co (nI 0)).s_sn f).s_sm x)) (fun v w' => v = some (.int (nI z)) ∧ w' = mw (((N.s_co (nI 0)).s_sn f).s_sm x)) NX := fun f x => by
        have := md_note hg (((N.s_co (nI 0)).s_sn f).s_sm x) i (by omega)
        rw [show gnote (((N.s_co (nI 0)).s_sn f).s_sm x).g i = nI z from hz2] at this
        exact this
      refine cc0 [0, 1, 2, 3, 4, 5, 6, 7, 8] (sp' _ _) (by decide) (by decide) (by decide) rfl (by repeat' (first | exact trivial | refine And.intro ?_ ?_ | rfl)) (by first | rfl | (simp (discharger := omega) only [renVs, renV, rnI, cI, cN, ← nI_0, nI_ltI, nI_leI, nI_eq, nI_add, pk_mul, pk_sub, nI_clamp, vinI, not_true_eq_false, not_false_eq_true, iK0, iK1, iK2, iK3, iK4, iK5, iKm1, bK6, bK7, bK8, bK9, bK10, bK12, bK14, bK15, bK16, bK20, bK21, bK26, bK30, bK32, bK33, bK45, bK48, bK57, bK59, bK60, bK62, bK63, bK64, bK80, bK93, bK98, bK99, bK100, bK104, bK107, bK109, bK110, bK112, bK113, bK114, bK115, bK116, bK119, sK255, sK256, sK500, sK700, sK798, sK912, sK1400, sK2000])) ?_
      (rintro _ _ ⟨rfl, rfl⟩) <;> (repeat' (first | refine And.intro ?_ ?_ | (with_reducible intro h9; exact absurd h9 (by simp only [cI, cN]; decide +kernel)) | with_reducible intro _ | exact (rfl : narrow _ _ = _) | decide | (unfold vp_in; decide)))
      refine cc0 [0, 1, 2, 3, 4, 5, 6, 7, 8] (md_writes hg _ (0 + (dig i).length + 1) 104 rfl (by omega) (by omega)) (by decide) (by decide) (by decide) rfl (by repeat' (first | exact trivial | refine And.intro ?_ ?_ | rfl)) (by first | rfl | (simp (discharger := omega) only [renVs, renV, rnI, cI, cN, ← nI_0, nI_ltI, nI_leI, nI_eq, nI_add, pk_mul, pk_sub, nI_clamp, vinI, not_true_eq_false, not_false_eq_true, iK0, iK1, iK2, iK3, iK4, iK5, iKm1, bK6, bK7, bK8, bK9, bK10, bK12, bK14, bK15, bK16, bK20, bK21, bK26, bK30, bK32, bK33, bK45, bK48, bK57, bK59, bK60, bK62, bK63, bK64, bK80, bK93, bK98, bK99, bK100, bK104, bK107, bK109, bK110, bK112, bK113, bK114, bK115, bK116, bK119, sK255, sK256, sK500, sK700, sK798, sK912, sK1400, sK2000])) ?_
      (rintro _ _ ⟨rfl, rfl⟩) <;> (repeat' (first | refine And.intro ?_ ?_ | (with_reducible intro h9; exact absurd h9 (by simp only [cI, cN]; decide +kernel)) | with_reducible intro _ | exact (rfl : narrow _ _ = _) | decide | (unfold vp_in; decide)))
      refine cc0 [0, 1, 2, 3, 4, 5, 6, 7, 8] (md_writes hg _ (0 + (dig i).length + 1 + 1) 110 rfl (by omega) (by omega)) (by decide) (by decide) (by decide) rfl (by repeat' (first | exact trivial | refine And.intro ?_ ?_ | rfl)) (by first | rfl | (simp (discharger := omega) only [renVs, renV, rnI, cI, cN, ← nI_0, nI_ltI, nI_leI, nI_eq, nI_add, pk_mul, pk_sub, nI_clamp, vinI, not_true_eq_false, not_false_eq_true, iK0, iK1, iK2, iK3, iK4, iK5, iKm1, bK6, bK7, bK8, bK9, bK10, bK12, bK14, bK15, bK16, bK20, bK21, bK26, bK30, bK32, bK33, bK45, bK48, bK57, bK59, bK60, bK62, bK63, bK64, bK80, bK93, bK98, bK99, bK100, bK104, bK107, bK109, bK110, bK112, bK113, bK114, bK115, bK116, bK119, sK255, sK256, sK500, sK700, sK798, sK912, sK1400, sK2000])) ?_
      (rintro _ _ ⟨rfl, rfl⟩) <;> (repeat' (first | refine And.intro ?_ ?_ | (with_reducible intro h9; exact absurd h9 (by simp only [cI, cN]; decide +kernel)) | with_reducible intro _ | exact (rfl : narrow _ _ = _) | decide | (unfold vp_in; decide)))
      refine cc0 [0, 1, 2, 3, 4, 5, 6, 7, 8] (sn' _ _) (by decide) (by decide) (by decide) rfl (by repeat' (first | exact trivial | refine And.intro ?_ ?_ | rfl)) (by first | rfl | (simp (discharger := omega) only [renVs, renV, rnI, cI, cN, ← nI_0, nI_ltI, nI_leI, nI_eq, nI_add, pk_mul, pk_sub, nI_clamp, vinI, not_true_eq_false, not_false_eq_true, iK0, iK1, iK2, iK3, iK4, iK5, iKm1, bK6, bK7, bK8, bK9, bK10, bK12, bK14, bK15, bK16, bK20, bK21, bK26, bK30, bK32, bK33, bK45, bK48, bK57, bK59, bK60, bK62, bK63, bK64, bK80, bK93, bK98, bK99, bK100, bK104, bK107, bK109, bK110, bK112, bK113, bK114, bK115, bK116, bK119, sK255, sK256, sK500, sK700, sK798, sK912, sK1400, sK2000])) ?_
      (rintro _ _ ⟨rfl, rfl⟩) <;> (repeat' (first | refine And.intro ?_ ?_ | (with_reducible intro h9; exact absurd h9 (by simp only [cI, cN]; decide +kernel)) | with_reducible intro _ | exact (rfl : narrow _ _ = _) | decide | (unfold vp_in; decide)))
      refine cc0 [0, 1, 2, 3, 4, 5, 6, 7, 8] (md_wrN hg _ (0 + (dig i).length + 1 + 1 + 1) z rfl (by omega) (by omega)) (by decide) (by decide) (by decide) rfl (by repeat' (first | exact trivial | refine And.intro ?_ ?_ | rfl)) (by first | rfl | (simp (discharger := omega) only [renVs, renV, rnI, cI, cN, ← nI_0, nI_ltI, nI_leI, nI_eq, nI_add, pk_mul, pk_sub, nI_clamp, vinI, not_true_eq_false, not_false_eq_true, iK0, iK1, iK2, iK3, iK4, iK5, iKm1, bK6, bK7, bK8, bK9, bK10, bK12, bK14, bK15, bK16, bK20, bK21, bK26, bK30, bK32, bK33, bK45, bK48, bK57, bK59, bK60, bK62, bK63, bK64, bK80, bK93, bK98, bK99, bK100, bK104, bK107, bK109, bK110, bK112, bK113, bK114, bK115, bK116, bK119, sK255, sK256, sK500, sK700, sK798, sK912, sK1400, sK2000])) ?_
      (rintro _ _ ⟨rfl, rfl⟩) <;> (repeat' (first | refine And.intro ?_ ?_ | (with_reducible intro h9; exact absurd h9 (by simp only [cI, cN]; decide +kernel)) | with_reducible intro _ | exact (rfl : narrow _ _ = _) | decide | (unfold vp_in; decide)))
      refine AW.cg (fin (dig i ++ (64 :: 104 :: 110 :: dig z)) none _ _ ?_ (by (rw [wrl_app]) <;> rfl) rfl ?_ (Or.inl ⟨rfl, h3⟩)) rfl rfl rfl (by first | rfl | (simp (discharger := omega) only [msk, clr_i, clr_r, cI, cN, ← nI_0, nI_ltI, nI_leI, nI_eq, nI_add, pk_mul, pk_sub, nI_clamp, vinI, not_true_eq_false, not_false_eq_true, iK0, iK1, iK2, iK3, iK4, iK5, iKm1, bK6, bK7, bK8, bK9, bK10, bK12, bK14, bK15, bK16, bK20, bK21, bK26, bK30, bK32, bK33, bK45, bK48, bK57, bK59, bK60, bK62, bK63, bK64, bK80, bK93, bK98, bK99, bK100, bK104, bK107, bK109, bK110, bK112, bK113, bK114, bK115, bK116, bK119, sK255, sK256, sK500, sK700, sK798, sK912, sK1400, sK2000]; done) | (simp (discharger := omega) only [msk, clr_i, clr_r, cI, cN, ← nI_0, nI_ltI, nI_leI, nI_eq, nI_add, pk_mul, pk_sub, nI_clamp, vinI, not_true_eq_false, not_false_eq_true, iK0, iK1, iK2, iK3, iK4, iK5, iKm1, bK6, bK7, bK8, bK9, bK10, bK12, bK14, bK15, bK16, bK20, bK21, bK26, bK30, bK32, bK33, bK45, bK48, bK57, bK59, bK60, bK62, bK63, bK64, bK80, bK93, bK98, bK99, bK100, bK104, bK107, bK109, bK110, bK112, bK113, bK114, bK115, bK116, bK119, sK255, sK256, sK500, sK700, sK798, sK912, sK1400, sK2000]; rfl)) rfl ?_
      · unfold lnL
        simp only [List.append_assoc, List.cons_append, List.nil_append]
      · simp only [List.length_append, List.length_cons]; omega
      · rw [List.length_append, List.length_cons, List.length_cons, List.length_cons, show (dig i).length + ((dig z).length + 1 + 1 + 1) = 0 + (dig i).length + 1 + 1 + 1 + (dig z).length by omega]
        rfl
    · have h3' : N.g (30 + 7 * i + 3) = nI r := h3
      have l2 := dig_len r
      have l2' : (dig r).length = 1 := by
        unfold dig
        rw [if_neg (by omega), if_neg (by omega)]
        rfl
      have sp' : ∀ (f : Nat → Int32) (x : Int32), Spec G 1 0 0 m_X9_of [.ref 0, .int (nI i), .int (nI 3)] (mw (((N.s_co (nI 0)).s_sn f).s_sm x)) (fun v w' => v = some (.int (nI r)) ∧ w' = mw (((N.s_co (nI 0)).s_sn f).s_sm x)) NX := fun f x => by
        have := md_of hg (((N.s_co (nI 0)).s_sn f).s_sm x) i 3 (by omega) (by omega)
        rw [show (((N.s_co (nI 0)).s_sn f).s_sm x).b i 3 = nI r from h3'] at this
        exact this
      have sn' : ∀ (f : Nat → Int32) (x : Int32), Spec G 2 0 0 m_X9_noteOf [.ref 0, .int (nI i)] (mw (((N.s_co (nI 0)).s_sn f).s_sm x)) (fun v w' => v = some (.int (nI z)) ∧ w' = mw (((N.s_co (nI 0)).s_sn f).s_sm x)) NX := fun f x => by
        have := md_note hg (((N.s_co (nI 0)).s_sn f).s_sm x) i (by omega)
        rw [show gnote (((N.s_co (nI 0)).s_sn f).s_sm x).g i = nI z from hz2] at this
        exact this
      refine cc0 [0, 1, 2, 3, 4, 5, 6, 7, 8] (sp' _ _) (by decide) (by decide) (by decide) rfl (by repeat' (first | exact trivial | refine And.intro ?_ ?_ | rfl)) (by first | rfl | (simp (discharger := omega) only [renVs, renV, rnI, cI, cN, ← nI_0, nI_ltI, nI_leI, nI_eq, nI_add, pk_mul, pk_sub, nI_clamp, vinI, not_true_eq_false, not_false_eq_true, iK0, iK1, iK2, iK3, iK4, iK5, iKm1, bK6, bK7, bK8, bK9, bK10, bK12, bK14, bK15, bK16, bK20, bK21, bK26, bK30, bK32, bK33, bK45, bK48, bK57, bK59, bK60, bK62, bK63, bK64, bK80, bK93, bK98, bK99, bK100, bK104, bK107, bK109, bK110, bK112, bK113, bK114, bK115, bK116, bK119, sK255, sK256, sK500, sK700, sK798, sK912, sK1400, sK2000])) ?_
      (rintro _ _ ⟨rfl, rfl⟩) <;> (repeat' (first | refine And.intro ?_ ?_ | (with_reducible intro h9; exact absurd h9 (by simp only [cI, cN]; decide +kernel)) | with_reducible intro _ | exact (rfl : narrow _ _ = _) | decide | (unfold vp_in; decide)))
      · refine cc0 [0, 1, 2, 3, 4, 5, 6, 7, 8] (sp' _ _) (by decide) (by decide) (by decide) rfl (by repeat' (first | exact trivial | refine And.intro ?_ ?_ | rfl)) (by first | rfl | (simp (discharger := omega) only [renVs, renV, rnI, cI, cN, ← nI_0, nI_ltI, nI_leI, nI_eq, nI_add, pk_mul, pk_sub, nI_clamp, vinI, not_true_eq_false, not_false_eq_true, iK0, iK1, iK2, iK3, iK4, iK5, iKm1, bK6, bK7, bK8, bK9, bK10, bK12, bK14, bK15, bK16, bK20, bK21, bK26, bK30, bK32, bK33, bK45, bK48, bK57, bK59, bK60, bK62, bK63, bK64, bK80, bK93, bK98, bK99, bK100, bK104, bK107, bK109, bK110, bK112, bK113, bK114, bK115, bK116, bK119, sK255, sK256, sK500, sK700, sK798, sK912, sK1400, sK2000])) ?_
        (rintro _ _ ⟨rfl, rfl⟩) <;> (repeat' (first | refine And.intro ?_ ?_ | (with_reducible intro h9; exact absurd h9 (by simp only [cI, cN]; decide +kernel)) | with_reducible intro _ | exact (rfl : narrow _ _ = _) | decide | (unfold vp_in; decide)))
        refine cc0 [0, 1, 2, 3, 4, 5, 6, 7, 8] (md_wrN hg _ (0 + (dig i).length + 1) r rfl (by omega) (by omega)) (by decide) (by decide) (by decide) rfl (by repeat' (first | exact trivial | refine And.intro ?_ ?_ | rfl)) (by first | rfl | (simp (discharger := omega) only [renVs, renV, rnI, cI, cN, ← nI_0, nI_ltI, nI_leI, nI_eq, nI_add, pk_mul, pk_sub, nI_clamp, vinI, not_true_eq_false, not_false_eq_true, iK0, iK1, iK2, iK3, iK4, iK5, iKm1, bK6, bK7, bK8, bK9, bK10, bK12, bK14, bK15, bK16, bK20, bK21, bK26, bK30, bK32, bK33, bK45, bK48, bK57, bK59, bK60, bK62, bK63, bK64, bK80, bK93, bK98, bK99, bK100, bK104, bK107, bK109, bK110, bK112, bK113, bK114, bK115, bK116, bK119, sK255, sK256, sK500, sK700, sK798, sK912, sK1400, sK2000])) ?_
        (rintro _ _ ⟨rfl, rfl⟩) <;> (repeat' (first | refine And.intro ?_ ?_ | (with_reducible intro h9; exact absurd h9 (by simp only [cI, cN]; decide +kernel)) | with_reducible intro _ | exact (rfl : narrow _ _ = _) | decide | (unfold vp_in; decide)))
        refine cc0 [0, 1, 2, 3, 4, 5, 6, 7, 8] (md_writes hg _ (0 + (dig i).length + 1 + (dig r).length) 110 rfl (by omega) (by omega)) (by decide) (by decide) (by decide) rfl (by repeat' (first | exact trivial | refine And.intro ?_ ?_ | rfl)) (by first | rfl | (simp (discharger := omega) only [renVs, renV, rnI, cI, cN, ← nI_0, nI_ltI, nI_leI, nI_eq, nI_add, pk_mul, pk_sub, nI_clamp, vinI, not_true_eq_false, not_false_eq_true, iK0, iK1, iK2, iK3, iK4, iK5, iKm1, bK6, bK7, bK8, bK9, bK10, bK12, bK14, bK15, bK16, bK20, bK21, bK26, bK30, bK32, bK33, bK45, bK48, bK57, bK59, bK60, bK62, bK63, bK64, bK80, bK93, bK98, bK99, bK100, bK104, bK107, bK109, bK110, bK112, bK113, bK114, bK115, bK116, bK119, sK255, sK256, sK500, sK700, sK798, sK912, sK1400, sK2000])) ?_
        (rintro _ _ ⟨rfl, rfl⟩) <;> (repeat' (first | refine And.intro ?_ ?_ | (with_reducible intro h9; exact absurd h9 (by simp only [cI, cN]; decide +kernel)) | with_reducible intro _ | exact (rfl : narrow _ _ = _) | decide | (unfold vp_in; decide)))
        refine cc0 [0, 1, 2, 3, 4, 5, 6, 7, 8] (sn' _ _) (by decide) (by decide) (by decide) rfl (by repeat' (first | exact trivial | refine And.intro ?_ ?_ | rfl)) (by first | rfl | (simp (discharger := omega) only [renVs, renV, rnI, cI, cN, ← nI_0, nI_ltI, nI_leI, nI_eq, nI_add, pk_mul, pk_sub, nI_clamp, vinI, not_true_eq_false, not_false_eq_true, iK0, iK1, iK2, iK3, iK4, iK5, iKm1, bK6, bK7, bK8, bK9, bK10, bK12, bK14, bK15, bK16, bK20, bK21, bK26, bK30, bK32, bK33, bK45, bK48, bK57, bK59, bK60, bK62, bK63, bK64, bK80, bK93, bK98, bK99, bK100, bK104, bK107, bK109, bK110, bK112, bK113, bK114, bK115, bK116, bK119, sK255, sK256, sK500, sK700, sK798, sK912, sK1400, sK2000])) ?_
        (rintro _ _ ⟨rfl, rfl⟩) <;> (repeat' (first | refine And.intro ?_ ?_ | (with_reducible intro h9; exact absurd h9 (by simp only [cI, cN]; decide +kernel)) | with_reducible intro _ | exact (rfl : narrow _ _ = _) | decide | (unfold vp_in; decide)))
        refine cc0 [0, 1, 2, 3, 4, 5, 6, 7, 8] (md_wrN hg _ (0 + (dig i).length + 1 + (dig r).length + 1) z rfl (by omega) (by omega)) (by decide) (by decide) (by decide) rfl (by repeat' (first | exact trivial | refine And.intro ?_ ?_ | rfl)) (by first | rfl | (simp (discharger := omega) only [renVs, renV, rnI, cI, cN, ← nI_0, nI_ltI, nI_leI, nI_eq, nI_add, pk_mul, pk_sub, nI_clamp, vinI, not_true_eq_false, not_false_eq_true, iK0, iK1, iK2, iK3, iK4, iK5, iKm1, bK6, bK7, bK8, bK9, bK10, bK12, bK14, bK15, bK16, bK20, bK21, bK26, bK30, bK32, bK33, bK45, bK48, bK57, bK59, bK60, bK62, bK63, bK64, bK80, bK93, bK98, bK99, bK100, bK104, bK107, bK109, bK110, bK112, bK113, bK114, bK115, bK116, bK119, sK255, sK256, sK500, sK700, sK798, sK912, sK1400, sK2000])) ?_
        (rintro _ _ ⟨rfl, rfl⟩) <;> (repeat' (first | refine And.intro ?_ ?_ | (with_reducible intro h9; exact absurd h9 (by simp only [cI, cN]; decide +kernel)) | with_reducible intro _ | exact (rfl : narrow _ _ = _) | decide | (unfold vp_in; decide)))
        refine AW.cg (fin (dig i ++ (64 :: (dig r ++ (110 :: dig z)))) (some r) _ _ ?_ (show wrl N.sn 0 (dig i ++ (64 :: (dig r ++ (110 :: dig z)))) = wrl (upd (wrl (upd (wrl N.sn 0 (dig i)) (0 + (dig i).length) (nI 64)) (0 + (dig i).length + 1) (dig r)) (0 + (dig i).length + 1 + (dig r).length) (nI 110)) (0 + (dig i).length + 1 + (dig r).length + 1) (dig z) from by
          rw [wrl_app]
          exact wrl_app (f := upd (wrl N.sn 0 (dig i)) (0 + (dig i).length) (nI 64)) (l := dig r) (m := 110 :: dig z) (n := 0 + (dig i).length + 1)) rfl ?_ (Or.inr ⟨r, rfl, h3, hr4⟩)) rfl rfl rfl (by first | rfl | (simp (discharger := omega) only [msk, clr_i, clr_r, cI, cN, ← nI_0, nI_ltI, nI_leI, nI_eq, nI_add, pk_mul, pk_sub, nI_clamp, vinI, not_true_eq_false, not_false_eq_true, iK0, iK1, iK2, iK3, iK4, iK5, iKm1, bK6, bK7, bK8, bK9, bK10, bK12, bK14, bK15, bK16, bK20, bK21, bK26, bK30, bK32, bK33, bK45, bK48, bK57, bK59, bK60, bK62, bK63, bK64, bK80, bK93, bK98, bK99, bK100, bK104, bK107, bK109, bK110, bK112, bK113, bK114, bK115, bK116, bK119, sK255, sK256, sK500, sK700, sK798, sK912, sK1400, sK2000]; done) | (simp (discharger := omega) only [msk, clr_i, clr_r, cI, cN, ← nI_0, nI_ltI, nI_leI, nI_eq, nI_add, pk_mul, pk_sub, nI_clamp, vinI, not_true_eq_false, not_false_eq_true, iK0, iK1, iK2, iK3, iK4, iK5, iKm1, bK6, bK7, bK8, bK9, bK10, bK12, bK14, bK15, bK16, bK20, bK21, bK26, bK30, bK32, bK33, bK45, bK48, bK57, bK59, bK60, bK62, bK63, bK64, bK80, bK93, bK98, bK99, bK100, bK104, bK107, bK109, bK110, bK112, bK113, bK114, bK115, bK116, bK119, sK255, sK256, sK500, sK700, sK798, sK912, sK1400, sK2000]; rfl)) rfl ?_
        · unfold lnL
          simp only [List.append_assoc, List.cons_append, List.nil_append]
        · simp only [List.length_append, List.length_cons]; omega
        · rw [List.length_append, List.length_cons, List.length_append, List.length_cons, show (dig i).length + ((dig r).length + ((dig z).length + 1) + 1) = 0 + (dig i).length + 1 + (dig r).length + 1 + (dig z).length by omega]
          rfl
      · rename_i g
        exact absurd (show nI 0 ≤ nI r by rw [nI_leI (by omega) (by omega)]; omega) (by rw [nI_0]; exact g)
  · refine cc0 [0, 1, 2, 3, 4, 5, 6, 7, 8] (md_f1 hg N) (by decide) (by decide) (by decide) rfl (by repeat' (first | exact trivial | refine And.intro ?_ ?_ | rfl)) (by first | rfl | (simp (discharger := omega) only [renVs, renV, rnI, cI, cN, ← nI_0, nI_ltI, nI_leI, nI_eq, nI_add, pk_mul, pk_sub, nI_clamp, vinI, not_true_eq_false, not_false_eq_true, iK0, iK1, iK2, iK3, iK4, iK5, iKm1, bK6, bK7, bK8, bK9, bK10, bK12, bK14, bK15, bK16, bK20, bK21, bK26, bK30, bK32, bK33, bK45, bK48, bK57, bK59, bK60, bK62, bK63, bK64, bK80, bK93, bK98, bK99, bK100, bK104, bK107, bK109, bK110, bK112, bK113, bK114, bK115, bK116, bK119, sK255, sK256, sK500, sK700, sK798, sK912, sK1400, sK2000])) ?_
    (rintro _ _ ⟨rfl, rfl⟩) <;> (repeat' (first | refine And.intro ?_ ?_ | (with_reducible intro h9; exact absurd h9 (by simp only [cI, cN]; decide +kernel)) | with_reducible intro _ | exact (rfl : narrow _ _ = _) | decide | (unfold vp_in; decide)))
    exact Or.inl ⟨q, rfl, _, rfl⟩
end ML
theorem wrl_mem {f : Nat → Int32} : ∀ {l : List Nat} {n i : Nat}, n ≤ i → i < n + l.length → ∃ c, c ∈ l ∧ wrl f n l i = nI c
  | [], n, i, h1, h2 => by simp at h2; omega
  | c :: l, n, i, h1, h2 => by
    show ∃ d, d ∈ c :: l ∧ wrl (upd f n (nI c)) (n + 1) l i = nI d
    by_cases q : i = n
    · subst q
      exact ⟨c, List.mem_cons_self, by rw [wrl_lo (by omega), upd_eq]⟩
    · obtain ⟨d, h3, h4⟩ := wrl_mem (f := upd f n (nI c)) (l := l) (n := n + 1) (i := i) (by omega) (by simp at h2; omega)
      exact ⟨d, List.mem_cons_of_mem _ h3, h4⟩
def sbL (S : sT4) (t : xW) (l : List Nat) : Prop := ∃ f, sbS S t l.length f ∧ ∀ i, i < l.length → f i = wrl (fun _ => 0) 0 l i
theorem sbL_app {S' : sT4} {t' : xW} {l m : List Nat} {f f' : Nat → Int32} (h : ∀ i, i < l.length → f i = wrl (fun _ => 0) 0 l i) (hs : sbS S' t' (l.length + m.length) f') (ha : aft f f' l.length m) : sbL S' t' (l ++ m) := ⟨f', by rw [List.length_append]; exact hs, fun i hi => by
  rw [List.length_append] at hi
  rw [ha i hi, wrl_app, Nat.zero_add]
  exact wrl_cg h i hi⟩
theorem lnI_of {S : sT4} {t : xW} {N : nT} {l : List Nat} (h : sbL S t l) (h34 : l.length ≤ 34) (hc : ∀ c ∈ l, c < 128) : lnI S t ((N.s_sn (wrl N.sn 0 l)).s_sm (nI (0 + l.length))) := by
  obtain ⟨f, h1, h2⟩ := h
  refine ⟨l.length, f, h1, by rw [Nat.zero_add], h34, fun i hi => ?_⟩
  obtain ⟨c, h3, h4⟩ := wrl_mem (f := fun _ => 0) (l := l) (n := 0) (i := i) (Nat.zero_le _) (by omega)
  refine ⟨c, hc c h3, (h2 i hi).trans h4, ?_⟩
  show wrl N.sn 0 l i = nI c
  rw [← h4]
  exact wrl_cg (fun j hj => absurd hj (Nat.not_lt_zero j)) i (by omega)
section LL
variable {G : gT} {F E : fT} {H : hT} {r : Int32 × Int32} {X : xT} {ht : Nat → Int32} {P : pT7} {S : sT4} {sd : Value} {er : Int32} {t : xW} {N : nT}
set_option maxRecDepth 20000 in
theorem wl_app (hg : gOK G) {l : List Nat} (hS : sbL S t l) (c : Nat) (hn : l.length + 1 ≤ 34) (hc : c < 128) : Spec G 8 1 34 m_J4_append_cf468 [.ref 29, .int (nI c)] (ww F E H r X ht P S sd er t) (fun v w' => v = some (.ref 29) ∧ ∃ S' t', w' = ww F E H r X ht P S' sd er t' ∧ sbL S' t' (l ++ [c]) ∧ tpr t t') NX := by
  obtain ⟨f, h1, h2⟩ := hS
  refine Spec.mono (wb_app hg S l.length c f h1 hn hc) ?_ (fun _ _ h => h)
  rintro _ _ ⟨rfl, S', t', f', rfl, h3, h4, h5⟩
  exact ⟨rfl, S', t', rfl, sbL_app h2 h3 h4, h5⟩
set_option maxRecDepth 20000 in
theorem wl_appI (hg : gOK G) {l : List Nat} (hS : sbL S t l) (z : Nat) (hn : l.length + (dig z).length ≤ 34) (hz : z < 128) : Spec G 8 1 34 m_J4_append_bf812 [.ref 29, .int (nI z)] (ww F E H r X ht P S sd er t) (fun v w' => v = some (.ref 29) ∧ ∃ S' t', w' = ww F E H r X ht P S' sd er t' ∧ sbL S' t' (l ++ dig z) ∧ tpr t t') NX := by
  obtain ⟨f, h1, h2⟩ := hS
  refine Spec.mono (wb_appI hg S l.length z f h1 hn hz) ?_ (fun _ _ h => h)
  rintro _ _ ⟨rfl, S', t', f', rfl, h3, h4, h5⟩
  exact ⟨rfl, S', t', rfl, sbL_app h2 h3 h4, h5⟩
set_option maxRecDepth 20000 in
theorem wl_set (hg : gOK G) {n : Nat} {f : Nat → Int32} (hS : sbS S t n f) : Spec G 4 0 0 m_J4_setLength_d00df [.ref 29, .int (nI 0)] (ww F E H r X ht P S sd er t) (fun v w' => v = none ∧ ∃ S', w' = ww F E H r X ht P S' sd er t ∧ sbL S' t []) NX := by
  refine Spec.mono (wb_set hg S n f hS) ?_ (fun _ _ h => h)
  rintro _ _ ⟨rfl, S', rfl, h3⟩
  exact ⟨rfl, S', rfl, f, h3, fun i hi => absurd hi (Nat.not_lt_zero i)⟩
set_option maxRecDepth 20000 in
theorem x_bell_l (hg : gOK G) (hF : fB F) (i cr : Nat) (hi : i < F.B.1) (h5 : F.b i 5 = nI cr) (hc9 : cr ≤ 9) (t0 : xW) (pre : List Nat) (hp : pre.length ≤ 20) {K : Option Value → xW → Prop} {KX : Nat → xW → Prop} (hK : ∀ S' t', sbL S' t' (pre ++ List.replicate cr 33) → tpr t0 t' → K none (ww F E H r X ht P S' sd er t')) : ∀ (c k : Nat) (hk : k ≤ cr) (hcc : cr - k = c) (S : sT4) (t : xW) (hS : sbL S t (pre ++ List.replicate k 33)) (ht0 : tpr t0 t),
    AW G M_X8_writeBell 9 (9 - k) (34 * (9 - k)) 95 [some (.ref 0), some (.int (nI i)), none, some (.int (nI k))] [] (ww F E H r X ht P S sd er t) K KX := by
  have h12 := hF.2.2
  have sp := tb_get hg 12 8 F.B.1 i 5 F.B.2 h12 hi (by omega) (by omega) (by omega) (by omega)
  rw [show F.B.2 (i * 8 + 5) = nI cr from h5] at sp
  intro c
  induction c with
  | zero =>
    intro k hk hcc S t hS ht0
    have e : k = cr := by omega
    subst e
    refine wp_ok (M := M_X8_writeBell) hg ok_X8_writeBell (lkp []) 60 _ _ _ _ _ _ ?_
    repeat' (first | refine And.intro ?_ ?_ | (with_reducible intro h9; exact absurd h9 (by simp only [cI, cN]; decide +kernel)) | with_reducible intro _ | exact (rfl : narrow _ _ = _) | decide | (unfold vp_in; decide) | refine Eq.mpr (fL_eq _ _) ?_ | refine Eq.mpr (fW_eq _ _) ?_ | refine Eq.mpr (fN_eq _ _) ?_)
    refine ccn 31 [6, 7] sp (by decide) (Nat.zero_le _) (Nat.zero_le _) rfl (by repeat' (first | exact trivial | refine And.intro ?_ ?_ | rfl)) rfl ?_
    (rintro _ _ ⟨rfl, rfl⟩) <;> (repeat' (first | refine And.intro ?_ ?_ | (with_reducible intro h9; exact absurd h9 (by simp only [cI, cN]; decide +kernel)) | with_reducible intro _ | exact (rfl : narrow _ _ = _) | decide | (unfold vp_in; decide) | refine Eq.mpr (fL_eq _ _) ?_ | refine Eq.mpr (fW_eq _ _) ?_ | refine Eq.mpr (fN_eq _ _) ?_))
    · exact hK S t hS ht0
    · rename_i g
      exfalso
      exact g ((nI_leI (by omega) (by omega)).mpr (by omega))
  | succ c ih =>
    intro k hk hcc S t hS ht0
    have hl : (pre ++ List.replicate k 33).length + 1 ≤ 34 := by
      rw [List.length_append, List.length_replicate]
      omega
    refine wp_ok (M := M_X8_writeBell) hg ok_X8_writeBell (lkp [(95, [true, true, false, true])]) 60 _ _ _ _ _ _ ?_
    repeat' (first | refine And.intro ?_ ?_ | (with_reducible intro h9; exact absurd h9 (by simp only [cI, cN]; decide +kernel)) | with_reducible intro _ | exact (rfl : narrow _ _ = _) | decide | (unfold vp_in; decide) | refine Eq.mpr (fL_eq _ _) ?_ | refine Eq.mpr (fW_eq _ _) ?_ | refine Eq.mpr (fN_eq _ _) ?_)
    refine ccn 31 [6, 7] sp (by decide) (Nat.zero_le _) (Nat.zero_le _) rfl (by repeat' (first | exact trivial | refine And.intro ?_ ?_ | rfl)) rfl ?_
    (rintro _ _ ⟨rfl, rfl⟩) <;> (repeat' (first | refine And.intro ?_ ?_ | (with_reducible intro h9; exact absurd h9 (by simp only [cI, cN]; decide +kernel)) | with_reducible intro _ | exact (rfl : narrow _ _ = _) | decide | (unfold vp_in; decide) | refine Eq.mpr (fL_eq _ _) ?_ | refine Eq.mpr (fW_eq _ _) ?_ | refine Eq.mpr (fN_eq _ _) ?_))
    · rename_i g
      exfalso
      have := (nI_leI (by omega) (by omega)).mp g
      omega
    · refine cci 31 (wl_app hg hS 33 hl (by omega)) (by decide) (by omega) (by omega) rfl (by simp only [bK33]) ?_ (fun _ _ h => h.elim)
      (rintro _ _ ⟨rfl, S', t', rfl, h1, h2⟩) <;> (repeat' (first | refine And.intro ?_ ?_ | (with_reducible intro h9; exact absurd h9 (by simp only [cI, cN]; decide +kernel)) | with_reducible intro _ | exact (rfl : narrow _ _ = _) | decide | (unfold vp_in; decide) | refine Eq.mpr (fL_eq _ _) ?_ | refine Eq.mpr (fW_eq _ _) ?_ | refine Eq.mpr (fN_eq _ _) ?_))
      have e : pre ++ List.replicate k 33 ++ [33] = pre ++ List.replicate (k + 1) 33 := by
        rw [List.append_assoc, ← List.replicate_succ']
      rw [e] at h1
      exact AW.cg (ih (k + 1) (by omega) (by omega) S' t' h1 (ht0.tr h2)) (by omega) (by omega) rfl (by first | rfl | (simp (discharger := omega) only [msk, clr_i, clr_r, cI, cN, ← nI_0, nI_ltI, nI_leI, nI_eq, nI_add, pk_mul, pk_sub, nI_clamp, vinI, not_true_eq_false, not_false_eq_true, iK0, iK1, iK2, iK3, iK4, iK5, iKm1, bK6, bK7, bK8, bK9, bK10, bK12, bK14, bK15, bK16, bK20, bK21, bK26, bK30, bK32, bK33, bK45, bK48, bK57, bK59, bK60, bK62, bK63, bK64, bK80, bK93, bK98, bK99, bK100, bK104, bK107, bK109, bK110, bK112, bK113, bK114, bK115, bK116, bK119, sK255, sK256, sK500, sK700, sK798, sK912, sK1400, sK2000]; done) | (simp (discharger := omega) only [msk, clr_i, clr_r, cI, cN, ← nI_0, nI_ltI, nI_leI, nI_eq, nI_add, pk_mul, pk_sub, nI_clamp, vinI, not_true_eq_false, not_false_eq_true, iK0, iK1, iK2, iK3, iK4, iK5, iKm1, bK6, bK7, bK8, bK9, bK10, bK12, bK14, bK15, bK16, bK20, bK21, bK26, bK30, bK32, bK33, bK45, bK48, bK57, bK59, bK60, bK62, bK63, bK64, bK80, bK93, bK98, bK99, bK100, bK104, bK107, bK109, bK110, bK112, bK113, bK114, bK115, bK116, bK119, sK255, sK256, sK500, sK700, sK798, sK912, sK1400, sK2000]; rfl)) rfl rfl
end LL
