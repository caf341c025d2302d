/-! ===== Text: readOrders; constructors of Hall, Pouring, Refusal, Text ===== -/
section XX
variable {G : gT}
set_option maxRecDepth 20000 in
theorem tx_orders_l (hg : gOK G) (t : Nat → Int32) (n : Nat) (hn6 : n ≤ 60) (R : Option (List orT) × Nat) {K : Option Value → xW → Prop} {KX : Nat → xW → Prop} (hK : ∀ v w', xsA t n R v w' → K v w') : ∀ (u a : Nat) (L : List orT) (f : Nat → Int32) (ha : a ≤ n) (hq : 3 * L.length ≤ a) (hf : u + L.length = 21) (htd : tblO f L) (hR : txR t n u a L = R),
    AW G M_X7_readOrders 5 0 0 14 [some (.ref 0), some (.int (nI L.length))] [] (xt L.length f t n a) K KX
  | 0, a, L, f, ha, hq, hf, htd, hR => by omega
  | u + 1, a, L, f, ha, hq, hf, htd, hR => by
    refine wp_ok (M := M_X7_readOrders) hg ok_X7_readOrders (lkp [(14, [true, true])]) 60 _ _ _ _ _ _ ?_
    repeat' (first | refine And.intro ?_ ?_ | (with_reducible intro h9; exact absurd h9 (by simp only [cI, cN]; decide +kernel)) | with_reducible intro _ | exact (rfl : narrow _ _ = _) | decide | (unfold vp_in; decide))
    · rename_i g
      simp (discharger := omega) only [upd_ne, upd_eq, Classical.not_not, cI, cN, ← nI_0, nI_ltI, nI_leI, nI_eq, nI_add, pk_mul, pk_sub, nI_clamp, vinI, not_true_eq_false, not_false_eq_true, iK0, iK1, iK2, iK3, iK4, iK5, iKm1, bK6, bK7, bK8, bK9, bK10, bK12, bK14, bK15, bK16, bK20, bK21, bK26, bK30, bK32, bK33, bK45, bK48, bK57, bK59, bK60, bK62, bK63, bK64, bK80, bK93, bK98, bK99, bK100, bK104, bK107, bK109, bK110, bK112, bK113, bK114, bK115, bK116, bK119, sK255, sK256, sK500, sK700, sK798, sK912, sK1400, sK2000] at g
      omega
    · refine cc0 [0, 1, 2, 3] (tx_order hg L.length f t n a hn6 ha (by omega)) (by decide) (by decide) (by decide) rfl (by repeat' (first | exact trivial | refine And.intro ?_ ?_ | rfl)) (by first | rfl | (simp (discharger := omega) only [renVs, renV, rnI, cI, cN, ← nI_0, nI_ltI, nI_leI, nI_eq, nI_add, pk_mul, pk_sub, nI_clamp, vinI, not_true_eq_false, not_false_eq_true, iK0, iK1, iK2, iK3, iK4, iK5, iKm1, bK6, bK7, bK8, bK9, bK10, bK12, bK14, bK15, bK16, bK20, bK21, bK26, bK30, bK32, bK33, bK45, bK48, bK57, bK59, bK60, bK62, bK63, bK64, bK80, bK93, bK98, bK99, bK100, bK104, bK107, bK109, bK110, bK112, bK113, bK114, bK115, bK116, bK119, sK255, sK256, sK500, sK700, sK798, sK912, sK1400, sK2000])) ?_
      (rintro _ _ (⟨x, v, w, e, ho, he, rfl, rfl⟩ | ⟨e, ho, rfl, rfl⟩)) <;> (repeat' (first | refine And.intro ?_ ?_ | (with_reducible intro h9; exact absurd h9 (by simp only [cI, cN]; decide +kernel)) | with_reducible intro _ | exact (rfl : narrow _ _ = _) | decide | (unfold vp_in; decide)))
      · have hadv := ordR_adv ho
        have htd2 := tblO_s (x := x) (v := v) (w := w) htd
        have hR2 : txR t n (u + 1) a L = (if hre t n e = nI 59 then txR t n u (e + 1) (L ++ [(x, v, w)]) else if e = n then (some (L ++ [(x, v, w)]), e) else (none, e)) := by
          show (match ordR t n a with | (none, e) => (none, e) | (some o, e) => if hre t n e = nI 59 then txR t n u (e + 1) (L ++ [o]) else if e = n then (some (L ++ [o]), e) else (none, e)) = _
          rw [ho]
        rw [hR] at hR2
        have hl : (L ++ [(x, v, w)]).length = L.length + 1 := by simp
        refine cc0 [0, 1, 2, 3] (tx_skip hg (L.length + 1) (kps3 f L.length x v w) t n e hn6 he (nI 59) (by decide)) (by decide) (by decide) (by decide) rfl (by repeat' (first | exact trivial | refine And.intro ?_ ?_ | rfl)) (by first | rfl | (simp (discharger := omega) only [renVs, renV, rnI, cI, cN, ← nI_0, nI_ltI, nI_leI, nI_eq, nI_add, pk_mul, pk_sub, nI_clamp, vinI, not_true_eq_false, not_false_eq_true, iK0, iK1, iK2, iK3, iK4, iK5, iKm1, bK6, bK7, bK8, bK9, bK10, bK12, bK14, bK15, bK16, bK20, bK21, bK26, bK30, bK32, bK33, bK45, bK48, bK57, bK59, bK60, bK62, bK63, bK64, bK80, bK93, bK98, bK99, bK100, bK104, bK107, bK109, bK110, bK112, bK113, bK114, bK115, bK116, bK119, sK255, sK256, sK500, sK700, sK798, sK912, sK1400, sK2000])) ?_
        (rintro _ _ (⟨g, hlt, rfl, rfl⟩ | ⟨g, rfl, rfl⟩)) <;> (repeat' (first | refine And.intro ?_ ?_ | (with_reducible intro h9; exact absurd h9 (by simp only [cI, cN]; decide +kernel)) | with_reducible intro _ | exact (rfl : narrow _ _ = _) | decide | (unfold vp_in; decide)))
        · rw [if_pos g] at hR2
          refine AW.cg (tx_orders_l hg t n hn6 R hK u (e + 1) (L ++ [(x, v, w)]) (kps3 f L.length x v w) hlt (by rw [hl]; omega) (by rw [hl]; omega) htd2 hR2.symm) rfl rfl rfl ?_ rfl (by rw [hl]; rfl)
          rw [hl, ← nI_add]
          rfl
        · rename_i g9
          rw [if_neg g] at hR2
          simp (discharger := omega) only [upd_ne, upd_eq, Classical.not_not, cI, cN, ← nI_0, nI_ltI, nI_leI, nI_eq, nI_add, pk_mul, pk_sub, nI_clamp, vinI, not_true_eq_false, not_false_eq_true, iK0, iK1, iK2, iK3, iK4, iK5, iKm1, bK6, bK7, bK8, bK9, bK10, bK12, bK14, bK15, bK16, bK20, bK21, bK26, bK30, bK32, bK33, bK45, bK48, bK57, bK59, bK60, bK62, bK63, bK64, bK80, bK93, bK98, bK99, bK100, bK104, bK107, bK109, bK110, bK112, bK113, bK114, bK115, bK116, bK119, sK255, sK256, sK500, sK700, sK798, sK912, sK1400, sK2000] at g9
          rw [if_neg g9] at hR2
          exact hK _ _ (Or.inr ⟨L.length + 1, _, e, hR2, rfl, rfl⟩)
        · rename_i g9
          rw [if_neg g] at hR2
          simp (discharger := omega) only [upd_ne, upd_eq, Classical.not_not, cI, cN, ← nI_0, nI_ltI, nI_leI, nI_eq, nI_add, pk_mul, pk_sub, nI_clamp, vinI, not_true_eq_false, not_false_eq_true, iK0, iK1, iK2, iK3, iK4, iK5, iKm1, bK6, bK7, bK8, bK9, bK10, bK12, bK14, bK15, bK16, bK20, bK21, bK26, bK30, bK32, bK33, bK45, bK48, bK57, bK59, bK60, bK62, bK63, bK64, bK80, bK93, bK98, bK99, bK100, bK104, bK107, bK109, bK110, bK112, bK113, bK114, bK115, bK116, bK119, sK255, sK256, sK500, sK700, sK798, sK912, sK1400, sK2000] at g9
          subst g9
          rw [if_pos rfl] at hR2
          refine hK _ _ (Or.inl ⟨L ++ [(x, v, w)], kps3 f L.length x v w, hR2, by rw [hl]; omega, htd2, rfl, ?_⟩)
          rw [hl]
          rfl
      · have hR2 : txR t n (u + 1) a L = (none, e) := by
          show (match ordR t n a with | (none, e) => (none, e) | (some o, e) => if hre t n e = nI 59 then txR t n u (e + 1) (L ++ [o]) else if e = n then (some (L ++ [o]), e) else (none, e)) = _
          rw [ho]
        rw [hR] at hR2
        exact hK _ _ (Or.inr ⟨L.length, f, e, hR2, rfl, rfl⟩)
set_option maxRecDepth 20000 in
theorem tx_orders (hg : gOK G) (q : Nat) (f t : Nat → Int32) (n a : Nat) (hn6 : n ≤ 60) : Spec G 5 0 0 m_X7_readOrders [.ref 0] (xt q f t n a) (fun v w' => xsA t n (txR t n 21 0 []) v w') NX := by
  refine wp_spec (M := M_X7_readOrders) hg ok_X7_readOrders (lkp [(14, [true, true])]) 60 rfl rfl ?_
  repeat' (first | refine And.intro ?_ ?_ | (with_reducible intro h9; exact absurd h9 (by simp only [cI, cN]; decide +kernel)) | with_reducible intro _ | exact (rfl : narrow _ _ = _) | decide | (unfold vp_in; decide))
  refine cc0 [1, 2] (tb_clear hg 21 3 q f) (by decide) (by decide) (by decide) rfl (by repeat' (first | exact trivial | refine And.intro ?_ ?_ | rfl)) (by first | rfl | (simp (discharger := omega) only [renVs, renV, rnI, cI, cN, ← nI_0, nI_ltI, nI_leI, nI_eq, nI_add, pk_mul, pk_sub, nI_clamp, vinI, not_true_eq_false, not_false_eq_true, iK0, iK1, iK2, iK3, iK4, iK5, iKm1, bK6, bK7, bK8, bK9, bK10, bK12, bK14, bK15, bK16, bK20, bK21, bK26, bK30, bK32, bK33, bK45, bK48, bK57, bK59, bK60, bK62, bK63, bK64, bK80, bK93, bK98, bK99, bK100, bK104, bK107, bK109, bK110, bK112, bK113, bK114, bK115, bK116, bK119, sK255, sK256, sK500, sK700, sK798, sK912, sK1400, sK2000])) ?_
  (rintro _ _ ⟨rfl, rfl⟩) <;> (repeat' (first | refine And.intro ?_ ?_ | (with_reducible intro h9; exact absurd h9 (by simp only [cI, cN]; decide +kernel)) | with_reducible intro _ | exact (rfl : narrow _ _ = _) | decide | (unfold vp_in; decide)))
  exact AW.cg (tx_orders_l hg t n hn6 _ (fun v w' h => h) 21 0 [] f (Nat.zero_le _) (Nat.le_refl _) rfl (fun i o h => by simp at h) rfl) rfl rfl rfl (by first | rfl | (simp (discharger := omega) only [msk, clr_i, clr_r, cI, cN, ← nI_0, nI_ltI, nI_leI, nI_eq, nI_add, pk_mul, pk_sub, nI_clamp, vinI, not_true_eq_false, not_false_eq_true, iK0, iK1, iK2, iK3, iK4, iK5, iKm1, bK6, bK7, bK8, bK9, bK10, bK12, bK14, bK15, bK16, bK20, bK21, bK26, bK30, bK32, bK33, bK45, bK48, bK57, bK59, bK60, bK62, bK63, bK64, bK80, bK93, bK98, bK99, bK100, bK104, bK107, bK109, bK110, bK112, bK113, bK114, bK115, bK116, bK119, sK255, sK256, sK500, sK700, sK798, sK912, sK1400, sK2000]; done) | (simp (discharger := omega) only [msk, clr_i, clr_r, cI, cN, ← nI_0, nI_ltI, nI_leI, nI_eq, nI_add, pk_mul, pk_sub, nI_clamp, vinI, not_true_eq_false, not_false_eq_true, iK0, iK1, iK2, iK3, iK4, iK5, iKm1, bK6, bK7, bK8, bK9, bK10, bK12, bK14, bK15, bK16, bK20, bK21, bK26, bK30, bK32, bK33, bK45, bK48, bK57, bK59, bK60, bK62, bK63, bK64, bK80, bK93, bK98, bK99, bK100, bK104, bK107, bK109, bK110, bK112, bK113, bK114, bK115, bK116, bK119, sK255, sK256, sK500, sK700, sK798, sK912, sK1400, sK2000]; rfl)) rfl rfl
set_option maxRecDepth 20000 in
theorem tx_init (hg : gOK G) : Spec G 3 3 130 m_X7_init [.ref 0] [.inr (10, [.null, .null, .int 0, .int 0])] (fun v w' => v = none ∧ w' = xt 0 (fun _ => 0) (fun _ => 0) 0 0) NX := by
  refine wp_spec (M := M_X7_init) hg ok_X7_init cut0 60 rfl rfl ?_
  repeat' (first | refine And.intro ?_ ?_ | (with_reducible intro h9; exact absurd h9 (by simp only [cI, cN]; decide +kernel)) | with_reducible intro _ | exact (rfl : narrow _ _ = _) | decide | (unfold vp_in; decide))
  refine cc0 [1] (tb_init hg 21 3 (by omega) (by omega) (by omega)) (by decide) (by decide) (by decide) rfl (by repeat' (first | exact trivial | refine And.intro ?_ ?_ | rfl)) (by first | rfl | (simp (discharger := omega) only [renVs, renV, rnI, cI, cN, ← nI_0, nI_ltI, nI_leI, nI_eq, nI_add, pk_mul, pk_sub, nI_clamp, vinI, not_true_eq_false, not_false_eq_true, iK0, iK1, iK2, iK3, iK4, iK5, iKm1, bK6, bK7, bK8, bK9, bK10, bK12, bK14, bK15, bK16, bK20, bK21, bK26, bK30, bK32, bK33, bK45, bK48, bK57, bK59, bK60, bK62, bK63, bK64, bK80, bK93, bK98, bK99, bK100, bK104, bK107, bK109, bK110, bK112, bK113, bK114, bK115, bK116, bK119, sK255, sK256, sK500, sK700, sK798, sK912, sK1400, sK2000])) ?_
  (rintro _ _ ⟨rfl, rfl⟩) <;> (repeat' (first | refine And.intro ?_ ?_ | (with_reducible intro h9; exact absurd h9 (by simp only [cI, cN]; decide +kernel)) | with_reducible intro _ | exact (rfl : narrow _ _ = _) | decide | (unfold vp_in; decide)))
  all_goals first | rfl | decide
set_option maxRecDepth 20000 in
theorem hl_init (hg : gOK G) : Spec G 3 1 113 m_X1_init [.ref 0] [.inr (5, [.null])] (fun v w' => v = none ∧ w' = hl (fun _ => 0)) NX := by
  refine wp_spec (M := M_X1_init) hg ok_X1_init cut0 60 rfl rfl ?_
  repeat' (first | refine And.intro ?_ ?_ | (with_reducible intro h9; exact absurd h9 (by simp only [cI, cN]; decide +kernel)) | with_reducible intro _ | exact (rfl : narrow _ _ = _) | decide | (unfold vp_in; decide))
  all_goals first | rfl | decide
set_option maxRecDepth 20000 in
theorem rf_init (hg : gOK G) : Spec G 3 0 0 m_X5_init [.ref 0] [.inr (8, [.int 0, .int 0])] (fun v w' => v = none ∧ w' = [.inr (8, [.int (nI 0), .int (nI 0)])]) NX := by
  refine wp_spec (M := M_X5_init) hg ok_X5_init cut0 60 rfl rfl ?_
  repeat' (first | refine And.intro ?_ ?_ | (with_reducible intro h9; exact absurd h9 (by simp only [cI, cN]; decide +kernel)) | with_reducible intro _ | exact (rfl : narrow _ _ = _) | decide | (unfold vp_in; decide))
  all_goals first | rfl | decide
set_option maxRecDepth 20000 in
theorem pr_init (hg : gOK G) : Spec G 3 4 776 m_X4_init [.ref 0] [.inr (7, [.null, .int 0, .int 0, .int 0, .null, .null, .null])] (fun v w' => v = none ∧ w' = [.inr (7, [.ref 1, .int (nI 0), .int (nI 0), .int (nI 0), .ref 2, .ref 3, .ref 4]), .inl (0, 8, .inl (fun _ => 0)), .inl (0, 256, .inl (fun _ => 0)), .inl (0, 256, .inl (fun _ => 0)), .inl (0, 256, .inl (fun _ => 0))]) NX := by
  refine wp_spec (M := M_X4_init) hg ok_X4_init cut0 60 rfl rfl ?_
  repeat' (first | refine And.intro ?_ ?_ | (with_reducible intro h9; exact absurd h9 (by simp only [cI, cN]; decide +kernel)) | with_reducible intro _ | exact (rfl : narrow _ _ = _) | decide | (unfold vp_in; decide))
  all_goals first | rfl | decide
set_option maxRecDepth 20000 in
theorem hi_init (hg : gOK G) : Spec G 3 1 8 m_X2_init [.ref 0] [.inr (6, [.null, .int 0, .int 0])] (fun v w' => v = none ∧ w' = [.inr (6, [.ref 1, .int (nI 0), .int (nI 0)]), .inl (6, 8, .inr (.inr (.inr (.inr (fun _ => none)))))]) NX := by
  refine wp_spec (M := M_X2_init) hg ok_X2_init cut0 60 rfl rfl ?_
  repeat' (first | refine And.intro ?_ ?_ | (with_reducible intro h9; exact absurd h9 (by simp only [cI, cN]; decide +kernel)) | with_reducible intro _ | exact (rfl : narrow _ _ = _) | decide | (unfold vp_in; decide))
  all_goals first | rfl | decide
end XX
